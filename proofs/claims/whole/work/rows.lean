section
-- ===== PART A: goes FIRST, ahead of the names: the tables' words, and 'selects' of the private methods out of them =====
/-- a private method of a class that the tables say can be made, by its rows of tables_1 -/
def lw_okq (q : MethodName × Nat) : Prop := (q.1.cls ≠ "java/lang/invoke/MethodHandle" ∧ q.1.cls ≠ "java/lang/invoke/VarHandle") ∧ Cond.instantiable q.1.cls q.2 ∈ tables_1 ∧ Cond.privateMethod q.1 ∈ tables_1 ∧ Cond.instanceMethod q.1 ∈ tables_1
theorem lw_p0 : lw_okq (⟨"ToldDrops$History", "dropOldest", "()V"⟩, 2) := ⟨⟨by decide +kernel, by decide +kernel⟩, List.mem_of_getElem? (i := 180) (by decide +kernel), List.mem_of_getElem? (i := 276) (by decide +kernel), List.mem_of_getElem? (i := 277) (by decide +kernel)⟩
theorem lw_p1 : lw_okq (⟨"ToldDrops$Valley", "moveRunners", "()V"⟩, 6) := ⟨⟨by decide +kernel, by decide +kernel⟩, List.mem_of_getElem? (i := 20) (by decide +kernel), List.mem_of_getElem? (i := 332) (by decide +kernel), List.mem_of_getElem? (i := 333) (by decide +kernel)⟩
theorem lw_p2 : lw_okq (⟨"ToldDrops$Valley", "hear", "(LToldDrops$Runner;)V"⟩, 6) := ⟨⟨by decide +kernel, by decide +kernel⟩, List.mem_of_getElem? (i := 20) (by decide +kernel), List.mem_of_getElem? (i := 340) (by decide +kernel), List.mem_of_getElem? (i := 341) (by decide +kernel)⟩
theorem lw_p3 : lw_okq (⟨"ToldDrops$Valley", "wentOn", "(LToldDrops$Gauge;LToldDrops$Runner;)I"⟩, 6) := ⟨⟨by decide +kernel, by decide +kernel⟩, List.mem_of_getElem? (i := 20) (by decide +kernel), List.mem_of_getElem? (i := 348) (by decide +kernel), List.mem_of_getElem? (i := 349) (by decide +kernel)⟩
theorem lw_p4 : lw_okq (⟨"ToldDrops$Valley", "expectedTips", "(LToldDrops$Gauge;LToldDrops$Runner;)I"⟩, 6) := ⟨⟨by decide +kernel, by decide +kernel⟩, List.mem_of_getElem? (i := 20) (by decide +kernel), List.mem_of_getElem? (i := 352) (by decide +kernel), List.mem_of_getElem? (i := 353) (by decide +kernel)⟩
theorem lw_p5 : lw_okq (⟨"ToldDrops$Valley", "roundsFor", "(I)I"⟩, 6) := ⟨⟨by decide +kernel, by decide +kernel⟩, List.mem_of_getElem? (i := 20) (by decide +kernel), List.mem_of_getElem? (i := 356) (by decide +kernel), List.mem_of_getElem? (i := 357) (by decide +kernel)⟩
theorem lw_p6 : lw_okq (⟨"ToldDrops$Valley", "addRunner", "()LToldDrops$Runner;"⟩, 6) := ⟨⟨by decide +kernel, by decide +kernel⟩, List.mem_of_getElem? (i := 20) (by decide +kernel), List.mem_of_getElem? (i := 377) (by decide +kernel), List.mem_of_getElem? (i := 378) (by decide +kernel)⟩
theorem lw_p7 : lw_okq (⟨"ToldDrops$OrderReader", "readRain", "()Z"⟩, 6) := ⟨⟨by decide +kernel, by decide +kernel⟩, List.mem_of_getElem? (i := 214) (by decide +kernel), List.mem_of_getElem? (i := 417) (by decide +kernel), List.mem_of_getElem? (i := 418) (by decide +kernel)⟩
theorem lw_p8 : lw_okq (⟨"ToldDrops$OrderReader", "readNumber", "(II)I"⟩, 6) := ⟨⟨by decide +kernel, by decide +kernel⟩, List.mem_of_getElem? (i := 214) (by decide +kernel), List.mem_of_getElem? (i := 421) (by decide +kernel), List.mem_of_getElem? (i := 422) (by decide +kernel)⟩
theorem lw_p9 : lw_okq (⟨"ToldDrops$OrderReader", "readGauge", "()Z"⟩, 6) := ⟨⟨by decide +kernel, by decide +kernel⟩, List.mem_of_getElem? (i := 214) (by decide +kernel), List.mem_of_getElem? (i := 430) (by decide +kernel), List.mem_of_getElem? (i := 431) (by decide +kernel)⟩
theorem lw_p10 : lw_okq (⟨"ToldDrops", "obeyOrder", "()Z"⟩, 7) := ⟨⟨by decide +kernel, by decide +kernel⟩, List.mem_of_getElem? (i := 12) (by decide +kernel), List.mem_of_getElem? (i := 443) (by decide +kernel), List.mem_of_getElem? (i := 444) (by decide +kernel)⟩
theorem lw_p11 : lw_okq (⟨"ToldDropsModel", "save0", "()V"⟩, 10) := ⟨⟨by decide +kernel, by decide +kernel⟩, List.mem_of_getElem? (i := 556) (by decide +kernel), List.mem_of_getElem? (i := 602) (by decide +kernel), List.mem_of_getElem? (i := 603) (by decide +kernel)⟩
theorem lw_p12 : lw_okq (⟨"ToldDropsModel", "runnerOf", "(II)I"⟩, 10) := ⟨⟨by decide +kernel, by decide +kernel⟩, List.mem_of_getElem? (i := 556) (by decide +kernel), List.mem_of_getElem? (i := 606) (by decide +kernel), List.mem_of_getElem? (i := 607) (by decide +kernel)⟩
theorem lw_p13 : lw_okq (⟨"ToldDropsModel", "add", "(III)V"⟩, 10) := ⟨⟨by decide +kernel, by decide +kernel⟩, List.mem_of_getElem? (i := 556) (by decide +kernel), List.mem_of_getElem? (i := 610) (by decide +kernel), List.mem_of_getElem? (i := 611) (by decide +kernel)⟩
theorem lw_p14 : lw_okq (⟨"ToldDropsModel", "drop", "(I)V"⟩, 10) := ⟨⟨by decide +kernel, by decide +kernel⟩, List.mem_of_getElem? (i := 556) (by decide +kernel), List.mem_of_getElem? (i := 614) (by decide +kernel), List.mem_of_getElem? (i := 615) (by decide +kernel)⟩
theorem lw_p15 : lw_okq (⟨"ToldDropsModel", "of", "(II)I"⟩, 10) := ⟨⟨by decide +kernel, by decide +kernel⟩, List.mem_of_getElem? (i := 556) (by decide +kernel), List.mem_of_getElem? (i := 618) (by decide +kernel), List.mem_of_getElem? (i := 619) (by decide +kernel)⟩
def lw_privs_1 : List (MethodName × Nat) := [(⟨"ToldDrops$History", "dropOldest", "()V"⟩, 2), (⟨"ToldDrops$Valley", "moveRunners", "()V"⟩, 6), (⟨"ToldDrops$Valley", "hear", "(LToldDrops$Runner;)V"⟩, 6), (⟨"ToldDrops$Valley", "wentOn", "(LToldDrops$Gauge;LToldDrops$Runner;)I"⟩, 6), (⟨"ToldDrops$Valley", "expectedTips", "(LToldDrops$Gauge;LToldDrops$Runner;)I"⟩, 6), (⟨"ToldDrops$Valley", "roundsFor", "(I)I"⟩, 6), (⟨"ToldDrops$Valley", "addRunner", "()LToldDrops$Runner;"⟩, 6), (⟨"ToldDrops$OrderReader", "readRain", "()Z"⟩, 6), (⟨"ToldDrops$OrderReader", "readNumber", "(II)I"⟩, 6), (⟨"ToldDrops$OrderReader", "readGauge", "()Z"⟩, 6), (⟨"ToldDrops", "obeyOrder", "()Z"⟩, 7), (⟨"ToldDropsModel", "save0", "()V"⟩, 10), (⟨"ToldDropsModel", "runnerOf", "(II)I"⟩, 10), (⟨"ToldDropsModel", "add", "(III)V"⟩, 10), (⟨"ToldDropsModel", "drop", "(I)V"⟩, 10), (⟨"ToldDropsModel", "of", "(II)I"⟩, 10)]
theorem lw_r1 : ∀ q ∈ lw_privs_1, lw_okq q := List.forall_mem_cons.mpr ⟨lw_p0, List.forall_mem_cons.mpr ⟨lw_p1, List.forall_mem_cons.mpr ⟨lw_p2, List.forall_mem_cons.mpr ⟨lw_p3, List.forall_mem_cons.mpr ⟨lw_p4, List.forall_mem_cons.mpr ⟨lw_p5, List.forall_mem_cons.mpr ⟨lw_p6, List.forall_mem_cons.mpr ⟨lw_p7, List.forall_mem_cons.mpr ⟨lw_p8, List.forall_mem_cons.mpr ⟨lw_p9, List.forall_mem_cons.mpr ⟨lw_p10, List.forall_mem_cons.mpr ⟨lw_p11, List.forall_mem_cons.mpr ⟨lw_p12, List.forall_mem_cons.mpr ⟨lw_p13, List.forall_mem_cons.mpr ⟨lw_p14, List.forall_mem_cons.mpr ⟨lw_p15, fun _ h => absurd h List.not_mem_nil⟩⟩⟩⟩⟩⟩⟩⟩⟩⟩⟩⟩⟩⟩⟩⟩
theorem lw_p16 : lw_okq (⟨"ToldDropsModel", "rainError", "(II)I"⟩, 10) := ⟨⟨by decide +kernel, by decide +kernel⟩, List.mem_of_getElem? (i := 556) (by decide +kernel), List.mem_of_getElem? (i := 634) (by decide +kernel), List.mem_of_getElem? (i := 635) (by decide +kernel)⟩
theorem lw_p17 : lw_okq (⟨"ToldDropsModel", "rains", "(II)I"⟩, 10) := ⟨⟨by decide +kernel, by decide +kernel⟩, List.mem_of_getElem? (i := 556) (by decide +kernel), List.mem_of_getElem? (i := 639) (by decide +kernel), List.mem_of_getElem? (i := 640) (by decide +kernel)⟩
theorem lw_p18 : lw_okq (⟨"ToldDropsModel", "hour", "(I)I"⟩, 10) := ⟨⟨by decide +kernel, by decide +kernel⟩, List.mem_of_getElem? (i := 556) (by decide +kernel), List.mem_of_getElem? (i := 643) (by decide +kernel), List.mem_of_getElem? (i := 644) (by decide +kernel)⟩
theorem lw_p19 : lw_okq (⟨"ToldDropsModel", "come", "()V"⟩, 10) := ⟨⟨by decide +kernel, by decide +kernel⟩, List.mem_of_getElem? (i := 556) (by decide +kernel), List.mem_of_getElem? (i := 647) (by decide +kernel), List.mem_of_getElem? (i := 648) (by decide +kernel)⟩
theorem lw_p20 : lw_okq (⟨"ToldDropsModel", "tell", "(IIIII)V"⟩, 10) := ⟨⟨by decide +kernel, by decide +kernel⟩, List.mem_of_getElem? (i := 556) (by decide +kernel), List.mem_of_getElem? (i := 651) (by decide +kernel), List.mem_of_getElem? (i := 652) (by decide +kernel)⟩
theorem lw_p21 : lw_okq (⟨"ToldDropsModel", "sends", "(I)I"⟩, 10) := ⟨⟨by decide +kernel, by decide +kernel⟩, List.mem_of_getElem? (i := 556) (by decide +kernel), List.mem_of_getElem? (i := 662) (by decide +kernel), List.mem_of_getElem? (i := 663) (by decide +kernel)⟩
theorem lw_p22 : lw_okq (⟨"ToldDropsModel", "wheel", "(I)I"⟩, 10) := ⟨⟨by decide +kernel, by decide +kernel⟩, List.mem_of_getElem? (i := 556) (by decide +kernel), List.mem_of_getElem? (i := 666) (by decide +kernel), List.mem_of_getElem? (i := 667) (by decide +kernel)⟩
theorem lw_p23 : lw_okq (⟨"ToldDropsModel", "go", "(Z)I"⟩, 10) := ⟨⟨by decide +kernel, by decide +kernel⟩, List.mem_of_getElem? (i := 556) (by decide +kernel), List.mem_of_getElem? (i := 682) (by decide +kernel), List.mem_of_getElem? (i := 683) (by decide +kernel)⟩
theorem lw_p24 : lw_okq (⟨"ToldDropsModel", "order", "(Z)I"⟩, 10) := ⟨⟨by decide +kernel, by decide +kernel⟩, List.mem_of_getElem? (i := 556) (by decide +kernel), List.mem_of_getElem? (i := 686) (by decide +kernel), List.mem_of_getElem? (i := 687) (by decide +kernel)⟩
theorem lw_p25 : lw_okq (⟨"ToldDropsModel", "number", "(II)I"⟩, 10) := ⟨⟨by decide +kernel, by decide +kernel⟩, List.mem_of_getElem? (i := 556) (by decide +kernel), List.mem_of_getElem? (i := 690) (by decide +kernel), List.mem_of_getElem? (i := 691) (by decide +kernel)⟩
theorem lw_p26 : lw_okq (⟨"ToldDropsModel", "sign", "(II)I"⟩, 10) := ⟨⟨by decide +kernel, by decide +kernel⟩, List.mem_of_getElem? (i := 556) (by decide +kernel), List.mem_of_getElem? (i := 694) (by decide +kernel), List.mem_of_getElem? (i := 695) (by decide +kernel)⟩
theorem lw_p27 : lw_okq (⟨"ToldDropsModel", "gap", "(I)I"⟩, 10) := ⟨⟨by decide +kernel, by decide +kernel⟩, List.mem_of_getElem? (i := 556) (by decide +kernel), List.mem_of_getElem? (i := 707) (by decide +kernel), List.mem_of_getElem? (i := 708) (by decide +kernel)⟩
theorem lw_p28 : lw_okq (⟨"ToldDropsModel", "all", "(I)I"⟩, 10) := ⟨⟨by decide +kernel, by decide +kernel⟩, List.mem_of_getElem? (i := 556) (by decide +kernel), List.mem_of_getElem? (i := 719) (by decide +kernel), List.mem_of_getElem? (i := 720) (by decide +kernel)⟩
theorem lw_p29 : lw_okq (⟨"ToldDropsModel", "gaps", "()I"⟩, 10) := ⟨⟨by decide +kernel, by decide +kernel⟩, List.mem_of_getElem? (i := 556) (by decide +kernel), List.mem_of_getElem? (i := 723) (by decide +kernel), List.mem_of_getElem? (i := 724) (by decide +kernel)⟩
theorem lw_p30 : lw_okq (⟨"ToldDropsModel", "untold", "(I)I"⟩, 10) := ⟨⟨by decide +kernel, by decide +kernel⟩, List.mem_of_getElem? (i := 556) (by decide +kernel), List.mem_of_getElem? (i := 731) (by decide +kernel), List.mem_of_getElem? (i := 732) (by decide +kernel)⟩
theorem lw_p31 : lw_okq (⟨"ToldDropsModel", "putAside", "()V"⟩, 10) := ⟨⟨by decide +kernel, by decide +kernel⟩, List.mem_of_getElem? (i := 556) (by decide +kernel), List.mem_of_getElem? (i := 740) (by decide +kernel), List.mem_of_getElem? (i := 741) (by decide +kernel)⟩
def lw_privs_2 : List (MethodName × Nat) := [(⟨"ToldDropsModel", "rainError", "(II)I"⟩, 10), (⟨"ToldDropsModel", "rains", "(II)I"⟩, 10), (⟨"ToldDropsModel", "hour", "(I)I"⟩, 10), (⟨"ToldDropsModel", "come", "()V"⟩, 10), (⟨"ToldDropsModel", "tell", "(IIIII)V"⟩, 10), (⟨"ToldDropsModel", "sends", "(I)I"⟩, 10), (⟨"ToldDropsModel", "wheel", "(I)I"⟩, 10), (⟨"ToldDropsModel", "go", "(Z)I"⟩, 10), (⟨"ToldDropsModel", "order", "(Z)I"⟩, 10), (⟨"ToldDropsModel", "number", "(II)I"⟩, 10), (⟨"ToldDropsModel", "sign", "(II)I"⟩, 10), (⟨"ToldDropsModel", "gap", "(I)I"⟩, 10), (⟨"ToldDropsModel", "all", "(I)I"⟩, 10), (⟨"ToldDropsModel", "gaps", "()I"⟩, 10), (⟨"ToldDropsModel", "untold", "(I)I"⟩, 10), (⟨"ToldDropsModel", "putAside", "()V"⟩, 10)]
theorem lw_r2 : ∀ q ∈ lw_privs_2, lw_okq q := List.forall_mem_cons.mpr ⟨lw_p16, List.forall_mem_cons.mpr ⟨lw_p17, List.forall_mem_cons.mpr ⟨lw_p18, List.forall_mem_cons.mpr ⟨lw_p19, List.forall_mem_cons.mpr ⟨lw_p20, List.forall_mem_cons.mpr ⟨lw_p21, List.forall_mem_cons.mpr ⟨lw_p22, List.forall_mem_cons.mpr ⟨lw_p23, List.forall_mem_cons.mpr ⟨lw_p24, List.forall_mem_cons.mpr ⟨lw_p25, List.forall_mem_cons.mpr ⟨lw_p26, List.forall_mem_cons.mpr ⟨lw_p27, List.forall_mem_cons.mpr ⟨lw_p28, List.forall_mem_cons.mpr ⟨lw_p29, List.forall_mem_cons.mpr ⟨lw_p30, List.forall_mem_cons.mpr ⟨lw_p31, fun _ h => absurd h List.not_mem_nil⟩⟩⟩⟩⟩⟩⟩⟩⟩⟩⟩⟩⟩⟩⟩⟩
theorem lw_p32 : lw_okq (⟨"ToldDropsModel", "putBack", "()V"⟩, 10) := ⟨⟨by decide +kernel, by decide +kernel⟩, List.mem_of_getElem? (i := 556) (by decide +kernel), List.mem_of_getElem? (i := 744) (by decide +kernel), List.mem_of_getElem? (i := 745) (by decide +kernel)⟩
def lw_privs_3 : List (MethodName × Nat) := [(⟨"ToldDropsModel", "putBack", "()V"⟩, 10)]
theorem lw_r3 : ∀ q ∈ lw_privs_3, lw_okq q := List.forall_mem_cons.mpr ⟨lw_p32, fun _ h => absurd h List.not_mem_nil⟩
def lw_privs : List (MethodName × Nat) := lw_privs_1 ++ (lw_privs_2 ++ (lw_privs_3))
def lw_tbl : List Cond := k2_sels lw_privs ++ tables_1
theorem lw_privs_ok : ∀ q ∈ lw_privs, lw_okq q := by
  show ∀ q ∈ lw_privs_1 ++ (lw_privs_2 ++ (lw_privs_3)), lw_okq q
  exact List.forall_mem_append.mpr ⟨lw_r1, List.forall_mem_append.mpr ⟨lw_r2, lw_r3⟩⟩
-- ===== end of PART A; then your names; then what follows =====
end
section
def RX0 : String := "ToldDrops$Gauge"
def TX0 : u_T := fun k => match k with
  | 0 => ("ToldDrops$Gauge", "mouth", "I", false)
  | 1 => ("ToldDrops$Gauge", "cup", "I", false)
  | 2 => ("ToldDrops$Gauge", "share", "I", false)
  | 3 => ("ToldDrops$Gauge", "way", "I", false)
  | 4 => ("ToldDrops$Gauge", "drops", "I", false)
  | 5 => ("ToldDrops$Gauge", "tips", "I", false)
  | 6 => ("ToldDrops$Gauge", "caught", "I", false)
  | 7 => ("ToldDrops$Gauge", "poured", "I", false)
  | _ => ("ToldDrops$Gauge", "page", "LToldDrops$Page;", true)
def tyX0 : Nat → FieldType := fun k => match k with
  | 0 => .int
  | 1 => .int
  | 2 => .int
  | 3 => .int
  | 4 => .int
  | 5 => .int
  | 6 => .int
  | 7 => .int
  | _ => .object "ToldDrops$Page"
theorem nmX0 : ∀ a, a < 9 → ∀ b, b < 9 → a ≠ b → (TX0 a).2.1 ≠ (TX0 b).2.1 := by decide +kernel
theorem tyX0_ok : ∀ k, k < 9 → parseFieldDescriptor (TX0 k).2.2.1 = some (tyX0 k) := by decide +kernel
abbrev cX0_init : ByteArray := prog_2_method_1_code
def yX0_init : MethodName := ⟨RX0, "<init>", "(I)V"⟩
abbrev cX0_copyFrom : ByteArray := prog_2_method_2_code
def yX0_copyFrom : MethodName := ⟨RX0, "copyFrom", "(LToldDrops$Gauge;)V"⟩
abbrev cX0_catchRain : ByteArray := prog_2_method_3_code
def yX0_catchRain : MethodName := ⟨RX0, "catchRain", "(I)I"⟩
abbrev cX0_gap : ByteArray := prog_2_method_4_code
def yX0_gap : MethodName := ⟨RX0, "gap", "()I"⟩
abbrev cX0_untold : ByteArray := prog_2_method_5_code
def yX0_untold : MethodName := ⟨RX0, "untold", "()I"⟩
def RX1 : String := "ToldDrops$History"
def TX1 : u_T := fun k => match k with
  | 0 => ("ToldDrops$History", "states", "[LToldDrops$Valley;", true)
  | _ => ("ToldDrops$History", "size", "I", false)
def tyX1 : Nat → FieldType := fun k => match k with
  | 0 => .array (.object "ToldDrops$Valley")
  | _ => .int
theorem nmX1 : ∀ a, a < 2 → ∀ b, b < 2 → a ≠ b → (TX1 a).2.1 ≠ (TX1 b).2.1 := by decide +kernel
theorem tyX1_ok : ∀ k, k < 2 → parseFieldDescriptor (TX1 k).2.2.1 = some (tyX1 k) := by decide +kernel
abbrev cX1_init : ByteArray := prog_3_method_1_code
def yX1_init : MethodName := ⟨RX1, "<init>", "()V"⟩
abbrev cX1_record : ByteArray := prog_3_method_2_code
def yX1_record : MethodName := ⟨RX1, "record", "(LToldDrops$Valley;)V"⟩
abbrev cX1_takeBack : ByteArray := prog_3_method_3_code
def yX1_takeBack : MethodName := ⟨RX1, "takeBack", "(LToldDrops$Valley;)Z"⟩
abbrev cX1_dropOldest : ByteArray := prog_3_method_4_code
def yX1_dropOldest : MethodName := ⟨RX1, "dropOldest", "()V"⟩
def RX2 : String := "ToldDrops$OrderReader"
def TX2 : u_T := fun k => match k with
  | 0 => ("ToldDrops$OrderReader", "pad", "LToldDrops$Pad;", true)
  | 1 => ("ToldDrops$OrderReader", "at", "I", false)
  | 2 => ("ToldDrops$OrderReader", "kind", "C", false)
  | 3 => ("ToldDrops$OrderReader", "amount", "I", false)
  | 4 => ("ToldDrops$OrderReader", "hours", "I", false)
  | _ => ("ToldDrops$OrderReader", "gauge", "I", false)
def tyX2 : Nat → FieldType := fun k => match k with
  | 0 => .object "ToldDrops$Pad"
  | 1 => .int
  | 2 => .char
  | 3 => .int
  | 4 => .int
  | _ => .int
theorem nmX2 : ∀ a, a < 6 → ∀ b, b < 6 → a ≠ b → (TX2 a).2.1 ≠ (TX2 b).2.1 := by decide +kernel
theorem tyX2_ok : ∀ k, k < 6 → parseFieldDescriptor (TX2 k).2.2.1 = some (tyX2 k) := by decide +kernel
abbrev cX2_init : ByteArray := prog_4_method_1_code
def yX2_init : MethodName := ⟨RX2, "<init>", "(LToldDrops$Pad;)V"⟩
abbrev cX2_goToStart : ByteArray := prog_4_method_2_code
def yX2_goToStart : MethodName := ⟨RX2, "goToStart", "()V"⟩
abbrev cX2_findFault : ByteArray := prog_4_method_3_code
def yX2_findFault : MethodName := ⟨RX2, "findFault", "()I"⟩
abbrev cX2_passSeparator : ByteArray := prog_4_method_4_code
def yX2_passSeparator : MethodName := ⟨RX2, "passSeparator", "()V"⟩
abbrev cX2_readOrder : ByteArray := prog_4_method_5_code
def yX2_readOrder : MethodName := ⟨RX2, "readOrder", "()Z"⟩
abbrev cX2_readRain : ByteArray := prog_4_method_6_code
def yX2_readRain : MethodName := ⟨RX2, "readRain", "()Z"⟩
abbrev cX2_readGauge : ByteArray := prog_4_method_7_code
def yX2_readGauge : MethodName := ⟨RX2, "readGauge", "()Z"⟩
abbrev cX2_readNumber : ByteArray := prog_4_method_8_code
def yX2_readNumber : MethodName := ⟨RX2, "readNumber", "(II)I"⟩
def RX3 : String := "ToldDrops$Pad"
def TX3 : u_T := fun k => match k with
  | 0 => ("ToldDrops$Pad", "signs", "[C", true)
  | _ => ("ToldDrops$Pad", "length", "I", false)
def tyX3 : Nat → FieldType := fun k => match k with
  | 0 => .array .char
  | _ => .int
theorem nmX3 : ∀ a, a < 2 → ∀ b, b < 2 → a ≠ b → (TX3 a).2.1 ≠ (TX3 b).2.1 := by decide +kernel
theorem tyX3_ok : ∀ k, k < 2 → parseFieldDescriptor (TX3 k).2.2.1 = some (tyX3 k) := by decide +kernel
abbrev cX3_init : ByteArray := prog_5_method_1_code
def yX3_init : MethodName := ⟨RX3, "<init>", "()V"⟩
abbrev cX3_append : ByteArray := prog_5_method_2_code
def yX3_append : MethodName := ⟨RX3, "append", "(C)V"⟩
abbrev cX3_signAt : ByteArray := prog_5_method_3_code
def yX3_signAt : MethodName := ⟨RX3, "signAt", "(I)C"⟩
abbrev cX3_digitAt : ByteArray := prog_5_method_4_code
def yX3_digitAt : MethodName := ⟨RX3, "digitAt", "(I)I"⟩
def RX4 : String := "ToldDrops$Page"
def TX4 : u_T := fun k => match k with
  | 0 => ("ToldDrops$Page", "told", "I", false)
  | 1 => ("ToldDrops$Page", "latestHour", "I", false)
  | 2 => ("ToldDrops$Page", "latestTips", "I", false)
  | 3 => ("ToldDrops$Page", "latestVillageCaught", "I", false)
  | 4 => ("ToldDrops$Page", "taken", "I", false)
  | 5 => ("ToldDrops$Page", "tooLate", "I", false)
  | 6 => ("ToldDrops$Page", "toldTwice", "I", false)
  | _ => ("ToldDrops$Page", "lost", "I", false)
def tyX4 : Nat → FieldType := fun k => match k with
  | 0 => .int
  | 1 => .int
  | 2 => .int
  | 3 => .int
  | 4 => .int
  | 5 => .int
  | 6 => .int
  | _ => .int
theorem nmX4 : ∀ a, a < 8 → ∀ b, b < 8 → a ≠ b → (TX4 a).2.1 ≠ (TX4 b).2.1 := by decide +kernel
theorem tyX4_ok : ∀ k, k < 8 → parseFieldDescriptor (TX4 k).2.2.1 = some (tyX4 k) := by decide +kernel
abbrev cX4_init : ByteArray := prog_6_method_1_code
def yX4_init : MethodName := ⟨RX4, "<init>", "()V"⟩
abbrev cX4_copyFrom : ByteArray := prog_6_method_2_code
def yX4_copyFrom : MethodName := ⟨RX4, "copyFrom", "(LToldDrops$Page;)V"⟩
def RX5 : String := "ToldDrops$Runner"
def TX5 : u_T := fun k => match k with
  | 0 => ("ToldDrops$Runner", "gauge", "I", false)
  | 1 => ("ToldDrops$Runner", "tips", "I", false)
  | 2 => ("ToldDrops$Runner", "hour", "I", false)
  | 3 => ("ToldDrops$Runner", "villageCaught", "I", false)
  | _ => ("ToldDrops$Runner", "hoursLeft", "I", false)
def tyX5 : Nat → FieldType := fun k => match k with
  | 0 => .int
  | 1 => .int
  | 2 => .int
  | 3 => .int
  | _ => .int
theorem nmX5 : ∀ a, a < 5 → ∀ b, b < 5 → a ≠ b → (TX5 a).2.1 ≠ (TX5 b).2.1 := by decide +kernel
theorem tyX5_ok : ∀ k, k < 5 → parseFieldDescriptor (TX5 k).2.2.1 = some (tyX5 k) := by decide +kernel
abbrev cX5_init : ByteArray := prog_7_method_1_code
def yX5_init : MethodName := ⟨RX5, "<init>", "()V"⟩
abbrev cX5_copyFrom : ByteArray := prog_7_method_2_code
def yX5_copyFrom : MethodName := ⟨RX5, "copyFrom", "(LToldDrops$Runner;)V"⟩
def RX6 : String := "ToldDrops$Valley"
def TX6 : u_T := fun k => match k with
  | 0 => ("ToldDrops$Valley", "wheel", "I", false)
  | 1 => ("ToldDrops$Valley", "guess", "I", false)
  | 2 => ("ToldDrops$Valley", "hours", "I", false)
  | 3 => ("ToldDrops$Valley", "onTheWay", "I", false)
  | 4 => ("ToldDrops$Valley", "gauges", "[LToldDrops$Gauge;", true)
  | _ => ("ToldDrops$Valley", "runners", "[LToldDrops$Runner;", true)
def tyX6 : Nat → FieldType := fun k => match k with
  | 0 => .int
  | 1 => .int
  | 2 => .int
  | 3 => .int
  | 4 => .array (.object "ToldDrops$Gauge")
  | _ => .array (.object "ToldDrops$Runner")
theorem nmX6 : ∀ a, a < 6 → ∀ b, b < 6 → a ≠ b → (TX6 a).2.1 ≠ (TX6 b).2.1 := by decide +kernel
theorem tyX6_ok : ∀ k, k < 6 → parseFieldDescriptor (TX6 k).2.2.1 = some (tyX6 k) := by decide +kernel
abbrev cX6_init : ByteArray := prog_8_method_1_code
def yX6_init : MethodName := ⟨RX6, "<init>", "()V"⟩
abbrev cX6_copyFrom : ByteArray := prog_8_method_2_code
def yX6_copyFrom : MethodName := ⟨RX6, "copyFrom", "(LToldDrops$Valley;)V"⟩
abbrev cX6_gaugeAt : ByteArray := prog_8_method_3_code
def yX6_gaugeAt : MethodName := ⟨RX6, "gaugeAt", "(I)LToldDrops$Gauge;"⟩
abbrev cX6_runnerAt : ByteArray := prog_8_method_4_code
def yX6_runnerAt : MethodName := ⟨RX6, "runnerAt", "(I)LToldDrops$Runner;"⟩
abbrev cX6_isFull : ByteArray := prog_8_method_5_code
def yX6_isFull : MethodName := ⟨RX6, "isFull", "()Z"⟩
abbrev cX6_hasTimeFor : ByteArray := prog_8_method_6_code
def yX6_hasTimeFor : MethodName := ⟨RX6, "hasTimeFor", "(I)Z"⟩
abbrev cX6_wheelAt : ByteArray := prog_8_method_7_code
def yX6_wheelAt : MethodName := ⟨RX6, "wheelAt", "(I)I"⟩
abbrev cX6_changeWheels : ByteArray := prog_8_method_8_code
def yX6_changeWheels : MethodName := ⟨RX6, "changeWheels", "(I)V"⟩
abbrev cX6_passHours : ByteArray := prog_8_method_9_code
def yX6_passHours : MethodName := ⟨RX6, "passHours", "(II)I"⟩
abbrev cX6_moveRunners : ByteArray := prog_8_method_10_code
def yX6_moveRunners : MethodName := ⟨RX6, "moveRunners", "()V"⟩
abbrev cX6_sendRunner : ByteArray := prog_8_method_11_code
def yX6_sendRunner : MethodName := ⟨RX6, "sendRunner", "(I)I"⟩
abbrev cX6_addSecondOf : ByteArray := prog_8_method_12_code
def yX6_addSecondOf : MethodName := ⟨RX6, "addSecondOf", "(LToldDrops$Runner;)V"⟩
abbrev cX6_addRunner : ByteArray := prog_8_method_13_code
def yX6_addRunner : MethodName := ⟨RX6, "addRunner", "()LToldDrops$Runner;"⟩
abbrev cX6_removeRunner : ByteArray := prog_8_method_14_code
def yX6_removeRunner : MethodName := ⟨RX6, "removeRunner", "(I)V"⟩
abbrev cX6_countAsLost : ByteArray := prog_8_method_15_code
def yX6_countAsLost : MethodName := ⟨RX6, "countAsLost", "(LToldDrops$Runner;)V"⟩
abbrev cX6_longestWay : ByteArray := prog_8_method_16_code
def yX6_longestWay : MethodName := ⟨RX6, "longestWay", "()I"⟩
abbrev cX6_hear : ByteArray := prog_8_method_17_code
def yX6_hear : MethodName := ⟨RX6, "hear", "(LToldDrops$Runner;)V"⟩
abbrev cX6_wentOn : ByteArray := prog_8_method_18_code
def yX6_wentOn : MethodName := ⟨RX6, "wentOn", "(LToldDrops$Gauge;LToldDrops$Runner;)I"⟩
abbrev cX6_expectedTips : ByteArray := prog_8_method_19_code
def yX6_expectedTips : MethodName := ⟨RX6, "expectedTips", "(LToldDrops$Gauge;LToldDrops$Runner;)I"⟩
abbrev cX6_roundsFor : ByteArray := prog_8_method_20_code
def yX6_roundsFor : MethodName := ⟨RX6, "roundsFor", "(I)I"⟩
abbrev cX6_factOf : ByteArray := prog_8_method_21_code
def yX6_factOf : MethodName := ⟨RX6, "factOf", "(LToldDrops$Gauge;I)I"⟩
abbrev cX6_sumOf : ByteArray := prog_8_method_22_code
def yX6_sumOf : MethodName := ⟨RX6, "sumOf", "(I)I"⟩
abbrev cX6_sumOfTold : ByteArray := prog_8_method_23_code
def yX6_sumOfTold : MethodName := ⟨RX6, "sumOfTold", "()I"⟩
abbrev cX6_gaugesWithGap : ByteArray := prog_8_method_24_code
def yX6_gaugesWithGap : MethodName := ⟨RX6, "gaugesWithGap", "()I"⟩
def RX7 : String := "ToldDrops"
def TX7 : u_T := fun k => match k with
  | 0 => ("ToldDrops", "now", "LToldDrops$Valley;", true)
  | 1 => ("ToldDrops", "trial", "LToldDrops$Valley;", true)
  | 2 => ("ToldDrops", "history", "LToldDrops$History;", true)
  | 3 => ("ToldDrops", "slots", "[LToldDrops$Valley;", true)
  | 4 => ("ToldDrops", "saved", "[Z", true)
  | 5 => ("ToldDrops", "pad", "LToldDrops$Pad;", true)
  | _ => ("ToldDrops", "reader", "LToldDrops$OrderReader;", true)
def tyX7 : Nat → FieldType := fun k => match k with
  | 0 => .object "ToldDrops$Valley"
  | 1 => .object "ToldDrops$Valley"
  | 2 => .object "ToldDrops$History"
  | 3 => .array (.object "ToldDrops$Valley")
  | 4 => .array .boolean
  | 5 => .object "ToldDrops$Pad"
  | _ => .object "ToldDrops$OrderReader"
theorem nmX7 : ∀ a, a < 7 → ∀ b, b < 7 → a ≠ b → (TX7 a).2.1 ≠ (TX7 b).2.1 := by decide +kernel
theorem tyX7_ok : ∀ k, k < 7 → parseFieldDescriptor (TX7 k).2.2.1 = some (tyX7 k) := by decide +kernel
abbrev cX7_init : ByteArray := prog_1_method_1_code
def yX7_init : MethodName := ⟨RX7, "<init>", "()V"⟩
abbrev cX7_set : ByteArray := prog_1_method_2_code
def yX7_set : MethodName := ⟨RX7, "set", "(II)I"⟩
abbrev cX7_gauge : ByteArray := prog_1_method_3_code
def yX7_gauge : MethodName := ⟨RX7, "gauge", "(IIIII)I"⟩
abbrev cX7_rain : ByteArray := prog_1_method_4_code
def yX7_rain : MethodName := ⟨RX7, "rain", "(II)I"⟩
abbrev cX7_send : ByteArray := prog_1_method_5_code
def yX7_send : MethodName := ⟨RX7, "send", "(I)I"⟩
abbrev cX7_lose : ByteArray := prog_1_method_6_code
def yX7_lose : MethodName := ⟨RX7, "lose", "(I)I"⟩
abbrev cX7_twice : ByteArray := prog_1_method_7_code
def yX7_twice : MethodName := ⟨RX7, "twice", "(I)I"⟩
abbrev cX7_run : ByteArray := prog_1_method_8_code
def yX7_run : MethodName := ⟨RX7, "run", "()I"⟩
abbrev cX7_gaugeOf : ByteArray := prog_1_method_9_code
def yX7_gaugeOf : MethodName := ⟨RX7, "gaugeOf", "(II)I"⟩
abbrev cX7_ledger : ByteArray := prog_1_method_10_code
def yX7_ledger : MethodName := ⟨RX7, "ledger", "(II)I"⟩
abbrev cX7_runner : ByteArray := prog_1_method_11_code
def yX7_runner : MethodName := ⟨RX7, "runner", "(II)I"⟩
abbrev cX7_count : ByteArray := prog_1_method_12_code
def yX7_count : MethodName := ⟨RX7, "count", "(I)I"⟩
abbrev cX7_untilRound : ByteArray := prog_1_method_13_code
def yX7_untilRound : MethodName := ⟨RX7, "untilRound", "(II)I"⟩
abbrev cX7_ifSent : ByteArray := prog_1_method_14_code
def yX7_ifSent : MethodName := ⟨RX7, "ifSent", "(I)I"⟩
abbrev cX7_ifAllCome : ByteArray := prog_1_method_15_code
def yX7_ifAllCome : MethodName := ⟨RX7, "ifAllCome", "(I)I"⟩
abbrev cX7_mostUntold : ByteArray := prog_1_method_16_code
def yX7_mostUntold : MethodName := ⟨RX7, "mostUntold", "()I"⟩
abbrev cX7_put : ByteArray := prog_1_method_17_code
def yX7_put : MethodName := ⟨RX7, "put", "(J)I"⟩
abbrev cX7_wipe : ByteArray := prog_1_method_18_code
def yX7_wipe : MethodName := ⟨RX7, "wipe", "()I"⟩
abbrev cX7_fault : ByteArray := prog_1_method_19_code
def yX7_fault : MethodName := ⟨RX7, "fault", "()I"⟩
abbrev cX7_undo : ByteArray := prog_1_method_20_code
def yX7_undo : MethodName := ⟨RX7, "undo", "()I"⟩
abbrev cX7_save : ByteArray := prog_1_method_21_code
def yX7_save : MethodName := ⟨RX7, "save", "(I)I"⟩
abbrev cX7_restore : ByteArray := prog_1_method_22_code
def yX7_restore : MethodName := ⟨RX7, "restore", "(I)I"⟩
abbrev cX7_within : ByteArray := prog_1_method_23_code
def yX7_within : MethodName := ⟨RX7, "within", "(III)Z"⟩
abbrev cX7_obeyOrder : ByteArray := prog_1_method_24_code
def yX7_obeyOrder : MethodName := ⟨RX7, "obeyOrder", "()Z"⟩
abbrev cX7_charactersIn : ByteArray := prog_1_method_25_code
def yX7_charactersIn : MethodName := ⟨RX7, "charactersIn", "(J)I"⟩
abbrev cX7_codeAt : ByteArray := prog_1_method_26_code
def yX7_codeAt : MethodName := ⟨RX7, "codeAt", "(JI)I"⟩
def RX8 : String := "ToldDropsModel"
def TX8 : u_T := fun k => match k with
  | 0 => ("ToldDropsModel", "s", "[I", true)
  | 1 => ("ToldDropsModel", "aside", "[I", true)
  | 2 => ("ToldDropsModel", "before", "[I", true)
  | 3 => ("ToldDropsModel", "known", "I", false)
  | 4 => ("ToldDropsModel", "kept", "[I", true)
  | 5 => ("ToldDropsModel", "isKept", "[Z", true)
  | 6 => ("ToldDropsModel", "pad", "[I", true)
  | 7 => ("ToldDropsModel", "length", "I", false)
  | 8 => ("ToldDropsModel", "place", "I", false)
  | _ => ("ToldDropsModel", "isWrong", "Z", false)
def tyX8 : Nat → FieldType := fun k => match k with
  | 0 => .array .int
  | 1 => .array .int
  | 2 => .array .int
  | 3 => .int
  | 4 => .array .int
  | 5 => .array .boolean
  | 6 => .array .int
  | 7 => .int
  | 8 => .int
  | _ => .boolean
theorem nmX8 : ∀ a, a < 10 → ∀ b, b < 10 → a ≠ b → (TX8 a).2.1 ≠ (TX8 b).2.1 := by decide +kernel
theorem tyX8_ok : ∀ k, k < 10 → parseFieldDescriptor (TX8 k).2.2.1 = some (tyX8 k) := by decide +kernel
abbrev cX8_init : ByteArray := prog_10_method_1_code
def yX8_init : MethodName := ⟨RX8, "<init>", "()V"⟩
abbrev cX8_in : ByteArray := prog_10_method_3_code
def yX8_in : MethodName := ⟨RX8, "in", "(III)Z"⟩
abbrev cX8_isGauge : ByteArray := prog_10_method_4_code
def yX8_isGauge : MethodName := ⟨RX8, "isGauge", "(I)Z"⟩
abbrev cX8_of : ByteArray := prog_10_method_5_code
def yX8_of : MethodName := ⟨RX8, "of", "(II)I"⟩
abbrev cX8_add : ByteArray := prog_10_method_6_code
def yX8_add : MethodName := ⟨RX8, "add", "(III)V"⟩
abbrev cX8_putAside : ByteArray := prog_10_method_7_code
def yX8_putAside : MethodName := ⟨RX8, "putAside", "()V"⟩
abbrev cX8_putBack : ByteArray := prog_10_method_8_code
def yX8_putBack : MethodName := ⟨RX8, "putBack", "()V"⟩
abbrev cX8_save0 : ByteArray := prog_10_method_9_code
def yX8_save0 : MethodName := ⟨RX8, "save0", "()V"⟩
abbrev cX8_wheel : ByteArray := prog_10_method_10_code
def yX8_wheel : MethodName := ⟨RX8, "wheel", "(I)I"⟩
abbrev cX8_size : ByteArray := prog_10_method_11_code
def yX8_size : MethodName := ⟨RX8, "size", "(I)I"⟩
abbrev cX8_tell : ByteArray := prog_10_method_12_code
def yX8_tell : MethodName := ⟨RX8, "tell", "(IIIII)V"⟩
abbrev cX8_gap : ByteArray := prog_10_method_13_code
def yX8_gap : MethodName := ⟨RX8, "gap", "(I)I"⟩
abbrev cX8_runnerOf : ByteArray := prog_10_method_14_code
def yX8_runnerOf : MethodName := ⟨RX8, "runnerOf", "(II)I"⟩
abbrev cX8_drop : ByteArray := prog_10_method_15_code
def yX8_drop : MethodName := ⟨RX8, "drop", "(I)V"⟩
abbrev cX8_come : ByteArray := prog_10_method_16_code
def yX8_come : MethodName := ⟨RX8, "come", "()V"⟩
abbrev cX8_sends : ByteArray := prog_10_method_17_code
def yX8_sends : MethodName := ⟨RX8, "sends", "(I)I"⟩
abbrev cX8_hour : ByteArray := prog_10_method_18_code
def yX8_hour : MethodName := ⟨RX8, "hour", "(I)I"⟩
abbrev cX8_rains : ByteArray := prog_10_method_19_code
def yX8_rains : MethodName := ⟨RX8, "rains", "(II)I"⟩
abbrev cX8_set : ByteArray := prog_10_method_20_code
def yX8_set : MethodName := ⟨RX8, "set", "(II)I"⟩
abbrev cX8_gauge : ByteArray := prog_10_method_21_code
def yX8_gauge : MethodName := ⟨RX8, "gauge", "(IIIII)I"⟩
abbrev cX8_rainError : ByteArray := prog_10_method_22_code
def yX8_rainError : MethodName := ⟨RX8, "rainError", "(II)I"⟩
abbrev cX8_rain : ByteArray := prog_10_method_23_code
def yX8_rain : MethodName := ⟨RX8, "rain", "(II)I"⟩
abbrev cX8_send : ByteArray := prog_10_method_24_code
def yX8_send : MethodName := ⟨RX8, "send", "(I)I"⟩
abbrev cX8_lose : ByteArray := prog_10_method_25_code
def yX8_lose : MethodName := ⟨RX8, "lose", "(I)I"⟩
abbrev cX8_twice : ByteArray := prog_10_method_26_code
def yX8_twice : MethodName := ⟨RX8, "twice", "(I)I"⟩
abbrev cX8_sign : ByteArray := prog_10_method_27_code
def yX8_sign : MethodName := ⟨RX8, "sign", "(II)I"⟩
abbrev cX8_number : ByteArray := prog_10_method_28_code
def yX8_number : MethodName := ⟨RX8, "number", "(II)I"⟩
abbrev cX8_order : ByteArray := prog_10_method_29_code
def yX8_order : MethodName := ⟨RX8, "order", "(Z)I"⟩
abbrev cX8_go : ByteArray := prog_10_method_30_code
def yX8_go : MethodName := ⟨RX8, "go", "(Z)I"⟩
abbrev cX8_run : ByteArray := prog_10_method_31_code
def yX8_run : MethodName := ⟨RX8, "run", "()I"⟩
abbrev cX8_gaugeOf : ByteArray := prog_10_method_32_code
def yX8_gaugeOf : MethodName := ⟨RX8, "gaugeOf", "(II)I"⟩
abbrev cX8_ledger : ByteArray := prog_10_method_33_code
def yX8_ledger : MethodName := ⟨RX8, "ledger", "(II)I"⟩
abbrev cX8_runner : ByteArray := prog_10_method_34_code
def yX8_runner : MethodName := ⟨RX8, "runner", "(II)I"⟩
abbrev cX8_all : ByteArray := prog_10_method_35_code
def yX8_all : MethodName := ⟨RX8, "all", "(I)I"⟩
abbrev cX8_gaps : ByteArray := prog_10_method_36_code
def yX8_gaps : MethodName := ⟨RX8, "gaps", "()I"⟩
abbrev cX8_count : ByteArray := prog_10_method_37_code
def yX8_count : MethodName := ⟨RX8, "count", "(I)I"⟩
abbrev cX8_untold : ByteArray := prog_10_method_38_code
def yX8_untold : MethodName := ⟨RX8, "untold", "(I)I"⟩
abbrev cX8_untilRound : ByteArray := prog_10_method_39_code
def yX8_untilRound : MethodName := ⟨RX8, "untilRound", "(II)I"⟩
abbrev cX8_ifSent : ByteArray := prog_10_method_40_code
def yX8_ifSent : MethodName := ⟨RX8, "ifSent", "(I)I"⟩
abbrev cX8_ifAllCome : ByteArray := prog_10_method_41_code
def yX8_ifAllCome : MethodName := ⟨RX8, "ifAllCome", "(I)I"⟩
abbrev cX8_mostUntold : ByteArray := prog_10_method_42_code
def yX8_mostUntold : MethodName := ⟨RX8, "mostUntold", "()I"⟩
abbrev cX8_code : ByteArray := prog_10_method_43_code
def yX8_code : MethodName := ⟨RX8, "code", "(JI)I"⟩
abbrev cX8_put : ByteArray := prog_10_method_44_code
def yX8_put : MethodName := ⟨RX8, "put", "(J)I"⟩
abbrev cX8_wipe : ByteArray := prog_10_method_45_code
def yX8_wipe : MethodName := ⟨RX8, "wipe", "()I"⟩
abbrev cX8_fault : ByteArray := prog_10_method_46_code
def yX8_fault : MethodName := ⟨RX8, "fault", "()I"⟩
abbrev cX8_undo : ByteArray := prog_10_method_47_code
def yX8_undo : MethodName := ⟨RX8, "undo", "()I"⟩
abbrev cX8_save : ByteArray := prog_10_method_48_code
def yX8_save : MethodName := ⟨RX8, "save", "(I)I"⟩
abbrev cX8_restore : ByteArray := prog_10_method_49_code
def yX8_restore : MethodName := ⟨RX8, "restore", "(I)I"⟩
def RL : String := "ToldDropsLaw"
abbrev cL_law : ByteArray := code
def yL_law : MethodName := ⟨RL, "law", "([I)Z"⟩
abbrev vwCl : List vw_C := [(RX0, TX0, 9), (RX1, TX1, 2), (RX2, TX2, 6), (RX3, TX3, 2), (RX4, TX4, 8), (RX5, TX5, 5), (RX6, TX6, 6), (RX7, TX7, 7), (RX8, TX8, 10)]
end
section
/-! the words of the tables, by their places (written by wip/whole/gen/words2.py) -/
def lw_good : List Cond := lw_tbl.filter goodWord
abbrev Uw (y : MethodName) (c : ByteArray) (n : Nat) (r : Option FieldType) : List Cond := Cond.code y c n r :: lw_good
theorem mem_good {w : Cond} (hm : w ∈ lw_tbl) (hg : goodWord w = true) : w ∈ lw_good := List.mem_filter.mpr ⟨hm, hg⟩
theorem all_good : ∀ w ∈ lw_good, (w.onTables && w.keeps) = true ∨ ∃ ty, w = Cond.arrayClass ty := fun w h => good_of_word (List.mem_filter.mp h).2
theorem good_tbl : ∀ w ∈ lw_good, w ∈ lw_tbl := fun w h => (List.mem_filter.mp h).1
theorem gU {own C : String} {idx : Nat} {y : MethodName} {c : ByteArray} {n : Nat} {r : Option FieldType} (h1 : Cond.methodLink own idx y ∈ lw_good) (h2 : Cond.instanceMethod y ∈ lw_good) (h3 : Cond.selects C y y ∈ lw_good) (h4 : Cond.initialized C ∈ lw_good) (h5 : Cond.code y c n r ∈ lw_good) : GoodIn lw_good (wsV own idx C y (Uw y c n r)) := by
  intro w hw
  have hm : w ∈ lw_good := by
    unfold wsV at hw
    rcases List.mem_append.mp hw with h | h
    · simp only [List.mem_cons, List.not_mem_nil, or_false] at h
      rcases h with rfl | rfl | rfl | rfl <;> assumption
    · rcases List.mem_cons.mp h with rfl | h
      · exact h5
      · exact h
  exact ⟨hm, all_good w hm⟩
theorem gUS {own : String} {idx : Nat} {y : MethodName} {c : ByteArray} {n : Nat} {r : Option FieldType} (h1 : Cond.methodLink own idx y ∈ lw_good) (h2 : Cond.static y ∈ lw_good) (h4 : Cond.initialized own ∈ lw_good) (h5 : Cond.code y c n r ∈ lw_good) : GoodIn lw_good (wsS own idx y (Uw y c n r)) := by
  intro w hw
  have hm : w ∈ lw_good := by
    unfold wsS at hw
    rcases List.mem_append.mp hw with h | h
    · simp only [List.mem_cons, List.not_mem_nil, or_false] at h
      rcases h with rfl | rfl | rfl <;> assumption
    · rcases List.mem_cons.mp h with rfl | h
      · exact h5
      · exact h
  exact ⟨hm, all_good w hm⟩
theorem gUI {y : MethodName} {c : ByteArray} {n : Nat} {r : Option FieldType} (h5 : Cond.code y c n r ∈ lw_good) : GoodIn lw_good (Uw y c n r) := by
  intro w hw
  have hm : w ∈ lw_good := by
    rcases List.mem_cons.mp hw with rfl | h
    · exact h5
    · exact h
  exact ⟨hm, all_good w hm⟩
theorem uw_0 : Cond.selects RX1 yX1_dropOldest yX1_dropOldest ∈ lw_good := mem_good (List.mem_of_getElem? (i := 0) (by decide +kernel)) (by decide +kernel)
theorem uw_1 : Cond.selects RX6 yX6_moveRunners yX6_moveRunners ∈ lw_good := mem_good (List.mem_of_getElem? (i := 1) (by decide +kernel)) (by decide +kernel)
theorem uw_2 : Cond.selects RX6 yX6_hear yX6_hear ∈ lw_good := mem_good (List.mem_of_getElem? (i := 2) (by decide +kernel)) (by decide +kernel)
theorem uw_3 : Cond.selects RX6 yX6_wentOn yX6_wentOn ∈ lw_good := mem_good (List.mem_of_getElem? (i := 3) (by decide +kernel)) (by decide +kernel)
theorem uw_4 : Cond.selects RX6 yX6_expectedTips yX6_expectedTips ∈ lw_good := mem_good (List.mem_of_getElem? (i := 4) (by decide +kernel)) (by decide +kernel)
theorem uw_5 : Cond.selects RX6 yX6_roundsFor yX6_roundsFor ∈ lw_good := mem_good (List.mem_of_getElem? (i := 5) (by decide +kernel)) (by decide +kernel)
theorem uw_6 : Cond.selects RX6 yX6_addRunner yX6_addRunner ∈ lw_good := mem_good (List.mem_of_getElem? (i := 6) (by decide +kernel)) (by decide +kernel)
theorem uw_7 : Cond.selects RX2 yX2_readRain yX2_readRain ∈ lw_good := mem_good (List.mem_of_getElem? (i := 7) (by decide +kernel)) (by decide +kernel)
theorem uw_8 : Cond.selects RX2 yX2_readNumber yX2_readNumber ∈ lw_good := mem_good (List.mem_of_getElem? (i := 8) (by decide +kernel)) (by decide +kernel)
theorem uw_9 : Cond.selects RX2 yX2_readGauge yX2_readGauge ∈ lw_good := mem_good (List.mem_of_getElem? (i := 9) (by decide +kernel)) (by decide +kernel)
theorem uw_10 : Cond.selects RX7 yX7_obeyOrder yX7_obeyOrder ∈ lw_good := mem_good (List.mem_of_getElem? (i := 10) (by decide +kernel)) (by decide +kernel)
theorem uw_11 : Cond.selects RX8 yX8_save0 yX8_save0 ∈ lw_good := mem_good (List.mem_of_getElem? (i := 11) (by decide +kernel)) (by decide +kernel)
theorem uw_12 : Cond.selects RX8 yX8_runnerOf yX8_runnerOf ∈ lw_good := mem_good (List.mem_of_getElem? (i := 12) (by decide +kernel)) (by decide +kernel)
theorem uw_13 : Cond.selects RX8 yX8_add yX8_add ∈ lw_good := mem_good (List.mem_of_getElem? (i := 13) (by decide +kernel)) (by decide +kernel)
theorem uw_14 : Cond.selects RX8 yX8_drop yX8_drop ∈ lw_good := mem_good (List.mem_of_getElem? (i := 14) (by decide +kernel)) (by decide +kernel)
theorem uw_15 : Cond.selects RX8 yX8_of yX8_of ∈ lw_good := mem_good (List.mem_of_getElem? (i := 15) (by decide +kernel)) (by decide +kernel)
theorem uw_16 : Cond.selects RX8 yX8_rainError yX8_rainError ∈ lw_good := mem_good (List.mem_of_getElem? (i := 16) (by decide +kernel)) (by decide +kernel)
theorem uw_17 : Cond.selects RX8 yX8_rains yX8_rains ∈ lw_good := mem_good (List.mem_of_getElem? (i := 17) (by decide +kernel)) (by decide +kernel)
theorem uw_18 : Cond.selects RX8 yX8_hour yX8_hour ∈ lw_good := mem_good (List.mem_of_getElem? (i := 18) (by decide +kernel)) (by decide +kernel)
theorem uw_19 : Cond.selects RX8 yX8_come yX8_come ∈ lw_good := mem_good (List.mem_of_getElem? (i := 19) (by decide +kernel)) (by decide +kernel)
theorem uw_20 : Cond.selects RX8 yX8_tell yX8_tell ∈ lw_good := mem_good (List.mem_of_getElem? (i := 20) (by decide +kernel)) (by decide +kernel)
theorem uw_21 : Cond.selects RX8 yX8_sends yX8_sends ∈ lw_good := mem_good (List.mem_of_getElem? (i := 21) (by decide +kernel)) (by decide +kernel)
theorem uw_22 : Cond.selects RX8 yX8_wheel yX8_wheel ∈ lw_good := mem_good (List.mem_of_getElem? (i := 22) (by decide +kernel)) (by decide +kernel)
theorem uw_23 : Cond.selects RX8 yX8_go yX8_go ∈ lw_good := mem_good (List.mem_of_getElem? (i := 23) (by decide +kernel)) (by decide +kernel)
theorem uw_24 : Cond.selects RX8 yX8_order yX8_order ∈ lw_good := mem_good (List.mem_of_getElem? (i := 24) (by decide +kernel)) (by decide +kernel)
theorem uw_25 : Cond.selects RX8 yX8_number yX8_number ∈ lw_good := mem_good (List.mem_of_getElem? (i := 25) (by decide +kernel)) (by decide +kernel)
theorem uw_26 : Cond.selects RX8 yX8_sign yX8_sign ∈ lw_good := mem_good (List.mem_of_getElem? (i := 26) (by decide +kernel)) (by decide +kernel)
theorem uw_27 : Cond.selects RX8 yX8_gap yX8_gap ∈ lw_good := mem_good (List.mem_of_getElem? (i := 27) (by decide +kernel)) (by decide +kernel)
theorem uw_28 : Cond.selects RX8 yX8_all yX8_all ∈ lw_good := mem_good (List.mem_of_getElem? (i := 28) (by decide +kernel)) (by decide +kernel)
theorem uw_29 : Cond.selects RX8 yX8_gaps yX8_gaps ∈ lw_good := mem_good (List.mem_of_getElem? (i := 29) (by decide +kernel)) (by decide +kernel)
theorem uw_30 : Cond.selects RX8 yX8_untold yX8_untold ∈ lw_good := mem_good (List.mem_of_getElem? (i := 30) (by decide +kernel)) (by decide +kernel)
theorem uw_31 : Cond.selects RX8 yX8_putAside yX8_putAside ∈ lw_good := mem_good (List.mem_of_getElem? (i := 31) (by decide +kernel)) (by decide +kernel)
theorem uw_32 : Cond.selects RX8 yX8_putBack yX8_putBack ∈ lw_good := mem_good (List.mem_of_getElem? (i := 32) (by decide +kernel)) (by decide +kernel)
theorem uw_33 : Cond.initialized RL ∈ lw_good := mem_good (List.mem_of_getElem? (i := 33) (by decide +kernel)) (by decide +kernel)
theorem uw_34 : Cond.initialized RX7 ∈ lw_good := mem_good (List.mem_of_getElem? (i := 34) (by decide +kernel)) (by decide +kernel)
theorem uw_35 : Cond.initialized RX6 ∈ lw_good := mem_good (List.mem_of_getElem? (i := 35) (by decide +kernel)) (by decide +kernel)
theorem uw_36 : Cond.initialized RX0 ∈ lw_good := mem_good (List.mem_of_getElem? (i := 36) (by decide +kernel)) (by decide +kernel)
theorem uw_37 : Cond.initialized RX4 ∈ lw_good := mem_good (List.mem_of_getElem? (i := 37) (by decide +kernel)) (by decide +kernel)
theorem uw_38 : Cond.initialized RX5 ∈ lw_good := mem_good (List.mem_of_getElem? (i := 38) (by decide +kernel)) (by decide +kernel)
theorem uw_39 : Cond.initialized RX1 ∈ lw_good := mem_good (List.mem_of_getElem? (i := 39) (by decide +kernel)) (by decide +kernel)
theorem uw_40 : Cond.initialized RX3 ∈ lw_good := mem_good (List.mem_of_getElem? (i := 40) (by decide +kernel)) (by decide +kernel)
theorem uw_41 : Cond.initialized RX2 ∈ lw_good := mem_good (List.mem_of_getElem? (i := 41) (by decide +kernel)) (by decide +kernel)
theorem uw_42 : Cond.initialized RX8 ∈ lw_good := mem_good (List.mem_of_getElem? (i := 42) (by decide +kernel)) (by decide +kernel)
theorem uw_43 : Cond.initialized "java/lang/Math" ∈ lw_good := mem_good (List.mem_of_getElem? (i := 43) (by decide +kernel)) (by decide +kernel)
theorem uw_44 : Cond.classLink RL 7 RX7 ∈ lw_good := mem_good (List.mem_of_getElem? (i := 44) (by decide +kernel)) (by decide +kernel)
theorem uw_45 : Cond.instantiable RX7 7 ∈ lw_good := mem_good (List.mem_of_getElem? (i := 45) (by decide +kernel)) (by decide +kernel)
theorem uw_46 : Cond.methodLink RL 9 yX7_init ∈ lw_good := mem_good (List.mem_of_getElem? (i := 46) (by decide +kernel)) (by decide +kernel)
theorem uw_47 : Cond.instanceMethod yX7_init ∈ lw_good := mem_good (List.mem_of_getElem? (i := 47) (by decide +kernel)) (by decide +kernel)
theorem uw_48 : Cond.code yX7_init cX7_init 2 (Option.none : Option ClassFile.FieldType) ∈ lw_good := mem_good (List.mem_of_getElem? (i := 48) (by decide +kernel)) (by decide +kernel)
theorem uw_49 : Cond.methodLink RX7 1 objectInit ∈ lw_good := mem_good (List.mem_of_getElem? (i := 49) (by decide +kernel)) (by decide +kernel)
theorem uw_50 : Cond.instanceMethod objectInit ∈ lw_good := mem_good (List.mem_of_getElem? (i := 50) (by decide +kernel)) (by decide +kernel)
theorem uw_51 : Cond.code objectInit ⟨#[0xb1]⟩ 1 (Option.none : Option ClassFile.FieldType) ∈ lw_good := mem_good (List.mem_of_getElem? (i := 51) (by decide +kernel)) (by decide +kernel)
theorem uw_52 : Cond.classLink RX7 7 RX6 ∈ lw_good := mem_good (List.mem_of_getElem? (i := 52) (by decide +kernel)) (by decide +kernel)
theorem uw_53 : Cond.instantiable RX6 6 ∈ lw_good := mem_good (List.mem_of_getElem? (i := 53) (by decide +kernel)) (by decide +kernel)
theorem uw_54 : Cond.methodLink RX7 9 yX6_init ∈ lw_good := mem_good (List.mem_of_getElem? (i := 54) (by decide +kernel)) (by decide +kernel)
theorem uw_55 : Cond.instanceMethod yX6_init ∈ lw_good := mem_good (List.mem_of_getElem? (i := 55) (by decide +kernel)) (by decide +kernel)
theorem uw_56 : Cond.code yX6_init cX6_init 2 (Option.none : Option ClassFile.FieldType) ∈ lw_good := mem_good (List.mem_of_getElem? (i := 56) (by decide +kernel)) (by decide +kernel)
theorem uw_57 : Cond.methodLink RX6 3 objectInit ∈ lw_good := mem_good (List.mem_of_getElem? (i := 57) (by decide +kernel)) (by decide +kernel)
theorem uw_58 : Cond.classLink RX6 18 RX0 ∈ lw_good := mem_good (List.mem_of_getElem? (i := 58) (by decide +kernel)) (by decide +kernel)
theorem uw_59 : Cond.arrayOver (ClassFile.FieldType.object "ToldDrops$Gauge") ∈ lw_tbl := List.mem_of_getElem? (i := 59) (by decide +kernel)
theorem uw_60 : Cond.classLink RX6 24 RX5 ∈ lw_good := mem_good (List.mem_of_getElem? (i := 60) (by decide +kernel)) (by decide +kernel)
theorem uw_61 : Cond.arrayOver (ClassFile.FieldType.object "ToldDrops$Runner") ∈ lw_tbl := List.mem_of_getElem? (i := 61) (by decide +kernel)
theorem uw_62 : Cond.instantiable RX0 9 ∈ lw_good := mem_good (List.mem_of_getElem? (i := 62) (by decide +kernel)) (by decide +kernel)
theorem uw_63 : Cond.methodLink RX6 30 yX0_init ∈ lw_good := mem_good (List.mem_of_getElem? (i := 63) (by decide +kernel)) (by decide +kernel)
theorem uw_64 : Cond.instanceMethod yX0_init ∈ lw_good := mem_good (List.mem_of_getElem? (i := 64) (by decide +kernel)) (by decide +kernel)
theorem uw_65 : Cond.code yX0_init cX0_init 2 (Option.none : Option ClassFile.FieldType) ∈ lw_good := mem_good (List.mem_of_getElem? (i := 65) (by decide +kernel)) (by decide +kernel)
theorem uw_66 : Cond.methodLink RX0 1 objectInit ∈ lw_good := mem_good (List.mem_of_getElem? (i := 66) (by decide +kernel)) (by decide +kernel)
theorem uw_67 : Cond.classLink RX0 19 RX4 ∈ lw_good := mem_good (List.mem_of_getElem? (i := 67) (by decide +kernel)) (by decide +kernel)
theorem uw_68 : Cond.instantiable RX4 8 ∈ lw_good := mem_good (List.mem_of_getElem? (i := 68) (by decide +kernel)) (by decide +kernel)
theorem uw_69 : Cond.methodLinkNest RX0 21 yX4_init "ToldDrops" ∈ lw_tbl := List.mem_of_getElem? (i := 69) (by decide +kernel)
theorem uw_70 : Cond.instanceMethod yX4_init ∈ lw_good := mem_good (List.mem_of_getElem? (i := 70) (by decide +kernel)) (by decide +kernel)
theorem uw_71 : Cond.code yX4_init cX4_init 1 (Option.none : Option ClassFile.FieldType) ∈ lw_good := mem_good (List.mem_of_getElem? (i := 71) (by decide +kernel)) (by decide +kernel)
theorem uw_72 : Cond.methodLink RX4 1 objectInit ∈ lw_good := mem_good (List.mem_of_getElem? (i := 72) (by decide +kernel)) (by decide +kernel)
theorem uw_73 : Cond.fieldLink RX4 7 "ToldDrops$Page" "told" "I" ∈ lw_good := mem_good (List.mem_of_getElem? (i := 73) (by decide +kernel)) (by decide +kernel)
theorem uw_74 : Cond.fieldLink RX0 45 "ToldDrops$Page" "told" "I" ∈ lw_good := mem_good (List.mem_of_getElem? (i := 74) (by decide +kernel)) (by decide +kernel)
theorem uw_75 : Cond.fieldLink RX7 160 "ToldDrops$Page" "told" "I" ∈ lw_good := mem_good (List.mem_of_getElem? (i := 75) (by decide +kernel)) (by decide +kernel)
theorem uw_76 : Cond.fieldLink RX6 132 "ToldDrops$Page" "told" "I" ∈ lw_good := mem_good (List.mem_of_getElem? (i := 76) (by decide +kernel)) (by decide +kernel)
theorem uw_77 : Cond.fieldLink RX4 13 "ToldDrops$Page" "latestHour" "I" ∈ lw_good := mem_good (List.mem_of_getElem? (i := 77) (by decide +kernel)) (by decide +kernel)
theorem uw_78 : Cond.fieldLink RX7 165 "ToldDrops$Page" "latestHour" "I" ∈ lw_good := mem_good (List.mem_of_getElem? (i := 78) (by decide +kernel)) (by decide +kernel)
theorem uw_79 : Cond.fieldLink RX6 117 "ToldDrops$Page" "latestHour" "I" ∈ lw_good := mem_good (List.mem_of_getElem? (i := 79) (by decide +kernel)) (by decide +kernel)
theorem uw_80 : Cond.fieldLink RX4 16 "ToldDrops$Page" "latestTips" "I" ∈ lw_good := mem_good (List.mem_of_getElem? (i := 80) (by decide +kernel)) (by decide +kernel)
theorem uw_81 : Cond.fieldLink RX0 48 "ToldDrops$Page" "latestTips" "I" ∈ lw_good := mem_good (List.mem_of_getElem? (i := 81) (by decide +kernel)) (by decide +kernel)
theorem uw_82 : Cond.fieldLink RX7 168 "ToldDrops$Page" "latestTips" "I" ∈ lw_good := mem_good (List.mem_of_getElem? (i := 82) (by decide +kernel)) (by decide +kernel)
theorem uw_83 : Cond.fieldLink RX6 126 "ToldDrops$Page" "latestTips" "I" ∈ lw_good := mem_good (List.mem_of_getElem? (i := 83) (by decide +kernel)) (by decide +kernel)
theorem uw_84 : Cond.fieldLink RX4 19 "ToldDrops$Page" "latestVillageCaught" "I" ∈ lw_good := mem_good (List.mem_of_getElem? (i := 84) (by decide +kernel)) (by decide +kernel)
theorem uw_85 : Cond.fieldLink RX6 139 "ToldDrops$Page" "latestVillageCaught" "I" ∈ lw_good := mem_good (List.mem_of_getElem? (i := 85) (by decide +kernel)) (by decide +kernel)
theorem uw_86 : Cond.fieldLink RX4 22 "ToldDrops$Page" "taken" "I" ∈ lw_good := mem_good (List.mem_of_getElem? (i := 86) (by decide +kernel)) (by decide +kernel)
theorem uw_87 : Cond.fieldLink RX7 177 "ToldDrops$Page" "taken" "I" ∈ lw_good := mem_good (List.mem_of_getElem? (i := 87) (by decide +kernel)) (by decide +kernel)
theorem uw_88 : Cond.fieldLink RX6 123 "ToldDrops$Page" "taken" "I" ∈ lw_good := mem_good (List.mem_of_getElem? (i := 88) (by decide +kernel)) (by decide +kernel)
theorem uw_89 : Cond.fieldLink RX4 25 "ToldDrops$Page" "tooLate" "I" ∈ lw_good := mem_good (List.mem_of_getElem? (i := 89) (by decide +kernel)) (by decide +kernel)
theorem uw_90 : Cond.fieldLink RX7 180 "ToldDrops$Page" "tooLate" "I" ∈ lw_good := mem_good (List.mem_of_getElem? (i := 90) (by decide +kernel)) (by decide +kernel)
theorem uw_91 : Cond.fieldLink RX6 120 "ToldDrops$Page" "tooLate" "I" ∈ lw_good := mem_good (List.mem_of_getElem? (i := 91) (by decide +kernel)) (by decide +kernel)
theorem uw_92 : Cond.fieldLink RX4 28 "ToldDrops$Page" "toldTwice" "I" ∈ lw_good := mem_good (List.mem_of_getElem? (i := 92) (by decide +kernel)) (by decide +kernel)
theorem uw_93 : Cond.fieldLink RX7 183 "ToldDrops$Page" "toldTwice" "I" ∈ lw_good := mem_good (List.mem_of_getElem? (i := 93) (by decide +kernel)) (by decide +kernel)
theorem uw_94 : Cond.fieldLink RX6 129 "ToldDrops$Page" "toldTwice" "I" ∈ lw_good := mem_good (List.mem_of_getElem? (i := 94) (by decide +kernel)) (by decide +kernel)
theorem uw_95 : Cond.fieldLink RX4 31 "ToldDrops$Page" "lost" "I" ∈ lw_good := mem_good (List.mem_of_getElem? (i := 95) (by decide +kernel)) (by decide +kernel)
theorem uw_96 : Cond.fieldLink RX7 186 "ToldDrops$Page" "lost" "I" ∈ lw_good := mem_good (List.mem_of_getElem? (i := 96) (by decide +kernel)) (by decide +kernel)
theorem uw_97 : Cond.fieldLink RX6 106 "ToldDrops$Page" "lost" "I" ∈ lw_good := mem_good (List.mem_of_getElem? (i := 97) (by decide +kernel)) (by decide +kernel)
theorem uw_115 : Cond.fieldLink RX0 7 "ToldDrops$Gauge" "mouth" "I" ∈ lw_good := mem_good (List.mem_of_getElem? (i := 115) (by decide +kernel)) (by decide +kernel)
theorem uw_116 : Cond.fieldLink RX7 75 "ToldDrops$Gauge" "mouth" "I" ∈ lw_good := mem_good (List.mem_of_getElem? (i := 116) (by decide +kernel)) (by decide +kernel)
theorem uw_117 : Cond.fieldLink RX6 148 "ToldDrops$Gauge" "mouth" "I" ∈ lw_good := mem_good (List.mem_of_getElem? (i := 117) (by decide +kernel)) (by decide +kernel)
theorem uw_118 : Cond.fieldLink RX0 13 "ToldDrops$Gauge" "cup" "I" ∈ lw_good := mem_good (List.mem_of_getElem? (i := 118) (by decide +kernel)) (by decide +kernel)
theorem uw_119 : Cond.fieldLink RX7 80 "ToldDrops$Gauge" "cup" "I" ∈ lw_good := mem_good (List.mem_of_getElem? (i := 119) (by decide +kernel)) (by decide +kernel)
theorem uw_120 : Cond.fieldLink RX6 151 "ToldDrops$Gauge" "cup" "I" ∈ lw_good := mem_good (List.mem_of_getElem? (i := 120) (by decide +kernel)) (by decide +kernel)
theorem uw_121 : Cond.fieldLink RX0 16 "ToldDrops$Gauge" "share" "I" ∈ lw_good := mem_good (List.mem_of_getElem? (i := 121) (by decide +kernel)) (by decide +kernel)
theorem uw_122 : Cond.fieldLink RX7 83 "ToldDrops$Gauge" "share" "I" ∈ lw_good := mem_good (List.mem_of_getElem? (i := 122) (by decide +kernel)) (by decide +kernel)
theorem uw_123 : Cond.fieldLink RX6 154 "ToldDrops$Gauge" "share" "I" ∈ lw_good := mem_good (List.mem_of_getElem? (i := 123) (by decide +kernel)) (by decide +kernel)
theorem uw_124 : Cond.fieldLink RX0 26 "ToldDrops$Gauge" "way" "I" ∈ lw_good := mem_good (List.mem_of_getElem? (i := 124) (by decide +kernel)) (by decide +kernel)
theorem uw_125 : Cond.fieldLink RX7 86 "ToldDrops$Gauge" "way" "I" ∈ lw_good := mem_good (List.mem_of_getElem? (i := 125) (by decide +kernel)) (by decide +kernel)
theorem uw_126 : Cond.fieldLink RX6 96 "ToldDrops$Gauge" "way" "I" ∈ lw_good := mem_good (List.mem_of_getElem? (i := 126) (by decide +kernel)) (by decide +kernel)
theorem uw_127 : Cond.fieldLink RX0 29 "ToldDrops$Gauge" "drops" "I" ∈ lw_good := mem_good (List.mem_of_getElem? (i := 127) (by decide +kernel)) (by decide +kernel)
theorem uw_128 : Cond.fieldLink RX7 89 "ToldDrops$Gauge" "drops" "I" ∈ lw_good := mem_good (List.mem_of_getElem? (i := 128) (by decide +kernel)) (by decide +kernel)
theorem uw_129 : Cond.fieldLink RX6 157 "ToldDrops$Gauge" "drops" "I" ∈ lw_good := mem_good (List.mem_of_getElem? (i := 129) (by decide +kernel)) (by decide +kernel)
theorem uw_130 : Cond.fieldLink RX0 32 "ToldDrops$Gauge" "tips" "I" ∈ lw_good := mem_good (List.mem_of_getElem? (i := 130) (by decide +kernel)) (by decide +kernel)
theorem uw_131 : Cond.fieldLink RX6 83 "ToldDrops$Gauge" "tips" "I" ∈ lw_good := mem_good (List.mem_of_getElem? (i := 131) (by decide +kernel)) (by decide +kernel)
theorem uw_132 : Cond.fieldLink RX0 35 "ToldDrops$Gauge" "caught" "I" ∈ lw_good := mem_good (List.mem_of_getElem? (i := 132) (by decide +kernel)) (by decide +kernel)
theorem uw_133 : Cond.fieldLink RX6 90 "ToldDrops$Gauge" "caught" "I" ∈ lw_good := mem_good (List.mem_of_getElem? (i := 133) (by decide +kernel)) (by decide +kernel)
theorem uw_134 : Cond.fieldLink RX0 38 "ToldDrops$Gauge" "poured" "I" ∈ lw_good := mem_good (List.mem_of_getElem? (i := 134) (by decide +kernel)) (by decide +kernel)
theorem uw_135 : Cond.fieldLink RX6 160 "ToldDrops$Gauge" "poured" "I" ∈ lw_good := mem_good (List.mem_of_getElem? (i := 135) (by decide +kernel)) (by decide +kernel)
theorem uw_136 : Cond.fieldLink RX0 22 "ToldDrops$Gauge" "page" "LToldDrops$Page;" ∈ lw_good := mem_good (List.mem_of_getElem? (i := 136) (by decide +kernel)) (by decide +kernel)
theorem uw_137 : Cond.fieldLink RX7 156 "ToldDrops$Gauge" "page" "LToldDrops$Page;" ∈ lw_good := mem_good (List.mem_of_getElem? (i := 137) (by decide +kernel)) (by decide +kernel)
theorem uw_138 : Cond.fieldLink RX6 102 "ToldDrops$Gauge" "page" "LToldDrops$Page;" ∈ lw_good := mem_good (List.mem_of_getElem? (i := 138) (by decide +kernel)) (by decide +kernel)
theorem uw_158 : Cond.instantiable RX5 5 ∈ lw_good := mem_good (List.mem_of_getElem? (i := 158) (by decide +kernel)) (by decide +kernel)
theorem uw_159 : Cond.methodLinkNest RX6 33 yX5_init "ToldDrops" ∈ lw_tbl := List.mem_of_getElem? (i := 159) (by decide +kernel)
theorem uw_160 : Cond.instanceMethod yX5_init ∈ lw_good := mem_good (List.mem_of_getElem? (i := 160) (by decide +kernel)) (by decide +kernel)
theorem uw_161 : Cond.code yX5_init cX5_init 1 (Option.none : Option ClassFile.FieldType) ∈ lw_good := mem_good (List.mem_of_getElem? (i := 161) (by decide +kernel)) (by decide +kernel)
theorem uw_162 : Cond.methodLink RX5 1 objectInit ∈ lw_good := mem_good (List.mem_of_getElem? (i := 162) (by decide +kernel)) (by decide +kernel)
theorem uw_163 : Cond.fieldLink RX5 7 "ToldDrops$Runner" "gauge" "I" ∈ lw_good := mem_good (List.mem_of_getElem? (i := 163) (by decide +kernel)) (by decide +kernel)
theorem uw_164 : Cond.fieldLink RX7 113 "ToldDrops$Runner" "gauge" "I" ∈ lw_good := mem_good (List.mem_of_getElem? (i := 164) (by decide +kernel)) (by decide +kernel)
theorem uw_165 : Cond.fieldLink RX6 80 "ToldDrops$Runner" "gauge" "I" ∈ lw_good := mem_good (List.mem_of_getElem? (i := 165) (by decide +kernel)) (by decide +kernel)
theorem uw_166 : Cond.fieldLink RX5 13 "ToldDrops$Runner" "tips" "I" ∈ lw_good := mem_good (List.mem_of_getElem? (i := 166) (by decide +kernel)) (by decide +kernel)
theorem uw_167 : Cond.fieldLink RX6 86 "ToldDrops$Runner" "tips" "I" ∈ lw_good := mem_good (List.mem_of_getElem? (i := 167) (by decide +kernel)) (by decide +kernel)
theorem uw_168 : Cond.fieldLink RX7 189 "ToldDrops$Runner" "tips" "I" ∈ lw_good := mem_good (List.mem_of_getElem? (i := 168) (by decide +kernel)) (by decide +kernel)
theorem uw_169 : Cond.fieldLink RX5 16 "ToldDrops$Runner" "hour" "I" ∈ lw_good := mem_good (List.mem_of_getElem? (i := 169) (by decide +kernel)) (by decide +kernel)
theorem uw_170 : Cond.fieldLink RX6 87 "ToldDrops$Runner" "hour" "I" ∈ lw_good := mem_good (List.mem_of_getElem? (i := 170) (by decide +kernel)) (by decide +kernel)
theorem uw_171 : Cond.fieldLink RX7 192 "ToldDrops$Runner" "hour" "I" ∈ lw_good := mem_good (List.mem_of_getElem? (i := 171) (by decide +kernel)) (by decide +kernel)
theorem uw_172 : Cond.fieldLink RX5 19 "ToldDrops$Runner" "villageCaught" "I" ∈ lw_good := mem_good (List.mem_of_getElem? (i := 172) (by decide +kernel)) (by decide +kernel)
theorem uw_173 : Cond.fieldLink RX6 93 "ToldDrops$Runner" "villageCaught" "I" ∈ lw_good := mem_good (List.mem_of_getElem? (i := 173) (by decide +kernel)) (by decide +kernel)
theorem uw_174 : Cond.fieldLink RX5 22 "ToldDrops$Runner" "hoursLeft" "I" ∈ lw_good := mem_good (List.mem_of_getElem? (i := 174) (by decide +kernel)) (by decide +kernel)
theorem uw_175 : Cond.fieldLink RX6 61 "ToldDrops$Runner" "hoursLeft" "I" ∈ lw_good := mem_good (List.mem_of_getElem? (i := 175) (by decide +kernel)) (by decide +kernel)
theorem uw_176 : Cond.fieldLink RX7 195 "ToldDrops$Runner" "hoursLeft" "I" ∈ lw_good := mem_good (List.mem_of_getElem? (i := 176) (by decide +kernel)) (by decide +kernel)
theorem uw_188 : Cond.fieldLink RX6 9 "ToldDrops$Valley" "wheel" "I" ∈ lw_good := mem_good (List.mem_of_getElem? (i := 188) (by decide +kernel)) (by decide +kernel)
theorem uw_189 : Cond.fieldLink RX7 58 "ToldDrops$Valley" "wheel" "I" ∈ lw_good := mem_good (List.mem_of_getElem? (i := 189) (by decide +kernel)) (by decide +kernel)
theorem uw_190 : Cond.fieldLink RX6 15 "ToldDrops$Valley" "guess" "I" ∈ lw_good := mem_good (List.mem_of_getElem? (i := 190) (by decide +kernel)) (by decide +kernel)
theorem uw_191 : Cond.fieldLink RX7 66 "ToldDrops$Valley" "guess" "I" ∈ lw_good := mem_good (List.mem_of_getElem? (i := 191) (by decide +kernel)) (by decide +kernel)
theorem uw_192 : Cond.fieldLink RX6 34 "ToldDrops$Valley" "hours" "I" ∈ lw_good := mem_good (List.mem_of_getElem? (i := 192) (by decide +kernel)) (by decide +kernel)
theorem uw_193 : Cond.fieldLink RX7 198 "ToldDrops$Valley" "hours" "I" ∈ lw_good := mem_good (List.mem_of_getElem? (i := 193) (by decide +kernel)) (by decide +kernel)
theorem uw_194 : Cond.fieldLink RX6 37 "ToldDrops$Valley" "onTheWay" "I" ∈ lw_good := mem_good (List.mem_of_getElem? (i := 194) (by decide +kernel)) (by decide +kernel)
theorem uw_195 : Cond.fieldLink RX7 128 "ToldDrops$Valley" "onTheWay" "I" ∈ lw_good := mem_good (List.mem_of_getElem? (i := 195) (by decide +kernel)) (by decide +kernel)
theorem uw_196 : Cond.fieldLink RX6 20 "ToldDrops$Valley" "gauges" "[LToldDrops$Gauge;" ∈ lw_good := mem_good (List.mem_of_getElem? (i := 196) (by decide +kernel)) (by decide +kernel)
theorem uw_197 : Cond.fieldLink RX7 225 "ToldDrops$Valley" "gauges" "[LToldDrops$Gauge;" ∈ lw_good := mem_good (List.mem_of_getElem? (i := 197) (by decide +kernel)) (by decide +kernel)
theorem uw_198 : Cond.fieldLink RX6 26 "ToldDrops$Valley" "runners" "[LToldDrops$Runner;" ∈ lw_good := mem_good (List.mem_of_getElem? (i := 198) (by decide +kernel)) (by decide +kernel)
theorem uw_212 : Cond.classLink RX7 19 RX1 ∈ lw_good := mem_good (List.mem_of_getElem? (i := 212) (by decide +kernel)) (by decide +kernel)
theorem uw_213 : Cond.instantiable RX1 2 ∈ lw_good := mem_good (List.mem_of_getElem? (i := 213) (by decide +kernel)) (by decide +kernel)
theorem uw_214 : Cond.methodLink RX7 21 yX1_init ∈ lw_good := mem_good (List.mem_of_getElem? (i := 214) (by decide +kernel)) (by decide +kernel)
theorem uw_215 : Cond.instanceMethod yX1_init ∈ lw_good := mem_good (List.mem_of_getElem? (i := 215) (by decide +kernel)) (by decide +kernel)
theorem uw_216 : Cond.code yX1_init cX1_init 2 (Option.none : Option ClassFile.FieldType) ∈ lw_good := mem_good (List.mem_of_getElem? (i := 216) (by decide +kernel)) (by decide +kernel)
theorem uw_217 : Cond.methodLink RX1 3 objectInit ∈ lw_good := mem_good (List.mem_of_getElem? (i := 217) (by decide +kernel)) (by decide +kernel)
theorem uw_218 : Cond.classLink RX1 9 RX6 ∈ lw_good := mem_good (List.mem_of_getElem? (i := 218) (by decide +kernel)) (by decide +kernel)
theorem uw_219 : Cond.arrayOver (ClassFile.FieldType.object "ToldDrops$Valley") ∈ lw_tbl := List.mem_of_getElem? (i := 219) (by decide +kernel)
theorem uw_220 : Cond.methodLink RX1 17 yX6_init ∈ lw_good := mem_good (List.mem_of_getElem? (i := 220) (by decide +kernel)) (by decide +kernel)
theorem uw_221 : Cond.fieldLink RX1 11 "ToldDrops$History" "states" "[LToldDrops$Valley;" ∈ lw_good := mem_good (List.mem_of_getElem? (i := 221) (by decide +kernel)) (by decide +kernel)
theorem uw_222 : Cond.fieldLink RX1 18 "ToldDrops$History" "size" "I" ∈ lw_good := mem_good (List.mem_of_getElem? (i := 222) (by decide +kernel)) (by decide +kernel)
theorem uw_223 : Cond.fieldLink RX7 210 "ToldDrops$History" "size" "I" ∈ lw_good := mem_good (List.mem_of_getElem? (i := 223) (by decide +kernel)) (by decide +kernel)
theorem uw_229 : Cond.classLink RX7 34 RX3 ∈ lw_good := mem_good (List.mem_of_getElem? (i := 229) (by decide +kernel)) (by decide +kernel)
theorem uw_230 : Cond.instantiable RX3 2 ∈ lw_good := mem_good (List.mem_of_getElem? (i := 230) (by decide +kernel)) (by decide +kernel)
theorem uw_231 : Cond.methodLinkNest RX7 36 yX3_init "ToldDrops" ∈ lw_tbl := List.mem_of_getElem? (i := 231) (by decide +kernel)
theorem uw_232 : Cond.instanceMethod yX3_init ∈ lw_good := mem_good (List.mem_of_getElem? (i := 232) (by decide +kernel)) (by decide +kernel)
theorem uw_233 : Cond.code yX3_init cX3_init 1 (Option.none : Option ClassFile.FieldType) ∈ lw_good := mem_good (List.mem_of_getElem? (i := 233) (by decide +kernel)) (by decide +kernel)
theorem uw_234 : Cond.methodLink RX3 3 objectInit ∈ lw_good := mem_good (List.mem_of_getElem? (i := 234) (by decide +kernel)) (by decide +kernel)
theorem uw_235 : Cond.fieldLink RX3 9 "ToldDrops$Pad" "signs" "[C" ∈ lw_good := mem_good (List.mem_of_getElem? (i := 235) (by decide +kernel)) (by decide +kernel)
theorem uw_236 : Cond.fieldLink RX3 15 "ToldDrops$Pad" "length" "I" ∈ lw_good := mem_good (List.mem_of_getElem? (i := 236) (by decide +kernel)) (by decide +kernel)
theorem uw_237 : Cond.fieldLink RX2 26 "ToldDrops$Pad" "length" "I" ∈ lw_good := mem_good (List.mem_of_getElem? (i := 237) (by decide +kernel)) (by decide +kernel)
theorem uw_238 : Cond.fieldLink RX7 149 "ToldDrops$Pad" "length" "I" ∈ lw_good := mem_good (List.mem_of_getElem? (i := 238) (by decide +kernel)) (by decide +kernel)
theorem uw_244 : Cond.arrayClass ClassFile.FieldType.boolean ∈ lw_good := mem_good (List.mem_of_getElem? (i := 244) (by decide +kernel)) (by decide +kernel)
theorem uw_245 : Cond.arrayClass ClassFile.FieldType.char ∈ lw_good := mem_good (List.mem_of_getElem? (i := 245) (by decide +kernel)) (by decide +kernel)
theorem uw_246 : Cond.classLink RX7 41 RX2 ∈ lw_good := mem_good (List.mem_of_getElem? (i := 246) (by decide +kernel)) (by decide +kernel)
theorem uw_247 : Cond.instantiable RX2 6 ∈ lw_good := mem_good (List.mem_of_getElem? (i := 247) (by decide +kernel)) (by decide +kernel)
theorem uw_248 : Cond.methodLink RX7 43 yX2_init ∈ lw_good := mem_good (List.mem_of_getElem? (i := 248) (by decide +kernel)) (by decide +kernel)
theorem uw_249 : Cond.instanceMethod yX2_init ∈ lw_good := mem_good (List.mem_of_getElem? (i := 249) (by decide +kernel)) (by decide +kernel)
theorem uw_250 : Cond.code yX2_init cX2_init 2 (Option.none : Option ClassFile.FieldType) ∈ lw_good := mem_good (List.mem_of_getElem? (i := 250) (by decide +kernel)) (by decide +kernel)
theorem uw_251 : Cond.methodLink RX2 3 objectInit ∈ lw_good := mem_good (List.mem_of_getElem? (i := 251) (by decide +kernel)) (by decide +kernel)
theorem uw_252 : Cond.fieldLink RX2 9 "ToldDrops$OrderReader" "pad" "LToldDrops$Pad;" ∈ lw_good := mem_good (List.mem_of_getElem? (i := 252) (by decide +kernel)) (by decide +kernel)
theorem uw_253 : Cond.fieldLink RX2 15 "ToldDrops$OrderReader" "at" "I" ∈ lw_good := mem_good (List.mem_of_getElem? (i := 253) (by decide +kernel)) (by decide +kernel)
theorem uw_254 : Cond.fieldLink RX2 39 "ToldDrops$OrderReader" "kind" "C" ∈ lw_good := mem_good (List.mem_of_getElem? (i := 254) (by decide +kernel)) (by decide +kernel)
theorem uw_255 : Cond.fieldLink RX7 246 "ToldDrops$OrderReader" "kind" "C" ∈ lw_good := mem_good (List.mem_of_getElem? (i := 255) (by decide +kernel)) (by decide +kernel)
theorem uw_256 : Cond.fieldLink RX2 53 "ToldDrops$OrderReader" "amount" "I" ∈ lw_good := mem_good (List.mem_of_getElem? (i := 256) (by decide +kernel)) (by decide +kernel)
theorem uw_257 : Cond.fieldLink RX7 252 "ToldDrops$OrderReader" "amount" "I" ∈ lw_good := mem_good (List.mem_of_getElem? (i := 257) (by decide +kernel)) (by decide +kernel)
theorem uw_258 : Cond.fieldLink RX2 56 "ToldDrops$OrderReader" "hours" "I" ∈ lw_good := mem_good (List.mem_of_getElem? (i := 258) (by decide +kernel)) (by decide +kernel)
theorem uw_259 : Cond.fieldLink RX7 251 "ToldDrops$OrderReader" "hours" "I" ∈ lw_good := mem_good (List.mem_of_getElem? (i := 259) (by decide +kernel)) (by decide +kernel)
theorem uw_260 : Cond.fieldLink RX2 59 "ToldDrops$OrderReader" "gauge" "I" ∈ lw_good := mem_good (List.mem_of_getElem? (i := 260) (by decide +kernel)) (by decide +kernel)
theorem uw_261 : Cond.fieldLink RX7 250 "ToldDrops$OrderReader" "gauge" "I" ∈ lw_good := mem_good (List.mem_of_getElem? (i := 261) (by decide +kernel)) (by decide +kernel)
theorem uw_275 : Cond.fieldLink RX7 10 "ToldDrops" "now" "LToldDrops$Valley;" ∈ lw_good := mem_good (List.mem_of_getElem? (i := 275) (by decide +kernel)) (by decide +kernel)
theorem uw_276 : Cond.fieldLink RX7 16 "ToldDrops" "trial" "LToldDrops$Valley;" ∈ lw_good := mem_good (List.mem_of_getElem? (i := 276) (by decide +kernel)) (by decide +kernel)
theorem uw_277 : Cond.fieldLink RX7 22 "ToldDrops" "history" "LToldDrops$History;" ∈ lw_good := mem_good (List.mem_of_getElem? (i := 277) (by decide +kernel)) (by decide +kernel)
theorem uw_278 : Cond.fieldLink RX7 26 "ToldDrops" "slots" "[LToldDrops$Valley;" ∈ lw_good := mem_good (List.mem_of_getElem? (i := 278) (by decide +kernel)) (by decide +kernel)
theorem uw_279 : Cond.fieldLink RX7 30 "ToldDrops" "saved" "[Z" ∈ lw_good := mem_good (List.mem_of_getElem? (i := 279) (by decide +kernel)) (by decide +kernel)
theorem uw_280 : Cond.fieldLink RX7 37 "ToldDrops" "pad" "LToldDrops$Pad;" ∈ lw_good := mem_good (List.mem_of_getElem? (i := 280) (by decide +kernel)) (by decide +kernel)
theorem uw_281 : Cond.fieldLink RX7 46 "ToldDrops" "reader" "LToldDrops$OrderReader;" ∈ lw_good := mem_good (List.mem_of_getElem? (i := 281) (by decide +kernel)) (by decide +kernel)
theorem uw_297 : Cond.methodLink RL 13 yX7_set ∈ lw_good := mem_good (List.mem_of_getElem? (i := 297) (by decide +kernel)) (by decide +kernel)
theorem uw_298 : Cond.instanceMethod yX7_set ∈ lw_good := mem_good (List.mem_of_getElem? (i := 298) (by decide +kernel)) (by decide +kernel)
theorem uw_299 : Cond.selects RX7 yX7_set yX7_set ∈ lw_good := mem_good (List.mem_of_getElem? (i := 299) (by decide +kernel)) (by decide +kernel)
theorem uw_300 : Cond.code yX7_set cX7_set 4 (Option.some ClassFile.FieldType.int) ∈ lw_good := mem_good (List.mem_of_getElem? (i := 300) (by decide +kernel)) (by decide +kernel)
theorem uw_301 : Cond.methodLink RX7 50 yX7_within ∈ lw_good := mem_good (List.mem_of_getElem? (i := 301) (by decide +kernel)) (by decide +kernel)
theorem uw_302 : Cond.static yX7_within ∈ lw_good := mem_good (List.mem_of_getElem? (i := 302) (by decide +kernel)) (by decide +kernel)
theorem uw_303 : Cond.code yX7_within cX7_within 3 (Option.some ClassFile.FieldType.boolean) ∈ lw_good := mem_good (List.mem_of_getElem? (i := 303) (by decide +kernel)) (by decide +kernel)
theorem uw_304 : Cond.methodLink RX7 54 yX1_record ∈ lw_good := mem_good (List.mem_of_getElem? (i := 304) (by decide +kernel)) (by decide +kernel)
theorem uw_305 : Cond.instanceMethod yX1_record ∈ lw_good := mem_good (List.mem_of_getElem? (i := 305) (by decide +kernel)) (by decide +kernel)
theorem uw_306 : Cond.selects RX1 yX1_record yX1_record ∈ lw_good := mem_good (List.mem_of_getElem? (i := 306) (by decide +kernel)) (by decide +kernel)
theorem uw_307 : Cond.code yX1_record cX1_record 2 (Option.none : Option ClassFile.FieldType) ∈ lw_good := mem_good (List.mem_of_getElem? (i := 307) (by decide +kernel)) (by decide +kernel)
theorem uw_308 : Cond.methodLink RX1 22 yX1_dropOldest ∈ lw_good := mem_good (List.mem_of_getElem? (i := 308) (by decide +kernel)) (by decide +kernel)
theorem uw_310 : Cond.instanceMethod yX1_dropOldest ∈ lw_good := mem_good (List.mem_of_getElem? (i := 310) (by decide +kernel)) (by decide +kernel)
theorem uw_311 : Cond.code yX1_dropOldest cX1_dropOldest 4 (Option.none : Option ClassFile.FieldType) ∈ lw_good := mem_good (List.mem_of_getElem? (i := 311) (by decide +kernel)) (by decide +kernel)
theorem uw_312 : Cond.methodLink RX1 25 yX6_copyFrom ∈ lw_good := mem_good (List.mem_of_getElem? (i := 312) (by decide +kernel)) (by decide +kernel)
theorem uw_313 : Cond.instanceMethod yX6_copyFrom ∈ lw_good := mem_good (List.mem_of_getElem? (i := 313) (by decide +kernel)) (by decide +kernel)
theorem uw_314 : Cond.selects RX6 yX6_copyFrom yX6_copyFrom ∈ lw_good := mem_good (List.mem_of_getElem? (i := 314) (by decide +kernel)) (by decide +kernel)
theorem uw_315 : Cond.code yX6_copyFrom cX6_copyFrom 3 (Option.none : Option ClassFile.FieldType) ∈ lw_good := mem_good (List.mem_of_getElem? (i := 315) (by decide +kernel)) (by decide +kernel)
theorem uw_316 : Cond.methodLink RX6 40 yX0_copyFrom ∈ lw_good := mem_good (List.mem_of_getElem? (i := 316) (by decide +kernel)) (by decide +kernel)
theorem uw_317 : Cond.instanceMethod yX0_copyFrom ∈ lw_good := mem_good (List.mem_of_getElem? (i := 317) (by decide +kernel)) (by decide +kernel)
theorem uw_318 : Cond.selects RX0 yX0_copyFrom yX0_copyFrom ∈ lw_good := mem_good (List.mem_of_getElem? (i := 318) (by decide +kernel)) (by decide +kernel)
theorem uw_319 : Cond.code yX0_copyFrom cX0_copyFrom 2 (Option.none : Option ClassFile.FieldType) ∈ lw_good := mem_good (List.mem_of_getElem? (i := 319) (by decide +kernel)) (by decide +kernel)
theorem uw_320 : Cond.methodLink RX0 41 yX4_copyFrom ∈ lw_good := mem_good (List.mem_of_getElem? (i := 320) (by decide +kernel)) (by decide +kernel)
theorem uw_321 : Cond.instanceMethod yX4_copyFrom ∈ lw_good := mem_good (List.mem_of_getElem? (i := 321) (by decide +kernel)) (by decide +kernel)
theorem uw_322 : Cond.selects RX4 yX4_copyFrom yX4_copyFrom ∈ lw_good := mem_good (List.mem_of_getElem? (i := 322) (by decide +kernel)) (by decide +kernel)
theorem uw_323 : Cond.code yX4_copyFrom cX4_copyFrom 2 (Option.none : Option ClassFile.FieldType) ∈ lw_good := mem_good (List.mem_of_getElem? (i := 323) (by decide +kernel)) (by decide +kernel)
theorem uw_324 : Cond.methodLink RX6 44 yX5_copyFrom ∈ lw_good := mem_good (List.mem_of_getElem? (i := 324) (by decide +kernel)) (by decide +kernel)
theorem uw_325 : Cond.instanceMethod yX5_copyFrom ∈ lw_good := mem_good (List.mem_of_getElem? (i := 325) (by decide +kernel)) (by decide +kernel)
theorem uw_326 : Cond.selects RX5 yX5_copyFrom yX5_copyFrom ∈ lw_good := mem_good (List.mem_of_getElem? (i := 326) (by decide +kernel)) (by decide +kernel)
theorem uw_327 : Cond.code yX5_copyFrom cX5_copyFrom 2 (Option.none : Option ClassFile.FieldType) ∈ lw_good := mem_good (List.mem_of_getElem? (i := 327) (by decide +kernel)) (by decide +kernel)
theorem uw_328 : Cond.methodLink RX7 62 yX6_changeWheels ∈ lw_good := mem_good (List.mem_of_getElem? (i := 328) (by decide +kernel)) (by decide +kernel)
theorem uw_329 : Cond.instanceMethod yX6_changeWheels ∈ lw_good := mem_good (List.mem_of_getElem? (i := 329) (by decide +kernel)) (by decide +kernel)
theorem uw_330 : Cond.selects RX6 yX6_changeWheels yX6_changeWheels ∈ lw_good := mem_good (List.mem_of_getElem? (i := 330) (by decide +kernel)) (by decide +kernel)
theorem uw_331 : Cond.code yX6_changeWheels cX6_changeWheels 3 (Option.none : Option ClassFile.FieldType) ∈ lw_good := mem_good (List.mem_of_getElem? (i := 331) (by decide +kernel)) (by decide +kernel)
theorem uw_332 : Cond.methodLink RX6 47 yX6_countAsLost ∈ lw_good := mem_good (List.mem_of_getElem? (i := 332) (by decide +kernel)) (by decide +kernel)
theorem uw_333 : Cond.instanceMethod yX6_countAsLost ∈ lw_good := mem_good (List.mem_of_getElem? (i := 333) (by decide +kernel)) (by decide +kernel)
theorem uw_334 : Cond.selects RX6 yX6_countAsLost yX6_countAsLost ∈ lw_good := mem_good (List.mem_of_getElem? (i := 334) (by decide +kernel)) (by decide +kernel)
theorem uw_335 : Cond.code yX6_countAsLost cX6_countAsLost 3 (Option.none : Option ClassFile.FieldType) ∈ lw_good := mem_good (List.mem_of_getElem? (i := 335) (by decide +kernel)) (by decide +kernel)
theorem uw_336 : Cond.methodLink RX6 70 yX6_gaugeAt ∈ lw_good := mem_good (List.mem_of_getElem? (i := 336) (by decide +kernel)) (by decide +kernel)
theorem uw_337 : Cond.instanceMethod yX6_gaugeAt ∈ lw_good := mem_good (List.mem_of_getElem? (i := 337) (by decide +kernel)) (by decide +kernel)
theorem uw_338 : Cond.selects RX6 yX6_gaugeAt yX6_gaugeAt ∈ lw_good := mem_good (List.mem_of_getElem? (i := 338) (by decide +kernel)) (by decide +kernel)
theorem uw_339 : Cond.code yX6_gaugeAt cX6_gaugeAt 2 (Option.some (ClassFile.FieldType.object "ToldDrops$Gauge")) ∈ lw_good := mem_good (List.mem_of_getElem? (i := 339) (by decide +kernel)) (by decide +kernel)
theorem uw_340 : Cond.constant RX7 69 (-1000002) ∈ lw_good := mem_good (List.mem_of_getElem? (i := 340) (by decide +kernel)) (by decide +kernel)
theorem uw_341 : Cond.methodLink RL 18 yX7_gauge ∈ lw_good := mem_good (List.mem_of_getElem? (i := 341) (by decide +kernel)) (by decide +kernel)
theorem uw_342 : Cond.instanceMethod yX7_gauge ∈ lw_good := mem_good (List.mem_of_getElem? (i := 342) (by decide +kernel)) (by decide +kernel)
theorem uw_343 : Cond.selects RX7 yX7_gauge yX7_gauge ∈ lw_good := mem_good (List.mem_of_getElem? (i := 343) (by decide +kernel)) (by decide +kernel)
theorem uw_344 : Cond.code yX7_gauge cX7_gauge 8 (Option.some ClassFile.FieldType.int) ∈ lw_good := mem_good (List.mem_of_getElem? (i := 344) (by decide +kernel)) (by decide +kernel)
theorem uw_345 : Cond.methodLink RX7 70 yX6_gaugeAt ∈ lw_good := mem_good (List.mem_of_getElem? (i := 345) (by decide +kernel)) (by decide +kernel)
theorem uw_346 : Cond.constant RX7 74 (-1000001) ∈ lw_good := mem_good (List.mem_of_getElem? (i := 346) (by decide +kernel)) (by decide +kernel)
theorem uw_347 : Cond.methodLink RL 23 yX7_rain ∈ lw_good := mem_good (List.mem_of_getElem? (i := 347) (by decide +kernel)) (by decide +kernel)
theorem uw_348 : Cond.instanceMethod yX7_rain ∈ lw_good := mem_good (List.mem_of_getElem? (i := 348) (by decide +kernel)) (by decide +kernel)
theorem uw_349 : Cond.selects RX7 yX7_rain yX7_rain ∈ lw_good := mem_good (List.mem_of_getElem? (i := 349) (by decide +kernel)) (by decide +kernel)
theorem uw_350 : Cond.code yX7_rain cX7_rain 3 (Option.some ClassFile.FieldType.int) ∈ lw_good := mem_good (List.mem_of_getElem? (i := 350) (by decide +kernel)) (by decide +kernel)
theorem uw_351 : Cond.methodLink RX7 92 yX6_hasTimeFor ∈ lw_good := mem_good (List.mem_of_getElem? (i := 351) (by decide +kernel)) (by decide +kernel)
theorem uw_352 : Cond.instanceMethod yX6_hasTimeFor ∈ lw_good := mem_good (List.mem_of_getElem? (i := 352) (by decide +kernel)) (by decide +kernel)
theorem uw_353 : Cond.selects RX6 yX6_hasTimeFor yX6_hasTimeFor ∈ lw_good := mem_good (List.mem_of_getElem? (i := 353) (by decide +kernel)) (by decide +kernel)
theorem uw_354 : Cond.code yX6_hasTimeFor cX6_hasTimeFor 2 (Option.some ClassFile.FieldType.boolean) ∈ lw_good := mem_good (List.mem_of_getElem? (i := 354) (by decide +kernel)) (by decide +kernel)
theorem uw_355 : Cond.constant RX7 96 (-1000004) ∈ lw_good := mem_good (List.mem_of_getElem? (i := 355) (by decide +kernel)) (by decide +kernel)
theorem uw_356 : Cond.methodLink RX7 97 yX6_passHours ∈ lw_good := mem_good (List.mem_of_getElem? (i := 356) (by decide +kernel)) (by decide +kernel)
theorem uw_357 : Cond.instanceMethod yX6_passHours ∈ lw_good := mem_good (List.mem_of_getElem? (i := 357) (by decide +kernel)) (by decide +kernel)
theorem uw_358 : Cond.selects RX6 yX6_passHours yX6_passHours ∈ lw_good := mem_good (List.mem_of_getElem? (i := 358) (by decide +kernel)) (by decide +kernel)
theorem uw_359 : Cond.code yX6_passHours cX6_passHours 9 (Option.some ClassFile.FieldType.int) ∈ lw_good := mem_good (List.mem_of_getElem? (i := 359) (by decide +kernel)) (by decide +kernel)
theorem uw_360 : Cond.methodLink RX6 50 yX0_catchRain ∈ lw_good := mem_good (List.mem_of_getElem? (i := 360) (by decide +kernel)) (by decide +kernel)
theorem uw_361 : Cond.instanceMethod yX0_catchRain ∈ lw_good := mem_good (List.mem_of_getElem? (i := 361) (by decide +kernel)) (by decide +kernel)
theorem uw_362 : Cond.selects RX0 yX0_catchRain yX0_catchRain ∈ lw_good := mem_good (List.mem_of_getElem? (i := 362) (by decide +kernel)) (by decide +kernel)
theorem uw_363 : Cond.code yX0_catchRain cX0_catchRain 4 (Option.some ClassFile.FieldType.int) ∈ lw_good := mem_good (List.mem_of_getElem? (i := 363) (by decide +kernel)) (by decide +kernel)
theorem uw_364 : Cond.methodLink RX6 54 yX6_moveRunners ∈ lw_good := mem_good (List.mem_of_getElem? (i := 364) (by decide +kernel)) (by decide +kernel)
theorem uw_366 : Cond.instanceMethod yX6_moveRunners ∈ lw_good := mem_good (List.mem_of_getElem? (i := 366) (by decide +kernel)) (by decide +kernel)
theorem uw_367 : Cond.code yX6_moveRunners cX6_moveRunners 4 (Option.none : Option ClassFile.FieldType) ∈ lw_good := mem_good (List.mem_of_getElem? (i := 367) (by decide +kernel)) (by decide +kernel)
theorem uw_368 : Cond.methodLink RX6 57 yX6_runnerAt ∈ lw_good := mem_good (List.mem_of_getElem? (i := 368) (by decide +kernel)) (by decide +kernel)
theorem uw_369 : Cond.instanceMethod yX6_runnerAt ∈ lw_good := mem_good (List.mem_of_getElem? (i := 369) (by decide +kernel)) (by decide +kernel)
theorem uw_370 : Cond.selects RX6 yX6_runnerAt yX6_runnerAt ∈ lw_good := mem_good (List.mem_of_getElem? (i := 370) (by decide +kernel)) (by decide +kernel)
theorem uw_371 : Cond.code yX6_runnerAt cX6_runnerAt 2 (Option.some (ClassFile.FieldType.object "ToldDrops$Runner")) ∈ lw_good := mem_good (List.mem_of_getElem? (i := 371) (by decide +kernel)) (by decide +kernel)
theorem uw_372 : Cond.methodLink RX6 64 yX6_hear ∈ lw_good := mem_good (List.mem_of_getElem? (i := 372) (by decide +kernel)) (by decide +kernel)
theorem uw_374 : Cond.instanceMethod yX6_hear ∈ lw_good := mem_good (List.mem_of_getElem? (i := 374) (by decide +kernel)) (by decide +kernel)
theorem uw_375 : Cond.code yX6_hear cX6_hear 4 (Option.none : Option ClassFile.FieldType) ∈ lw_good := mem_good (List.mem_of_getElem? (i := 375) (by decide +kernel)) (by decide +kernel)
theorem uw_376 : Cond.methodLink RX6 99 yX6_wheelAt ∈ lw_good := mem_good (List.mem_of_getElem? (i := 376) (by decide +kernel)) (by decide +kernel)
theorem uw_377 : Cond.instanceMethod yX6_wheelAt ∈ lw_good := mem_good (List.mem_of_getElem? (i := 377) (by decide +kernel)) (by decide +kernel)
theorem uw_378 : Cond.selects RX6 yX6_wheelAt yX6_wheelAt ∈ lw_good := mem_good (List.mem_of_getElem? (i := 378) (by decide +kernel)) (by decide +kernel)
theorem uw_379 : Cond.code yX6_wheelAt cX6_wheelAt 2 (Option.some ClassFile.FieldType.int) ∈ lw_good := mem_good (List.mem_of_getElem? (i := 379) (by decide +kernel)) (by decide +kernel)
theorem uw_380 : Cond.methodLink RX6 135 yX6_wentOn ∈ lw_good := mem_good (List.mem_of_getElem? (i := 380) (by decide +kernel)) (by decide +kernel)
theorem uw_382 : Cond.instanceMethod yX6_wentOn ∈ lw_good := mem_good (List.mem_of_getElem? (i := 382) (by decide +kernel)) (by decide +kernel)
theorem uw_383 : Cond.code yX6_wentOn cX6_wentOn 4 (Option.some ClassFile.FieldType.int) ∈ lw_good := mem_good (List.mem_of_getElem? (i := 383) (by decide +kernel)) (by decide +kernel)
theorem uw_384 : Cond.methodLink RX6 142 yX6_expectedTips ∈ lw_good := mem_good (List.mem_of_getElem? (i := 384) (by decide +kernel)) (by decide +kernel)
theorem uw_386 : Cond.instanceMethod yX6_expectedTips ∈ lw_good := mem_good (List.mem_of_getElem? (i := 386) (by decide +kernel)) (by decide +kernel)
theorem uw_387 : Cond.code yX6_expectedTips cX6_expectedTips 5 (Option.some ClassFile.FieldType.int) ∈ lw_good := mem_good (List.mem_of_getElem? (i := 387) (by decide +kernel)) (by decide +kernel)
theorem uw_388 : Cond.methodLink RX6 145 yX6_roundsFor ∈ lw_good := mem_good (List.mem_of_getElem? (i := 388) (by decide +kernel)) (by decide +kernel)
theorem uw_390 : Cond.instanceMethod yX6_roundsFor ∈ lw_good := mem_good (List.mem_of_getElem? (i := 390) (by decide +kernel)) (by decide +kernel)
theorem uw_391 : Cond.code yX6_roundsFor cX6_roundsFor 2 (Option.some ClassFile.FieldType.int) ∈ lw_good := mem_good (List.mem_of_getElem? (i := 391) (by decide +kernel)) (by decide +kernel)
theorem uw_392 : Cond.methodLink RX6 67 yX6_removeRunner ∈ lw_good := mem_good (List.mem_of_getElem? (i := 392) (by decide +kernel)) (by decide +kernel)
theorem uw_393 : Cond.instanceMethod yX6_removeRunner ∈ lw_good := mem_good (List.mem_of_getElem? (i := 393) (by decide +kernel)) (by decide +kernel)
theorem uw_394 : Cond.selects RX6 yX6_removeRunner yX6_removeRunner ∈ lw_good := mem_good (List.mem_of_getElem? (i := 394) (by decide +kernel)) (by decide +kernel)
theorem uw_395 : Cond.code yX6_removeRunner cX6_removeRunner 5 (Option.none : Option ClassFile.FieldType) ∈ lw_good := mem_good (List.mem_of_getElem? (i := 395) (by decide +kernel)) (by decide +kernel)
theorem uw_396 : Cond.methodLink RL 27 yX7_send ∈ lw_good := mem_good (List.mem_of_getElem? (i := 396) (by decide +kernel)) (by decide +kernel)
theorem uw_397 : Cond.instanceMethod yX7_send ∈ lw_good := mem_good (List.mem_of_getElem? (i := 397) (by decide +kernel)) (by decide +kernel)
theorem uw_398 : Cond.selects RX7 yX7_send yX7_send ∈ lw_good := mem_good (List.mem_of_getElem? (i := 398) (by decide +kernel)) (by decide +kernel)
theorem uw_399 : Cond.code yX7_send cX7_send 2 (Option.some ClassFile.FieldType.int) ∈ lw_good := mem_good (List.mem_of_getElem? (i := 399) (by decide +kernel)) (by decide +kernel)
theorem uw_400 : Cond.methodLink RX7 101 yX6_isFull ∈ lw_good := mem_good (List.mem_of_getElem? (i := 400) (by decide +kernel)) (by decide +kernel)
theorem uw_401 : Cond.instanceMethod yX6_isFull ∈ lw_good := mem_good (List.mem_of_getElem? (i := 401) (by decide +kernel)) (by decide +kernel)
theorem uw_402 : Cond.selects RX6 yX6_isFull yX6_isFull ∈ lw_good := mem_good (List.mem_of_getElem? (i := 402) (by decide +kernel)) (by decide +kernel)
theorem uw_403 : Cond.code yX6_isFull cX6_isFull 1 (Option.some ClassFile.FieldType.boolean) ∈ lw_good := mem_good (List.mem_of_getElem? (i := 403) (by decide +kernel)) (by decide +kernel)
theorem uw_404 : Cond.methodLink RX7 105 yX6_sendRunner ∈ lw_good := mem_good (List.mem_of_getElem? (i := 404) (by decide +kernel)) (by decide +kernel)
theorem uw_405 : Cond.instanceMethod yX6_sendRunner ∈ lw_good := mem_good (List.mem_of_getElem? (i := 405) (by decide +kernel)) (by decide +kernel)
theorem uw_406 : Cond.selects RX6 yX6_sendRunner yX6_sendRunner ∈ lw_good := mem_good (List.mem_of_getElem? (i := 406) (by decide +kernel)) (by decide +kernel)
theorem uw_407 : Cond.code yX6_sendRunner cX6_sendRunner 4 (Option.some ClassFile.FieldType.int) ∈ lw_good := mem_good (List.mem_of_getElem? (i := 407) (by decide +kernel)) (by decide +kernel)
theorem uw_408 : Cond.constant RX6 74 (-1000001) ∈ lw_good := mem_good (List.mem_of_getElem? (i := 408) (by decide +kernel)) (by decide +kernel)
theorem uw_409 : Cond.methodLink RX6 75 yX6_addRunner ∈ lw_good := mem_good (List.mem_of_getElem? (i := 409) (by decide +kernel)) (by decide +kernel)
theorem uw_411 : Cond.instanceMethod yX6_addRunner ∈ lw_good := mem_good (List.mem_of_getElem? (i := 411) (by decide +kernel)) (by decide +kernel)
theorem uw_412 : Cond.code yX6_addRunner cX6_addRunner 2 (Option.some (ClassFile.FieldType.object "ToldDrops$Runner")) ∈ lw_good := mem_good (List.mem_of_getElem? (i := 412) (by decide +kernel)) (by decide +kernel)
theorem uw_413 : Cond.constant RX6 79 (-1000004) ∈ lw_good := mem_good (List.mem_of_getElem? (i := 413) (by decide +kernel)) (by decide +kernel)
theorem uw_414 : Cond.methodLink RL 32 yX7_lose ∈ lw_good := mem_good (List.mem_of_getElem? (i := 414) (by decide +kernel)) (by decide +kernel)
theorem uw_415 : Cond.instanceMethod yX7_lose ∈ lw_good := mem_good (List.mem_of_getElem? (i := 415) (by decide +kernel)) (by decide +kernel)
theorem uw_416 : Cond.selects RX7 yX7_lose yX7_lose ∈ lw_good := mem_good (List.mem_of_getElem? (i := 416) (by decide +kernel)) (by decide +kernel)
theorem uw_417 : Cond.code yX7_lose cX7_lose 4 (Option.some ClassFile.FieldType.int) ∈ lw_good := mem_good (List.mem_of_getElem? (i := 417) (by decide +kernel)) (by decide +kernel)
theorem uw_418 : Cond.methodLink RX7 109 yX6_runnerAt ∈ lw_good := mem_good (List.mem_of_getElem? (i := 418) (by decide +kernel)) (by decide +kernel)
theorem uw_419 : Cond.methodLink RX7 118 yX6_countAsLost ∈ lw_good := mem_good (List.mem_of_getElem? (i := 419) (by decide +kernel)) (by decide +kernel)
theorem uw_420 : Cond.methodLink RX7 122 yX6_removeRunner ∈ lw_good := mem_good (List.mem_of_getElem? (i := 420) (by decide +kernel)) (by decide +kernel)
theorem uw_421 : Cond.methodLink RL 36 yX7_twice ∈ lw_good := mem_good (List.mem_of_getElem? (i := 421) (by decide +kernel)) (by decide +kernel)
theorem uw_422 : Cond.instanceMethod yX7_twice ∈ lw_good := mem_good (List.mem_of_getElem? (i := 422) (by decide +kernel)) (by decide +kernel)
theorem uw_423 : Cond.selects RX7 yX7_twice yX7_twice ∈ lw_good := mem_good (List.mem_of_getElem? (i := 423) (by decide +kernel)) (by decide +kernel)
theorem uw_424 : Cond.code yX7_twice cX7_twice 3 (Option.some ClassFile.FieldType.int) ∈ lw_good := mem_good (List.mem_of_getElem? (i := 424) (by decide +kernel)) (by decide +kernel)
theorem uw_425 : Cond.methodLink RX7 125 yX6_addSecondOf ∈ lw_good := mem_good (List.mem_of_getElem? (i := 425) (by decide +kernel)) (by decide +kernel)
theorem uw_426 : Cond.instanceMethod yX6_addSecondOf ∈ lw_good := mem_good (List.mem_of_getElem? (i := 426) (by decide +kernel)) (by decide +kernel)
theorem uw_427 : Cond.selects RX6 yX6_addSecondOf yX6_addSecondOf ∈ lw_good := mem_good (List.mem_of_getElem? (i := 427) (by decide +kernel)) (by decide +kernel)
theorem uw_428 : Cond.code yX6_addSecondOf cX6_addSecondOf 3 (Option.none : Option ClassFile.FieldType) ∈ lw_good := mem_good (List.mem_of_getElem? (i := 428) (by decide +kernel)) (by decide +kernel)
theorem uw_429 : Cond.methodLink RL 40 yX7_run ∈ lw_good := mem_good (List.mem_of_getElem? (i := 429) (by decide +kernel)) (by decide +kernel)
theorem uw_430 : Cond.instanceMethod yX7_run ∈ lw_good := mem_good (List.mem_of_getElem? (i := 430) (by decide +kernel)) (by decide +kernel)
theorem uw_431 : Cond.selects RX7 yX7_run yX7_run ∈ lw_good := mem_good (List.mem_of_getElem? (i := 431) (by decide +kernel)) (by decide +kernel)
theorem uw_432 : Cond.code yX7_run cX7_run 3 (Option.some ClassFile.FieldType.int) ∈ lw_good := mem_good (List.mem_of_getElem? (i := 432) (by decide +kernel)) (by decide +kernel)
theorem uw_433 : Cond.methodLink RX7 131 yX2_findFault ∈ lw_good := mem_good (List.mem_of_getElem? (i := 433) (by decide +kernel)) (by decide +kernel)
theorem uw_434 : Cond.instanceMethod yX2_findFault ∈ lw_good := mem_good (List.mem_of_getElem? (i := 434) (by decide +kernel)) (by decide +kernel)
theorem uw_435 : Cond.selects RX2 yX2_findFault yX2_findFault ∈ lw_good := mem_good (List.mem_of_getElem? (i := 435) (by decide +kernel)) (by decide +kernel)
theorem uw_436 : Cond.code yX2_findFault cX2_findFault 2 (Option.some ClassFile.FieldType.int) ∈ lw_good := mem_good (List.mem_of_getElem? (i := 436) (by decide +kernel)) (by decide +kernel)
theorem uw_437 : Cond.methodLink RX2 19 yX2_goToStart ∈ lw_good := mem_good (List.mem_of_getElem? (i := 437) (by decide +kernel)) (by decide +kernel)
theorem uw_438 : Cond.instanceMethod yX2_goToStart ∈ lw_good := mem_good (List.mem_of_getElem? (i := 438) (by decide +kernel)) (by decide +kernel)
theorem uw_439 : Cond.selects RX2 yX2_goToStart yX2_goToStart ∈ lw_good := mem_good (List.mem_of_getElem? (i := 439) (by decide +kernel)) (by decide +kernel)
theorem uw_440 : Cond.code yX2_goToStart cX2_goToStart 1 (Option.none : Option ClassFile.FieldType) ∈ lw_good := mem_good (List.mem_of_getElem? (i := 440) (by decide +kernel)) (by decide +kernel)
theorem uw_441 : Cond.methodLink RX2 22 yX2_readOrder ∈ lw_good := mem_good (List.mem_of_getElem? (i := 441) (by decide +kernel)) (by decide +kernel)
theorem uw_442 : Cond.instanceMethod yX2_readOrder ∈ lw_good := mem_good (List.mem_of_getElem? (i := 442) (by decide +kernel)) (by decide +kernel)
theorem uw_443 : Cond.selects RX2 yX2_readOrder yX2_readOrder ∈ lw_good := mem_good (List.mem_of_getElem? (i := 443) (by decide +kernel)) (by decide +kernel)
theorem uw_444 : Cond.code yX2_readOrder cX2_readOrder 1 (Option.some ClassFile.FieldType.boolean) ∈ lw_good := mem_good (List.mem_of_getElem? (i := 444) (by decide +kernel)) (by decide +kernel)
theorem uw_445 : Cond.methodLink RX2 32 yX3_signAt ∈ lw_good := mem_good (List.mem_of_getElem? (i := 445) (by decide +kernel)) (by decide +kernel)
theorem uw_446 : Cond.instanceMethod yX3_signAt ∈ lw_good := mem_good (List.mem_of_getElem? (i := 446) (by decide +kernel)) (by decide +kernel)
theorem uw_447 : Cond.selects RX3 yX3_signAt yX3_signAt ∈ lw_good := mem_good (List.mem_of_getElem? (i := 447) (by decide +kernel)) (by decide +kernel)
theorem uw_448 : Cond.code yX3_signAt cX3_signAt 2 (Option.some ClassFile.FieldType.char) ∈ lw_good := mem_good (List.mem_of_getElem? (i := 448) (by decide +kernel)) (by decide +kernel)
theorem uw_449 : Cond.methodLink RX2 43 yX2_readRain ∈ lw_good := mem_good (List.mem_of_getElem? (i := 449) (by decide +kernel)) (by decide +kernel)
theorem uw_451 : Cond.instanceMethod yX2_readRain ∈ lw_good := mem_good (List.mem_of_getElem? (i := 451) (by decide +kernel)) (by decide +kernel)
theorem uw_452 : Cond.code yX2_readRain cX2_readRain 1 (Option.some ClassFile.FieldType.boolean) ∈ lw_good := mem_good (List.mem_of_getElem? (i := 452) (by decide +kernel)) (by decide +kernel)
theorem uw_453 : Cond.methodLink RX2 49 yX2_readNumber ∈ lw_good := mem_good (List.mem_of_getElem? (i := 453) (by decide +kernel)) (by decide +kernel)
theorem uw_455 : Cond.instanceMethod yX2_readNumber ∈ lw_good := mem_good (List.mem_of_getElem? (i := 455) (by decide +kernel)) (by decide +kernel)
theorem uw_456 : Cond.code yX2_readNumber cX2_readNumber 6 (Option.some ClassFile.FieldType.int) ∈ lw_good := mem_good (List.mem_of_getElem? (i := 456) (by decide +kernel)) (by decide +kernel)
theorem uw_457 : Cond.methodLink RX2 62 yX3_digitAt ∈ lw_good := mem_good (List.mem_of_getElem? (i := 457) (by decide +kernel)) (by decide +kernel)
theorem uw_458 : Cond.instanceMethod yX3_digitAt ∈ lw_good := mem_good (List.mem_of_getElem? (i := 458) (by decide +kernel)) (by decide +kernel)
theorem uw_459 : Cond.selects RX3 yX3_digitAt yX3_digitAt ∈ lw_good := mem_good (List.mem_of_getElem? (i := 459) (by decide +kernel)) (by decide +kernel)
theorem uw_460 : Cond.code yX3_digitAt cX3_digitAt 3 (Option.some ClassFile.FieldType.int) ∈ lw_good := mem_good (List.mem_of_getElem? (i := 460) (by decide +kernel)) (by decide +kernel)
theorem uw_461 : Cond.methodLink RX3 19 yX3_signAt ∈ lw_good := mem_good (List.mem_of_getElem? (i := 461) (by decide +kernel)) (by decide +kernel)
theorem uw_462 : Cond.methodLink RX2 46 yX2_readGauge ∈ lw_good := mem_good (List.mem_of_getElem? (i := 462) (by decide +kernel)) (by decide +kernel)
theorem uw_464 : Cond.instanceMethod yX2_readGauge ∈ lw_good := mem_good (List.mem_of_getElem? (i := 464) (by decide +kernel)) (by decide +kernel)
theorem uw_465 : Cond.code yX2_readGauge cX2_readGauge 1 (Option.some ClassFile.FieldType.boolean) ∈ lw_good := mem_good (List.mem_of_getElem? (i := 465) (by decide +kernel)) (by decide +kernel)
theorem uw_466 : Cond.constant RX2 31 (-1000006) ∈ lw_good := mem_good (List.mem_of_getElem? (i := 466) (by decide +kernel)) (by decide +kernel)
theorem uw_467 : Cond.methodLink RX2 36 yX2_passSeparator ∈ lw_good := mem_good (List.mem_of_getElem? (i := 467) (by decide +kernel)) (by decide +kernel)
theorem uw_468 : Cond.instanceMethod yX2_passSeparator ∈ lw_good := mem_good (List.mem_of_getElem? (i := 468) (by decide +kernel)) (by decide +kernel)
theorem uw_469 : Cond.selects RX2 yX2_passSeparator yX2_passSeparator ∈ lw_good := mem_good (List.mem_of_getElem? (i := 469) (by decide +kernel)) (by decide +kernel)
theorem uw_470 : Cond.code yX2_passSeparator cX2_passSeparator 1 (Option.none : Option ClassFile.FieldType) ∈ lw_good := mem_good (List.mem_of_getElem? (i := 470) (by decide +kernel)) (by decide +kernel)
theorem uw_471 : Cond.constant RX7 135 (-1000006) ∈ lw_good := mem_good (List.mem_of_getElem? (i := 471) (by decide +kernel)) (by decide +kernel)
theorem uw_472 : Cond.constant RX7 136 (-1000003) ∈ lw_good := mem_good (List.mem_of_getElem? (i := 472) (by decide +kernel)) (by decide +kernel)
theorem uw_473 : Cond.methodLink RX7 137 yX2_goToStart ∈ lw_good := mem_good (List.mem_of_getElem? (i := 473) (by decide +kernel)) (by decide +kernel)
theorem uw_474 : Cond.methodLink RX7 140 yX2_readOrder ∈ lw_good := mem_good (List.mem_of_getElem? (i := 474) (by decide +kernel)) (by decide +kernel)
theorem uw_475 : Cond.methodLink RX7 143 yX7_obeyOrder ∈ lw_good := mem_good (List.mem_of_getElem? (i := 475) (by decide +kernel)) (by decide +kernel)
theorem uw_477 : Cond.instanceMethod yX7_obeyOrder ∈ lw_good := mem_good (List.mem_of_getElem? (i := 477) (by decide +kernel)) (by decide +kernel)
theorem uw_478 : Cond.code yX7_obeyOrder cX7_obeyOrder 1 (Option.some ClassFile.FieldType.boolean) ∈ lw_good := mem_good (List.mem_of_getElem? (i := 478) (by decide +kernel)) (by decide +kernel)
theorem uw_479 : Cond.methodLink RX7 146 yX2_passSeparator ∈ lw_good := mem_good (List.mem_of_getElem? (i := 479) (by decide +kernel)) (by decide +kernel)
theorem uw_480 : Cond.methodLink RL 45 yX7_gaugeOf ∈ lw_good := mem_good (List.mem_of_getElem? (i := 480) (by decide +kernel)) (by decide +kernel)
theorem uw_481 : Cond.instanceMethod yX7_gaugeOf ∈ lw_good := mem_good (List.mem_of_getElem? (i := 481) (by decide +kernel)) (by decide +kernel)
theorem uw_482 : Cond.selects RX7 yX7_gaugeOf yX7_gaugeOf ∈ lw_good := mem_good (List.mem_of_getElem? (i := 482) (by decide +kernel)) (by decide +kernel)
theorem uw_483 : Cond.code yX7_gaugeOf cX7_gaugeOf 4 (Option.some ClassFile.FieldType.int) ∈ lw_good := mem_good (List.mem_of_getElem? (i := 483) (by decide +kernel)) (by decide +kernel)
theorem uw_484 : Cond.methodLink RX7 152 yX6_factOf ∈ lw_good := mem_good (List.mem_of_getElem? (i := 484) (by decide +kernel)) (by decide +kernel)
theorem uw_485 : Cond.instanceMethod yX6_factOf ∈ lw_good := mem_good (List.mem_of_getElem? (i := 485) (by decide +kernel)) (by decide +kernel)
theorem uw_486 : Cond.selects RX6 yX6_factOf yX6_factOf ∈ lw_good := mem_good (List.mem_of_getElem? (i := 486) (by decide +kernel)) (by decide +kernel)
theorem uw_487 : Cond.code yX6_factOf cX6_factOf 3 (Option.some ClassFile.FieldType.int) ∈ lw_good := mem_good (List.mem_of_getElem? (i := 487) (by decide +kernel)) (by decide +kernel)
theorem uw_488 : Cond.constant RX6 163 (-1000002) ∈ lw_good := mem_good (List.mem_of_getElem? (i := 488) (by decide +kernel)) (by decide +kernel)
theorem uw_489 : Cond.methodLink RL 49 yX7_ledger ∈ lw_good := mem_good (List.mem_of_getElem? (i := 489) (by decide +kernel)) (by decide +kernel)
theorem uw_490 : Cond.instanceMethod yX7_ledger ∈ lw_good := mem_good (List.mem_of_getElem? (i := 490) (by decide +kernel)) (by decide +kernel)
theorem uw_491 : Cond.selects RX7 yX7_ledger yX7_ledger ∈ lw_good := mem_good (List.mem_of_getElem? (i := 491) (by decide +kernel)) (by decide +kernel)
theorem uw_492 : Cond.code yX7_ledger cX7_ledger 5 (Option.some ClassFile.FieldType.int) ∈ lw_good := mem_good (List.mem_of_getElem? (i := 492) (by decide +kernel)) (by decide +kernel)
theorem uw_493 : Cond.methodLink RX7 171 yX6_wheelAt ∈ lw_good := mem_good (List.mem_of_getElem? (i := 493) (by decide +kernel)) (by decide +kernel)
theorem uw_494 : Cond.methodLink RX7 174 yX0_gap ∈ lw_good := mem_good (List.mem_of_getElem? (i := 494) (by decide +kernel)) (by decide +kernel)
theorem uw_495 : Cond.instanceMethod yX0_gap ∈ lw_good := mem_good (List.mem_of_getElem? (i := 495) (by decide +kernel)) (by decide +kernel)
theorem uw_496 : Cond.selects RX0 yX0_gap yX0_gap ∈ lw_good := mem_good (List.mem_of_getElem? (i := 496) (by decide +kernel)) (by decide +kernel)
theorem uw_497 : Cond.code yX0_gap cX0_gap 1 (Option.some ClassFile.FieldType.int) ∈ lw_good := mem_good (List.mem_of_getElem? (i := 497) (by decide +kernel)) (by decide +kernel)
theorem uw_498 : Cond.methodLink RL 53 yX7_runner ∈ lw_good := mem_good (List.mem_of_getElem? (i := 498) (by decide +kernel)) (by decide +kernel)
theorem uw_499 : Cond.instanceMethod yX7_runner ∈ lw_good := mem_good (List.mem_of_getElem? (i := 499) (by decide +kernel)) (by decide +kernel)
theorem uw_500 : Cond.selects RX7 yX7_runner yX7_runner ∈ lw_good := mem_good (List.mem_of_getElem? (i := 500) (by decide +kernel)) (by decide +kernel)
theorem uw_501 : Cond.code yX7_runner cX7_runner 4 (Option.some ClassFile.FieldType.int) ∈ lw_good := mem_good (List.mem_of_getElem? (i := 501) (by decide +kernel)) (by decide +kernel)
theorem uw_502 : Cond.methodLink RL 57 yX7_count ∈ lw_good := mem_good (List.mem_of_getElem? (i := 502) (by decide +kernel)) (by decide +kernel)
theorem uw_503 : Cond.instanceMethod yX7_count ∈ lw_good := mem_good (List.mem_of_getElem? (i := 503) (by decide +kernel)) (by decide +kernel)
theorem uw_504 : Cond.selects RX7 yX7_count yX7_count ∈ lw_good := mem_good (List.mem_of_getElem? (i := 504) (by decide +kernel)) (by decide +kernel)
theorem uw_505 : Cond.code yX7_count cX7_count 2 (Option.some ClassFile.FieldType.int) ∈ lw_good := mem_good (List.mem_of_getElem? (i := 505) (by decide +kernel)) (by decide +kernel)
theorem uw_506 : Cond.methodLink RX7 201 yX6_sumOf ∈ lw_good := mem_good (List.mem_of_getElem? (i := 506) (by decide +kernel)) (by decide +kernel)
theorem uw_507 : Cond.instanceMethod yX6_sumOf ∈ lw_good := mem_good (List.mem_of_getElem? (i := 507) (by decide +kernel)) (by decide +kernel)
theorem uw_508 : Cond.selects RX6 yX6_sumOf yX6_sumOf ∈ lw_good := mem_good (List.mem_of_getElem? (i := 508) (by decide +kernel)) (by decide +kernel)
theorem uw_509 : Cond.code yX6_sumOf cX6_sumOf 7 (Option.some ClassFile.FieldType.int) ∈ lw_good := mem_good (List.mem_of_getElem? (i := 509) (by decide +kernel)) (by decide +kernel)
theorem uw_510 : Cond.methodLink RX6 164 yX6_factOf ∈ lw_good := mem_good (List.mem_of_getElem? (i := 510) (by decide +kernel)) (by decide +kernel)
theorem uw_511 : Cond.methodLink RX7 204 yX6_sumOfTold ∈ lw_good := mem_good (List.mem_of_getElem? (i := 511) (by decide +kernel)) (by decide +kernel)
theorem uw_512 : Cond.instanceMethod yX6_sumOfTold ∈ lw_good := mem_good (List.mem_of_getElem? (i := 512) (by decide +kernel)) (by decide +kernel)
theorem uw_513 : Cond.selects RX6 yX6_sumOfTold yX6_sumOfTold ∈ lw_good := mem_good (List.mem_of_getElem? (i := 513) (by decide +kernel)) (by decide +kernel)
theorem uw_514 : Cond.code yX6_sumOfTold cX6_sumOfTold 6 (Option.some ClassFile.FieldType.int) ∈ lw_good := mem_good (List.mem_of_getElem? (i := 514) (by decide +kernel)) (by decide +kernel)
theorem uw_515 : Cond.methodLink RX7 207 yX6_gaugesWithGap ∈ lw_good := mem_good (List.mem_of_getElem? (i := 515) (by decide +kernel)) (by decide +kernel)
theorem uw_516 : Cond.instanceMethod yX6_gaugesWithGap ∈ lw_good := mem_good (List.mem_of_getElem? (i := 516) (by decide +kernel)) (by decide +kernel)
theorem uw_517 : Cond.selects RX6 yX6_gaugesWithGap yX6_gaugesWithGap ∈ lw_good := mem_good (List.mem_of_getElem? (i := 517) (by decide +kernel)) (by decide +kernel)
theorem uw_518 : Cond.code yX6_gaugesWithGap cX6_gaugesWithGap 6 (Option.some ClassFile.FieldType.int) ∈ lw_good := mem_good (List.mem_of_getElem? (i := 518) (by decide +kernel)) (by decide +kernel)
theorem uw_519 : Cond.methodLink RX6 168 yX0_gap ∈ lw_good := mem_good (List.mem_of_getElem? (i := 519) (by decide +kernel)) (by decide +kernel)
theorem uw_520 : Cond.methodLink RL 61 yX7_untilRound ∈ lw_good := mem_good (List.mem_of_getElem? (i := 520) (by decide +kernel)) (by decide +kernel)
theorem uw_521 : Cond.instanceMethod yX7_untilRound ∈ lw_good := mem_good (List.mem_of_getElem? (i := 521) (by decide +kernel)) (by decide +kernel)
theorem uw_522 : Cond.selects RX7 yX7_untilRound yX7_untilRound ∈ lw_good := mem_good (List.mem_of_getElem? (i := 522) (by decide +kernel)) (by decide +kernel)
theorem uw_523 : Cond.code yX7_untilRound cX7_untilRound 5 (Option.some ClassFile.FieldType.int) ∈ lw_good := mem_good (List.mem_of_getElem? (i := 523) (by decide +kernel)) (by decide +kernel)
theorem uw_524 : Cond.methodLink RX7 213 yX6_copyFrom ∈ lw_good := mem_good (List.mem_of_getElem? (i := 524) (by decide +kernel)) (by decide +kernel)
theorem uw_525 : Cond.methodLink RX7 216 yX0_untold ∈ lw_good := mem_good (List.mem_of_getElem? (i := 525) (by decide +kernel)) (by decide +kernel)
theorem uw_526 : Cond.instanceMethod yX0_untold ∈ lw_good := mem_good (List.mem_of_getElem? (i := 526) (by decide +kernel)) (by decide +kernel)
theorem uw_527 : Cond.selects RX0 yX0_untold yX0_untold ∈ lw_good := mem_good (List.mem_of_getElem? (i := 527) (by decide +kernel)) (by decide +kernel)
theorem uw_528 : Cond.code yX0_untold cX0_untold 1 (Option.some ClassFile.FieldType.int) ∈ lw_good := mem_good (List.mem_of_getElem? (i := 528) (by decide +kernel)) (by decide +kernel)
theorem uw_529 : Cond.methodLink RX7 219 yX0_catchRain ∈ lw_good := mem_good (List.mem_of_getElem? (i := 529) (by decide +kernel)) (by decide +kernel)
theorem uw_530 : Cond.methodLink RL 65 yX7_ifSent ∈ lw_good := mem_good (List.mem_of_getElem? (i := 530) (by decide +kernel)) (by decide +kernel)
theorem uw_531 : Cond.instanceMethod yX7_ifSent ∈ lw_good := mem_good (List.mem_of_getElem? (i := 531) (by decide +kernel)) (by decide +kernel)
theorem uw_532 : Cond.selects RX7 yX7_ifSent yX7_ifSent ∈ lw_good := mem_good (List.mem_of_getElem? (i := 532) (by decide +kernel)) (by decide +kernel)
theorem uw_533 : Cond.code yX7_ifSent cX7_ifSent 3 (Option.some ClassFile.FieldType.int) ∈ lw_good := mem_good (List.mem_of_getElem? (i := 533) (by decide +kernel)) (by decide +kernel)
theorem uw_534 : Cond.methodLink RL 69 yX7_ifAllCome ∈ lw_good := mem_good (List.mem_of_getElem? (i := 534) (by decide +kernel)) (by decide +kernel)
theorem uw_535 : Cond.instanceMethod yX7_ifAllCome ∈ lw_good := mem_good (List.mem_of_getElem? (i := 535) (by decide +kernel)) (by decide +kernel)
theorem uw_536 : Cond.selects RX7 yX7_ifAllCome yX7_ifAllCome ∈ lw_good := mem_good (List.mem_of_getElem? (i := 536) (by decide +kernel)) (by decide +kernel)
theorem uw_537 : Cond.code yX7_ifAllCome cX7_ifAllCome 3 (Option.some ClassFile.FieldType.int) ∈ lw_good := mem_good (List.mem_of_getElem? (i := 537) (by decide +kernel)) (by decide +kernel)
theorem uw_538 : Cond.methodLink RX7 222 yX6_longestWay ∈ lw_good := mem_good (List.mem_of_getElem? (i := 538) (by decide +kernel)) (by decide +kernel)
theorem uw_539 : Cond.instanceMethod yX6_longestWay ∈ lw_good := mem_good (List.mem_of_getElem? (i := 539) (by decide +kernel)) (by decide +kernel)
theorem uw_540 : Cond.selects RX6 yX6_longestWay yX6_longestWay ∈ lw_good := mem_good (List.mem_of_getElem? (i := 540) (by decide +kernel)) (by decide +kernel)
theorem uw_541 : Cond.code yX6_longestWay cX6_longestWay 3 (Option.some ClassFile.FieldType.int) ∈ lw_good := mem_good (List.mem_of_getElem? (i := 541) (by decide +kernel)) (by decide +kernel)
theorem uw_542 : Cond.methodLink RX6 111 ⟨"java/lang/Math", "max", "(II)I"⟩ ∈ lw_good := mem_good (List.mem_of_getElem? (i := 542) (by decide +kernel)) (by decide +kernel)
theorem uw_543 : Cond.static ⟨"java/lang/Math", "max", "(II)I"⟩ ∈ lw_good := mem_good (List.mem_of_getElem? (i := 543) (by decide +kernel)) (by decide +kernel)
theorem uw_544 : Cond.code ⟨"java/lang/Math", "max", "(II)I"⟩ prog_11_method_65_code 2 (Option.some ClassFile.FieldType.int) ∈ lw_good := mem_good (List.mem_of_getElem? (i := 544) (by decide +kernel)) (by decide +kernel)
theorem uw_545 : Cond.methodLink RL 73 yX7_mostUntold ∈ lw_good := mem_good (List.mem_of_getElem? (i := 545) (by decide +kernel)) (by decide +kernel)
theorem uw_546 : Cond.instanceMethod yX7_mostUntold ∈ lw_good := mem_good (List.mem_of_getElem? (i := 546) (by decide +kernel)) (by decide +kernel)
theorem uw_547 : Cond.selects RX7 yX7_mostUntold yX7_mostUntold ∈ lw_good := mem_good (List.mem_of_getElem? (i := 547) (by decide +kernel)) (by decide +kernel)
theorem uw_548 : Cond.code yX7_mostUntold cX7_mostUntold 5 (Option.some ClassFile.FieldType.int) ∈ lw_good := mem_good (List.mem_of_getElem? (i := 548) (by decide +kernel)) (by decide +kernel)
theorem uw_549 : Cond.methodLink RL 79 yX7_put ∈ lw_good := mem_good (List.mem_of_getElem? (i := 549) (by decide +kernel)) (by decide +kernel)
theorem uw_550 : Cond.instanceMethod yX7_put ∈ lw_good := mem_good (List.mem_of_getElem? (i := 550) (by decide +kernel)) (by decide +kernel)
theorem uw_551 : Cond.selects RX7 yX7_put yX7_put ∈ lw_good := mem_good (List.mem_of_getElem? (i := 551) (by decide +kernel)) (by decide +kernel)
theorem uw_552 : Cond.code yX7_put cX7_put 5 (Option.some ClassFile.FieldType.int) ∈ lw_good := mem_good (List.mem_of_getElem? (i := 552) (by decide +kernel)) (by decide +kernel)
theorem uw_553 : Cond.methodLink RX7 229 yX7_charactersIn ∈ lw_good := mem_good (List.mem_of_getElem? (i := 553) (by decide +kernel)) (by decide +kernel)
theorem uw_554 : Cond.static yX7_charactersIn ∈ lw_good := mem_good (List.mem_of_getElem? (i := 554) (by decide +kernel)) (by decide +kernel)
theorem uw_555 : Cond.code yX7_charactersIn cX7_charactersIn 4 (Option.some ClassFile.FieldType.int) ∈ lw_good := mem_good (List.mem_of_getElem? (i := 555) (by decide +kernel)) (by decide +kernel)
theorem uw_556 : Cond.methodLink RX7 233 yX7_codeAt ∈ lw_good := mem_good (List.mem_of_getElem? (i := 556) (by decide +kernel)) (by decide +kernel)
theorem uw_557 : Cond.static yX7_codeAt ∈ lw_good := mem_good (List.mem_of_getElem? (i := 557) (by decide +kernel)) (by decide +kernel)
theorem uw_558 : Cond.code yX7_codeAt cX7_codeAt 3 (Option.some ClassFile.FieldType.int) ∈ lw_good := mem_good (List.mem_of_getElem? (i := 558) (by decide +kernel)) (by decide +kernel)
theorem uw_559 : Cond.methodLink RX7 237 yX3_append ∈ lw_good := mem_good (List.mem_of_getElem? (i := 559) (by decide +kernel)) (by decide +kernel)
theorem uw_560 : Cond.instanceMethod yX3_append ∈ lw_good := mem_good (List.mem_of_getElem? (i := 560) (by decide +kernel)) (by decide +kernel)
theorem uw_561 : Cond.selects RX3 yX3_append yX3_append ∈ lw_good := mem_good (List.mem_of_getElem? (i := 561) (by decide +kernel)) (by decide +kernel)
theorem uw_562 : Cond.code yX3_append cX3_append 2 (Option.none : Option ClassFile.FieldType) ∈ lw_good := mem_good (List.mem_of_getElem? (i := 562) (by decide +kernel)) (by decide +kernel)
theorem uw_563 : Cond.methodLink RL 84 yX7_wipe ∈ lw_good := mem_good (List.mem_of_getElem? (i := 563) (by decide +kernel)) (by decide +kernel)
theorem uw_564 : Cond.instanceMethod yX7_wipe ∈ lw_good := mem_good (List.mem_of_getElem? (i := 564) (by decide +kernel)) (by decide +kernel)
theorem uw_565 : Cond.selects RX7 yX7_wipe yX7_wipe ∈ lw_good := mem_good (List.mem_of_getElem? (i := 565) (by decide +kernel)) (by decide +kernel)
theorem uw_566 : Cond.code yX7_wipe cX7_wipe 2 (Option.some ClassFile.FieldType.int) ∈ lw_good := mem_good (List.mem_of_getElem? (i := 566) (by decide +kernel)) (by decide +kernel)
theorem uw_567 : Cond.methodLink RL 88 yX7_fault ∈ lw_good := mem_good (List.mem_of_getElem? (i := 567) (by decide +kernel)) (by decide +kernel)
theorem uw_568 : Cond.instanceMethod yX7_fault ∈ lw_good := mem_good (List.mem_of_getElem? (i := 568) (by decide +kernel)) (by decide +kernel)
theorem uw_569 : Cond.selects RX7 yX7_fault yX7_fault ∈ lw_good := mem_good (List.mem_of_getElem? (i := 569) (by decide +kernel)) (by decide +kernel)
theorem uw_570 : Cond.code yX7_fault cX7_fault 1 (Option.some ClassFile.FieldType.int) ∈ lw_good := mem_good (List.mem_of_getElem? (i := 570) (by decide +kernel)) (by decide +kernel)
theorem uw_571 : Cond.methodLink RL 92 yX7_undo ∈ lw_good := mem_good (List.mem_of_getElem? (i := 571) (by decide +kernel)) (by decide +kernel)
theorem uw_572 : Cond.instanceMethod yX7_undo ∈ lw_good := mem_good (List.mem_of_getElem? (i := 572) (by decide +kernel)) (by decide +kernel)
theorem uw_573 : Cond.selects RX7 yX7_undo yX7_undo ∈ lw_good := mem_good (List.mem_of_getElem? (i := 573) (by decide +kernel)) (by decide +kernel)
theorem uw_574 : Cond.code yX7_undo cX7_undo 1 (Option.some ClassFile.FieldType.int) ∈ lw_good := mem_good (List.mem_of_getElem? (i := 574) (by decide +kernel)) (by decide +kernel)
theorem uw_575 : Cond.methodLink RX7 241 yX1_takeBack ∈ lw_good := mem_good (List.mem_of_getElem? (i := 575) (by decide +kernel)) (by decide +kernel)
theorem uw_576 : Cond.instanceMethod yX1_takeBack ∈ lw_good := mem_good (List.mem_of_getElem? (i := 576) (by decide +kernel)) (by decide +kernel)
theorem uw_577 : Cond.selects RX1 yX1_takeBack yX1_takeBack ∈ lw_good := mem_good (List.mem_of_getElem? (i := 577) (by decide +kernel)) (by decide +kernel)
theorem uw_578 : Cond.code yX1_takeBack cX1_takeBack 2 (Option.some ClassFile.FieldType.boolean) ∈ lw_good := mem_good (List.mem_of_getElem? (i := 578) (by decide +kernel)) (by decide +kernel)
theorem uw_579 : Cond.constant RX7 245 (-1000005) ∈ lw_good := mem_good (List.mem_of_getElem? (i := 579) (by decide +kernel)) (by decide +kernel)
theorem uw_580 : Cond.methodLink RL 96 yX7_save ∈ lw_good := mem_good (List.mem_of_getElem? (i := 580) (by decide +kernel)) (by decide +kernel)
theorem uw_581 : Cond.instanceMethod yX7_save ∈ lw_good := mem_good (List.mem_of_getElem? (i := 581) (by decide +kernel)) (by decide +kernel)
theorem uw_582 : Cond.selects RX7 yX7_save yX7_save ∈ lw_good := mem_good (List.mem_of_getElem? (i := 582) (by decide +kernel)) (by decide +kernel)
theorem uw_583 : Cond.code yX7_save cX7_save 2 (Option.some ClassFile.FieldType.int) ∈ lw_good := mem_good (List.mem_of_getElem? (i := 583) (by decide +kernel)) (by decide +kernel)
theorem uw_584 : Cond.methodLink RL 100 yX7_restore ∈ lw_good := mem_good (List.mem_of_getElem? (i := 584) (by decide +kernel)) (by decide +kernel)
theorem uw_585 : Cond.instanceMethod yX7_restore ∈ lw_good := mem_good (List.mem_of_getElem? (i := 585) (by decide +kernel)) (by decide +kernel)
theorem uw_586 : Cond.selects RX7 yX7_restore yX7_restore ∈ lw_good := mem_good (List.mem_of_getElem? (i := 586) (by decide +kernel)) (by decide +kernel)
theorem uw_587 : Cond.code yX7_restore cX7_restore 2 (Option.some ClassFile.FieldType.int) ∈ lw_good := mem_good (List.mem_of_getElem? (i := 587) (by decide +kernel)) (by decide +kernel)
theorem uw_588 : Cond.classLink RL 10 RX8 ∈ lw_good := mem_good (List.mem_of_getElem? (i := 588) (by decide +kernel)) (by decide +kernel)
theorem uw_589 : Cond.instantiable RX8 10 ∈ lw_good := mem_good (List.mem_of_getElem? (i := 589) (by decide +kernel)) (by decide +kernel)
theorem uw_590 : Cond.methodLink RL 12 yX8_init ∈ lw_good := mem_good (List.mem_of_getElem? (i := 590) (by decide +kernel)) (by decide +kernel)
theorem uw_591 : Cond.instanceMethod yX8_init ∈ lw_good := mem_good (List.mem_of_getElem? (i := 591) (by decide +kernel)) (by decide +kernel)
theorem uw_592 : Cond.code yX8_init cX8_init 2 (Option.none : Option ClassFile.FieldType) ∈ lw_good := mem_good (List.mem_of_getElem? (i := 592) (by decide +kernel)) (by decide +kernel)
theorem uw_593 : Cond.methodLink RX8 1 objectInit ∈ lw_good := mem_good (List.mem_of_getElem? (i := 593) (by decide +kernel)) (by decide +kernel)
theorem uw_594 : Cond.fieldLink RX8 7 "ToldDropsModel" "s" "[I" ∈ lw_good := mem_good (List.mem_of_getElem? (i := 594) (by decide +kernel)) (by decide +kernel)
theorem uw_595 : Cond.fieldLink RX8 13 "ToldDropsModel" "aside" "[I" ∈ lw_good := mem_good (List.mem_of_getElem? (i := 595) (by decide +kernel)) (by decide +kernel)
theorem uw_596 : Cond.fieldLink RX8 16 "ToldDropsModel" "before" "[I" ∈ lw_good := mem_good (List.mem_of_getElem? (i := 596) (by decide +kernel)) (by decide +kernel)
theorem uw_597 : Cond.fieldLink RX8 33 "ToldDropsModel" "known" "I" ∈ lw_good := mem_good (List.mem_of_getElem? (i := 597) (by decide +kernel)) (by decide +kernel)
theorem uw_598 : Cond.fieldLink RX8 19 "ToldDropsModel" "kept" "[I" ∈ lw_good := mem_good (List.mem_of_getElem? (i := 598) (by decide +kernel)) (by decide +kernel)
theorem uw_599 : Cond.fieldLink RX8 22 "ToldDropsModel" "isKept" "[Z" ∈ lw_good := mem_good (List.mem_of_getElem? (i := 599) (by decide +kernel)) (by decide +kernel)
theorem uw_600 : Cond.fieldLink RX8 26 "ToldDropsModel" "pad" "[I" ∈ lw_good := mem_good (List.mem_of_getElem? (i := 600) (by decide +kernel)) (by decide +kernel)
theorem uw_601 : Cond.fieldLink RX8 91 "ToldDropsModel" "length" "I" ∈ lw_good := mem_good (List.mem_of_getElem? (i := 601) (by decide +kernel)) (by decide +kernel)
theorem uw_602 : Cond.fieldLink RX8 88 "ToldDropsModel" "place" "I" ∈ lw_good := mem_good (List.mem_of_getElem? (i := 602) (by decide +kernel)) (by decide +kernel)
theorem uw_603 : Cond.fieldLink RX8 94 "ToldDropsModel" "isWrong" "Z" ∈ lw_good := mem_good (List.mem_of_getElem? (i := 603) (by decide +kernel)) (by decide +kernel)
theorem uw_625 : Cond.arrayClass ClassFile.FieldType.int ∈ lw_good := mem_good (List.mem_of_getElem? (i := 625) (by decide +kernel)) (by decide +kernel)
theorem uw_626 : Cond.methodLink RL 17 yX8_set ∈ lw_good := mem_good (List.mem_of_getElem? (i := 626) (by decide +kernel)) (by decide +kernel)
theorem uw_627 : Cond.instanceMethod yX8_set ∈ lw_good := mem_good (List.mem_of_getElem? (i := 627) (by decide +kernel)) (by decide +kernel)
theorem uw_628 : Cond.selects RX8 yX8_set yX8_set ∈ lw_good := mem_good (List.mem_of_getElem? (i := 628) (by decide +kernel)) (by decide +kernel)
theorem uw_629 : Cond.code yX8_set cX8_set 5 (Option.some ClassFile.FieldType.int) ∈ lw_good := mem_good (List.mem_of_getElem? (i := 629) (by decide +kernel)) (by decide +kernel)
theorem uw_630 : Cond.methodLink RX8 29 yX8_in ∈ lw_good := mem_good (List.mem_of_getElem? (i := 630) (by decide +kernel)) (by decide +kernel)
theorem uw_631 : Cond.static yX8_in ∈ lw_good := mem_good (List.mem_of_getElem? (i := 631) (by decide +kernel)) (by decide +kernel)
theorem uw_632 : Cond.code yX8_in cX8_in 3 (Option.some ClassFile.FieldType.boolean) ∈ lw_good := mem_good (List.mem_of_getElem? (i := 632) (by decide +kernel)) (by decide +kernel)
theorem uw_633 : Cond.constant RX8 70 (-1000002) ∈ lw_good := mem_good (List.mem_of_getElem? (i := 633) (by decide +kernel)) (by decide +kernel)
theorem uw_634 : Cond.methodLink RX8 71 yX8_save0 ∈ lw_good := mem_good (List.mem_of_getElem? (i := 634) (by decide +kernel)) (by decide +kernel)
theorem uw_636 : Cond.instanceMethod yX8_save0 ∈ lw_good := mem_good (List.mem_of_getElem? (i := 636) (by decide +kernel)) (by decide +kernel)
theorem uw_637 : Cond.code yX8_save0 cX8_save0 2 (Option.none : Option ClassFile.FieldType) ∈ lw_good := mem_good (List.mem_of_getElem? (i := 637) (by decide +kernel)) (by decide +kernel)
theorem uw_638 : Cond.methodLink RX8 49 yX8_runnerOf ∈ lw_good := mem_good (List.mem_of_getElem? (i := 638) (by decide +kernel)) (by decide +kernel)
theorem uw_640 : Cond.instanceMethod yX8_runnerOf ∈ lw_good := mem_good (List.mem_of_getElem? (i := 640) (by decide +kernel)) (by decide +kernel)
theorem uw_641 : Cond.code yX8_runnerOf cX8_runnerOf 3 (Option.some ClassFile.FieldType.int) ∈ lw_good := mem_good (List.mem_of_getElem? (i := 641) (by decide +kernel)) (by decide +kernel)
theorem uw_642 : Cond.methodLink RX8 41 yX8_add ∈ lw_good := mem_good (List.mem_of_getElem? (i := 642) (by decide +kernel)) (by decide +kernel)
theorem uw_644 : Cond.instanceMethod yX8_add ∈ lw_good := mem_good (List.mem_of_getElem? (i := 644) (by decide +kernel)) (by decide +kernel)
theorem uw_645 : Cond.code yX8_add cX8_add 4 (Option.none : Option ClassFile.FieldType) ∈ lw_good := mem_good (List.mem_of_getElem? (i := 645) (by decide +kernel)) (by decide +kernel)
theorem uw_646 : Cond.methodLink RX8 56 yX8_drop ∈ lw_good := mem_good (List.mem_of_getElem? (i := 646) (by decide +kernel)) (by decide +kernel)
theorem uw_648 : Cond.instanceMethod yX8_drop ∈ lw_good := mem_good (List.mem_of_getElem? (i := 648) (by decide +kernel)) (by decide +kernel)
theorem uw_649 : Cond.code yX8_drop cX8_drop 3 (Option.none : Option ClassFile.FieldType) ∈ lw_good := mem_good (List.mem_of_getElem? (i := 649) (by decide +kernel)) (by decide +kernel)
theorem uw_650 : Cond.methodLink RX8 37 yX8_of ∈ lw_good := mem_good (List.mem_of_getElem? (i := 650) (by decide +kernel)) (by decide +kernel)
theorem uw_652 : Cond.instanceMethod yX8_of ∈ lw_good := mem_good (List.mem_of_getElem? (i := 652) (by decide +kernel)) (by decide +kernel)
theorem uw_653 : Cond.code yX8_of cX8_of 3 (Option.some ClassFile.FieldType.int) ∈ lw_good := mem_good (List.mem_of_getElem? (i := 653) (by decide +kernel)) (by decide +kernel)
theorem uw_654 : Cond.methodLink RL 22 yX8_gauge ∈ lw_good := mem_good (List.mem_of_getElem? (i := 654) (by decide +kernel)) (by decide +kernel)
theorem uw_655 : Cond.instanceMethod yX8_gauge ∈ lw_good := mem_good (List.mem_of_getElem? (i := 655) (by decide +kernel)) (by decide +kernel)
theorem uw_656 : Cond.selects RX8 yX8_gauge yX8_gauge ∈ lw_good := mem_good (List.mem_of_getElem? (i := 656) (by decide +kernel)) (by decide +kernel)
theorem uw_657 : Cond.code yX8_gauge cX8_gauge 6 (Option.some ClassFile.FieldType.int) ∈ lw_good := mem_good (List.mem_of_getElem? (i := 657) (by decide +kernel)) (by decide +kernel)
theorem uw_658 : Cond.methodLink RX8 74 yX8_isGauge ∈ lw_good := mem_good (List.mem_of_getElem? (i := 658) (by decide +kernel)) (by decide +kernel)
theorem uw_659 : Cond.static yX8_isGauge ∈ lw_good := mem_good (List.mem_of_getElem? (i := 659) (by decide +kernel)) (by decide +kernel)
theorem uw_660 : Cond.code yX8_isGauge cX8_isGauge 1 (Option.some ClassFile.FieldType.boolean) ∈ lw_good := mem_good (List.mem_of_getElem? (i := 660) (by decide +kernel)) (by decide +kernel)
theorem uw_661 : Cond.constant RX8 78 (-1000001) ∈ lw_good := mem_good (List.mem_of_getElem? (i := 661) (by decide +kernel)) (by decide +kernel)
theorem uw_662 : Cond.methodLink RL 26 yX8_rain ∈ lw_good := mem_good (List.mem_of_getElem? (i := 662) (by decide +kernel)) (by decide +kernel)
theorem uw_663 : Cond.instanceMethod yX8_rain ∈ lw_good := mem_good (List.mem_of_getElem? (i := 663) (by decide +kernel)) (by decide +kernel)
theorem uw_664 : Cond.selects RX8 yX8_rain yX8_rain ∈ lw_good := mem_good (List.mem_of_getElem? (i := 664) (by decide +kernel)) (by decide +kernel)
theorem uw_665 : Cond.code yX8_rain cX8_rain 4 (Option.some ClassFile.FieldType.int) ∈ lw_good := mem_good (List.mem_of_getElem? (i := 665) (by decide +kernel)) (by decide +kernel)
theorem uw_666 : Cond.methodLink RX8 79 yX8_rainError ∈ lw_good := mem_good (List.mem_of_getElem? (i := 666) (by decide +kernel)) (by decide +kernel)
theorem uw_668 : Cond.instanceMethod yX8_rainError ∈ lw_good := mem_good (List.mem_of_getElem? (i := 668) (by decide +kernel)) (by decide +kernel)
theorem uw_669 : Cond.code yX8_rainError cX8_rainError 3 (Option.some ClassFile.FieldType.int) ∈ lw_good := mem_good (List.mem_of_getElem? (i := 669) (by decide +kernel)) (by decide +kernel)
theorem uw_670 : Cond.constant RX8 60 (-1000004) ∈ lw_good := mem_good (List.mem_of_getElem? (i := 670) (by decide +kernel)) (by decide +kernel)
theorem uw_671 : Cond.methodLink RX8 82 yX8_rains ∈ lw_good := mem_good (List.mem_of_getElem? (i := 671) (by decide +kernel)) (by decide +kernel)
theorem uw_673 : Cond.instanceMethod yX8_rains ∈ lw_good := mem_good (List.mem_of_getElem? (i := 673) (by decide +kernel)) (by decide +kernel)
theorem uw_674 : Cond.code yX8_rains cX8_rains 5 (Option.some ClassFile.FieldType.int) ∈ lw_good := mem_good (List.mem_of_getElem? (i := 674) (by decide +kernel)) (by decide +kernel)
theorem uw_675 : Cond.methodLink RX8 67 yX8_hour ∈ lw_good := mem_good (List.mem_of_getElem? (i := 675) (by decide +kernel)) (by decide +kernel)
theorem uw_677 : Cond.instanceMethod yX8_hour ∈ lw_good := mem_good (List.mem_of_getElem? (i := 677) (by decide +kernel)) (by decide +kernel)
theorem uw_678 : Cond.code yX8_hour cX8_hour 6 (Option.some ClassFile.FieldType.int) ∈ lw_good := mem_good (List.mem_of_getElem? (i := 678) (by decide +kernel)) (by decide +kernel)
theorem uw_679 : Cond.methodLink RX8 64 yX8_come ∈ lw_good := mem_good (List.mem_of_getElem? (i := 679) (by decide +kernel)) (by decide +kernel)
theorem uw_681 : Cond.instanceMethod yX8_come ∈ lw_good := mem_good (List.mem_of_getElem? (i := 681) (by decide +kernel)) (by decide +kernel)
theorem uw_682 : Cond.code yX8_come cX8_come 2 (Option.none : Option ClassFile.FieldType) ∈ lw_good := mem_good (List.mem_of_getElem? (i := 682) (by decide +kernel)) (by decide +kernel)
theorem uw_683 : Cond.methodLink RX8 52 yX8_tell ∈ lw_good := mem_good (List.mem_of_getElem? (i := 683) (by decide +kernel)) (by decide +kernel)
theorem uw_685 : Cond.instanceMethod yX8_tell ∈ lw_good := mem_good (List.mem_of_getElem? (i := 685) (by decide +kernel)) (by decide +kernel)
theorem uw_686 : Cond.code yX8_tell cX8_tell 8 (Option.none : Option ClassFile.FieldType) ∈ lw_good := mem_good (List.mem_of_getElem? (i := 686) (by decide +kernel)) (by decide +kernel)
theorem uw_687 : Cond.methodLink RX8 45 yX8_size ∈ lw_good := mem_good (List.mem_of_getElem? (i := 687) (by decide +kernel)) (by decide +kernel)
theorem uw_688 : Cond.static yX8_size ∈ lw_good := mem_good (List.mem_of_getElem? (i := 688) (by decide +kernel)) (by decide +kernel)
theorem uw_689 : Cond.code yX8_size cX8_size 1 (Option.some ClassFile.FieldType.int) ∈ lw_good := mem_good (List.mem_of_getElem? (i := 689) (by decide +kernel)) (by decide +kernel)
theorem uw_690 : Cond.methodLink RL 31 yX8_send ∈ lw_good := mem_good (List.mem_of_getElem? (i := 690) (by decide +kernel)) (by decide +kernel)
theorem uw_691 : Cond.instanceMethod yX8_send ∈ lw_good := mem_good (List.mem_of_getElem? (i := 691) (by decide +kernel)) (by decide +kernel)
theorem uw_692 : Cond.selects RX8 yX8_send yX8_send ∈ lw_good := mem_good (List.mem_of_getElem? (i := 692) (by decide +kernel)) (by decide +kernel)
theorem uw_693 : Cond.code yX8_send cX8_send 2 (Option.some ClassFile.FieldType.int) ∈ lw_good := mem_good (List.mem_of_getElem? (i := 693) (by decide +kernel)) (by decide +kernel)
theorem uw_694 : Cond.methodLink RX8 85 yX8_sends ∈ lw_good := mem_good (List.mem_of_getElem? (i := 694) (by decide +kernel)) (by decide +kernel)
theorem uw_696 : Cond.instanceMethod yX8_sends ∈ lw_good := mem_good (List.mem_of_getElem? (i := 696) (by decide +kernel)) (by decide +kernel)
theorem uw_697 : Cond.code yX8_sends cX8_sends 4 (Option.some ClassFile.FieldType.int) ∈ lw_good := mem_good (List.mem_of_getElem? (i := 697) (by decide +kernel)) (by decide +kernel)
theorem uw_698 : Cond.methodLink RX8 61 yX8_wheel ∈ lw_good := mem_good (List.mem_of_getElem? (i := 698) (by decide +kernel)) (by decide +kernel)
theorem uw_700 : Cond.instanceMethod yX8_wheel ∈ lw_good := mem_good (List.mem_of_getElem? (i := 700) (by decide +kernel)) (by decide +kernel)
theorem uw_701 : Cond.code yX8_wheel cX8_wheel 2 (Option.some ClassFile.FieldType.int) ∈ lw_good := mem_good (List.mem_of_getElem? (i := 701) (by decide +kernel)) (by decide +kernel)
theorem uw_702 : Cond.methodLink RL 35 yX8_lose ∈ lw_good := mem_good (List.mem_of_getElem? (i := 702) (by decide +kernel)) (by decide +kernel)
theorem uw_703 : Cond.instanceMethod yX8_lose ∈ lw_good := mem_good (List.mem_of_getElem? (i := 703) (by decide +kernel)) (by decide +kernel)
theorem uw_704 : Cond.selects RX8 yX8_lose yX8_lose ∈ lw_good := mem_good (List.mem_of_getElem? (i := 704) (by decide +kernel)) (by decide +kernel)
theorem uw_705 : Cond.code yX8_lose cX8_lose 3 (Option.some ClassFile.FieldType.int) ∈ lw_good := mem_good (List.mem_of_getElem? (i := 705) (by decide +kernel)) (by decide +kernel)
theorem uw_706 : Cond.methodLink RL 39 yX8_twice ∈ lw_good := mem_good (List.mem_of_getElem? (i := 706) (by decide +kernel)) (by decide +kernel)
theorem uw_707 : Cond.instanceMethod yX8_twice ∈ lw_good := mem_good (List.mem_of_getElem? (i := 707) (by decide +kernel)) (by decide +kernel)
theorem uw_708 : Cond.selects RX8 yX8_twice yX8_twice ∈ lw_good := mem_good (List.mem_of_getElem? (i := 708) (by decide +kernel)) (by decide +kernel)
theorem uw_709 : Cond.code yX8_twice cX8_twice 3 (Option.some ClassFile.FieldType.int) ∈ lw_good := mem_good (List.mem_of_getElem? (i := 709) (by decide +kernel)) (by decide +kernel)
theorem uw_710 : Cond.methodLink RL 44 yX8_run ∈ lw_good := mem_good (List.mem_of_getElem? (i := 710) (by decide +kernel)) (by decide +kernel)
theorem uw_711 : Cond.instanceMethod yX8_run ∈ lw_good := mem_good (List.mem_of_getElem? (i := 711) (by decide +kernel)) (by decide +kernel)
theorem uw_712 : Cond.selects RX8 yX8_run yX8_run ∈ lw_good := mem_good (List.mem_of_getElem? (i := 712) (by decide +kernel)) (by decide +kernel)
theorem uw_713 : Cond.code yX8_run cX8_run 3 (Option.some ClassFile.FieldType.int) ∈ lw_good := mem_good (List.mem_of_getElem? (i := 713) (by decide +kernel)) (by decide +kernel)
theorem uw_714 : Cond.methodLink RX8 108 yX8_go ∈ lw_good := mem_good (List.mem_of_getElem? (i := 714) (by decide +kernel)) (by decide +kernel)
theorem uw_716 : Cond.instanceMethod yX8_go ∈ lw_good := mem_good (List.mem_of_getElem? (i := 716) (by decide +kernel)) (by decide +kernel)
theorem uw_717 : Cond.code yX8_go cX8_go 5 (Option.some ClassFile.FieldType.int) ∈ lw_good := mem_good (List.mem_of_getElem? (i := 717) (by decide +kernel)) (by decide +kernel)
theorem uw_718 : Cond.methodLink RX8 104 yX8_order ∈ lw_good := mem_good (List.mem_of_getElem? (i := 718) (by decide +kernel)) (by decide +kernel)
theorem uw_720 : Cond.instanceMethod yX8_order ∈ lw_good := mem_good (List.mem_of_getElem? (i := 720) (by decide +kernel)) (by decide +kernel)
theorem uw_721 : Cond.code yX8_order cX8_order 6 (Option.some ClassFile.FieldType.int) ∈ lw_good := mem_good (List.mem_of_getElem? (i := 721) (by decide +kernel)) (by decide +kernel)
theorem uw_722 : Cond.methodLink RX8 101 yX8_number ∈ lw_good := mem_good (List.mem_of_getElem? (i := 722) (by decide +kernel)) (by decide +kernel)
theorem uw_724 : Cond.instanceMethod yX8_number ∈ lw_good := mem_good (List.mem_of_getElem? (i := 724) (by decide +kernel)) (by decide +kernel)
theorem uw_725 : Cond.code yX8_number cX8_number 4 (Option.some ClassFile.FieldType.int) ∈ lw_good := mem_good (List.mem_of_getElem? (i := 725) (by decide +kernel)) (by decide +kernel)
theorem uw_726 : Cond.methodLink RX8 98 yX8_sign ∈ lw_good := mem_good (List.mem_of_getElem? (i := 726) (by decide +kernel)) (by decide +kernel)
theorem uw_728 : Cond.instanceMethod yX8_sign ∈ lw_good := mem_good (List.mem_of_getElem? (i := 728) (by decide +kernel)) (by decide +kernel)
theorem uw_729 : Cond.code yX8_sign cX8_sign 4 (Option.some ClassFile.FieldType.int) ∈ lw_good := mem_good (List.mem_of_getElem? (i := 729) (by decide +kernel)) (by decide +kernel)
theorem uw_730 : Cond.constant RX8 111 (-1000003) ∈ lw_good := mem_good (List.mem_of_getElem? (i := 730) (by decide +kernel)) (by decide +kernel)
theorem uw_731 : Cond.methodLink RL 48 yX8_gaugeOf ∈ lw_good := mem_good (List.mem_of_getElem? (i := 731) (by decide +kernel)) (by decide +kernel)
theorem uw_732 : Cond.instanceMethod yX8_gaugeOf ∈ lw_good := mem_good (List.mem_of_getElem? (i := 732) (by decide +kernel)) (by decide +kernel)
theorem uw_733 : Cond.selects RX8 yX8_gaugeOf yX8_gaugeOf ∈ lw_good := mem_good (List.mem_of_getElem? (i := 733) (by decide +kernel)) (by decide +kernel)
theorem uw_734 : Cond.code yX8_gaugeOf cX8_gaugeOf 3 (Option.some ClassFile.FieldType.int) ∈ lw_good := mem_good (List.mem_of_getElem? (i := 734) (by decide +kernel)) (by decide +kernel)
theorem uw_735 : Cond.methodLink RL 52 yX8_ledger ∈ lw_good := mem_good (List.mem_of_getElem? (i := 735) (by decide +kernel)) (by decide +kernel)
theorem uw_736 : Cond.instanceMethod yX8_ledger ∈ lw_good := mem_good (List.mem_of_getElem? (i := 736) (by decide +kernel)) (by decide +kernel)
theorem uw_737 : Cond.selects RX8 yX8_ledger yX8_ledger ∈ lw_good := mem_good (List.mem_of_getElem? (i := 737) (by decide +kernel)) (by decide +kernel)
theorem uw_738 : Cond.code yX8_ledger cX8_ledger 3 (Option.some ClassFile.FieldType.int) ∈ lw_good := mem_good (List.mem_of_getElem? (i := 738) (by decide +kernel)) (by decide +kernel)
theorem uw_739 : Cond.methodLink RX8 112 yX8_gap ∈ lw_good := mem_good (List.mem_of_getElem? (i := 739) (by decide +kernel)) (by decide +kernel)
theorem uw_741 : Cond.instanceMethod yX8_gap ∈ lw_good := mem_good (List.mem_of_getElem? (i := 741) (by decide +kernel)) (by decide +kernel)
theorem uw_742 : Cond.code yX8_gap cX8_gap 2 (Option.some ClassFile.FieldType.int) ∈ lw_good := mem_good (List.mem_of_getElem? (i := 742) (by decide +kernel)) (by decide +kernel)
theorem uw_743 : Cond.methodLink RL 56 yX8_runner ∈ lw_good := mem_good (List.mem_of_getElem? (i := 743) (by decide +kernel)) (by decide +kernel)
theorem uw_744 : Cond.instanceMethod yX8_runner ∈ lw_good := mem_good (List.mem_of_getElem? (i := 744) (by decide +kernel)) (by decide +kernel)
theorem uw_745 : Cond.selects RX8 yX8_runner yX8_runner ∈ lw_good := mem_good (List.mem_of_getElem? (i := 745) (by decide +kernel)) (by decide +kernel)
theorem uw_746 : Cond.code yX8_runner cX8_runner 3 (Option.some ClassFile.FieldType.int) ∈ lw_good := mem_good (List.mem_of_getElem? (i := 746) (by decide +kernel)) (by decide +kernel)
theorem uw_747 : Cond.methodLink RL 60 yX8_count ∈ lw_good := mem_good (List.mem_of_getElem? (i := 747) (by decide +kernel)) (by decide +kernel)
theorem uw_748 : Cond.instanceMethod yX8_count ∈ lw_good := mem_good (List.mem_of_getElem? (i := 748) (by decide +kernel)) (by decide +kernel)
theorem uw_749 : Cond.selects RX8 yX8_count yX8_count ∈ lw_good := mem_good (List.mem_of_getElem? (i := 749) (by decide +kernel)) (by decide +kernel)
theorem uw_750 : Cond.code yX8_count cX8_count 2 (Option.some ClassFile.FieldType.int) ∈ lw_good := mem_good (List.mem_of_getElem? (i := 750) (by decide +kernel)) (by decide +kernel)
theorem uw_751 : Cond.methodLink RX8 115 yX8_all ∈ lw_good := mem_good (List.mem_of_getElem? (i := 751) (by decide +kernel)) (by decide +kernel)
theorem uw_753 : Cond.instanceMethod yX8_all ∈ lw_good := mem_good (List.mem_of_getElem? (i := 753) (by decide +kernel)) (by decide +kernel)
theorem uw_754 : Cond.code yX8_all cX8_all 4 (Option.some ClassFile.FieldType.int) ∈ lw_good := mem_good (List.mem_of_getElem? (i := 754) (by decide +kernel)) (by decide +kernel)
theorem uw_755 : Cond.methodLink RX8 118 yX8_gaps ∈ lw_good := mem_good (List.mem_of_getElem? (i := 755) (by decide +kernel)) (by decide +kernel)
theorem uw_757 : Cond.instanceMethod yX8_gaps ∈ lw_good := mem_good (List.mem_of_getElem? (i := 757) (by decide +kernel)) (by decide +kernel)
theorem uw_758 : Cond.code yX8_gaps cX8_gaps 3 (Option.some ClassFile.FieldType.int) ∈ lw_good := mem_good (List.mem_of_getElem? (i := 758) (by decide +kernel)) (by decide +kernel)
theorem uw_759 : Cond.methodLink RL 64 yX8_untilRound ∈ lw_good := mem_good (List.mem_of_getElem? (i := 759) (by decide +kernel)) (by decide +kernel)
theorem uw_760 : Cond.instanceMethod yX8_untilRound ∈ lw_good := mem_good (List.mem_of_getElem? (i := 760) (by decide +kernel)) (by decide +kernel)
theorem uw_761 : Cond.selects RX8 yX8_untilRound yX8_untilRound ∈ lw_good := mem_good (List.mem_of_getElem? (i := 761) (by decide +kernel)) (by decide +kernel)
theorem uw_762 : Cond.code yX8_untilRound cX8_untilRound 7 (Option.some ClassFile.FieldType.int) ∈ lw_good := mem_good (List.mem_of_getElem? (i := 762) (by decide +kernel)) (by decide +kernel)
theorem uw_763 : Cond.methodLink RX8 122 yX8_untold ∈ lw_good := mem_good (List.mem_of_getElem? (i := 763) (by decide +kernel)) (by decide +kernel)
theorem uw_765 : Cond.instanceMethod yX8_untold ∈ lw_good := mem_good (List.mem_of_getElem? (i := 765) (by decide +kernel)) (by decide +kernel)
theorem uw_766 : Cond.code yX8_untold cX8_untold 2 (Option.some ClassFile.FieldType.int) ∈ lw_good := mem_good (List.mem_of_getElem? (i := 766) (by decide +kernel)) (by decide +kernel)
theorem uw_767 : Cond.constant RX8 125 (-1000006) ∈ lw_good := mem_good (List.mem_of_getElem? (i := 767) (by decide +kernel)) (by decide +kernel)
theorem uw_768 : Cond.methodLink RL 68 yX8_ifSent ∈ lw_good := mem_good (List.mem_of_getElem? (i := 768) (by decide +kernel)) (by decide +kernel)
theorem uw_769 : Cond.instanceMethod yX8_ifSent ∈ lw_good := mem_good (List.mem_of_getElem? (i := 769) (by decide +kernel)) (by decide +kernel)
theorem uw_770 : Cond.selects RX8 yX8_ifSent yX8_ifSent ∈ lw_good := mem_good (List.mem_of_getElem? (i := 770) (by decide +kernel)) (by decide +kernel)
theorem uw_771 : Cond.code yX8_ifSent cX8_ifSent 3 (Option.some ClassFile.FieldType.int) ∈ lw_good := mem_good (List.mem_of_getElem? (i := 771) (by decide +kernel)) (by decide +kernel)
theorem uw_772 : Cond.methodLink RX8 126 yX8_putAside ∈ lw_good := mem_good (List.mem_of_getElem? (i := 772) (by decide +kernel)) (by decide +kernel)
theorem uw_774 : Cond.instanceMethod yX8_putAside ∈ lw_good := mem_good (List.mem_of_getElem? (i := 774) (by decide +kernel)) (by decide +kernel)
theorem uw_775 : Cond.code yX8_putAside cX8_putAside 2 (Option.none : Option ClassFile.FieldType) ∈ lw_good := mem_good (List.mem_of_getElem? (i := 775) (by decide +kernel)) (by decide +kernel)
theorem uw_776 : Cond.methodLink RX8 129 yX8_putBack ∈ lw_good := mem_good (List.mem_of_getElem? (i := 776) (by decide +kernel)) (by decide +kernel)
theorem uw_778 : Cond.instanceMethod yX8_putBack ∈ lw_good := mem_good (List.mem_of_getElem? (i := 778) (by decide +kernel)) (by decide +kernel)
theorem uw_779 : Cond.code yX8_putBack cX8_putBack 2 (Option.none : Option ClassFile.FieldType) ∈ lw_good := mem_good (List.mem_of_getElem? (i := 779) (by decide +kernel)) (by decide +kernel)
theorem uw_780 : Cond.methodLink RL 72 yX8_ifAllCome ∈ lw_good := mem_good (List.mem_of_getElem? (i := 780) (by decide +kernel)) (by decide +kernel)
theorem uw_781 : Cond.instanceMethod yX8_ifAllCome ∈ lw_good := mem_good (List.mem_of_getElem? (i := 781) (by decide +kernel)) (by decide +kernel)
theorem uw_782 : Cond.selects RX8 yX8_ifAllCome yX8_ifAllCome ∈ lw_good := mem_good (List.mem_of_getElem? (i := 782) (by decide +kernel)) (by decide +kernel)
theorem uw_783 : Cond.code yX8_ifAllCome cX8_ifAllCome 3 (Option.some ClassFile.FieldType.int) ∈ lw_good := mem_good (List.mem_of_getElem? (i := 783) (by decide +kernel)) (by decide +kernel)
theorem uw_784 : Cond.methodLink RL 76 yX8_mostUntold ∈ lw_good := mem_good (List.mem_of_getElem? (i := 784) (by decide +kernel)) (by decide +kernel)
theorem uw_785 : Cond.instanceMethod yX8_mostUntold ∈ lw_good := mem_good (List.mem_of_getElem? (i := 785) (by decide +kernel)) (by decide +kernel)
theorem uw_786 : Cond.selects RX8 yX8_mostUntold yX8_mostUntold ∈ lw_good := mem_good (List.mem_of_getElem? (i := 786) (by decide +kernel)) (by decide +kernel)
theorem uw_787 : Cond.code yX8_mostUntold cX8_mostUntold 3 (Option.some ClassFile.FieldType.int) ∈ lw_good := mem_good (List.mem_of_getElem? (i := 787) (by decide +kernel)) (by decide +kernel)
theorem uw_788 : Cond.methodLink RL 83 yX8_put ∈ lw_good := mem_good (List.mem_of_getElem? (i := 788) (by decide +kernel)) (by decide +kernel)
theorem uw_789 : Cond.instanceMethod yX8_put ∈ lw_good := mem_good (List.mem_of_getElem? (i := 789) (by decide +kernel)) (by decide +kernel)
theorem uw_790 : Cond.selects RX8 yX8_put yX8_put ∈ lw_good := mem_good (List.mem_of_getElem? (i := 790) (by decide +kernel)) (by decide +kernel)
theorem uw_791 : Cond.code yX8_put cX8_put 5 (Option.some ClassFile.FieldType.int) ∈ lw_good := mem_good (List.mem_of_getElem? (i := 791) (by decide +kernel)) (by decide +kernel)
theorem uw_792 : Cond.methodLink RX8 134 yX8_code ∈ lw_good := mem_good (List.mem_of_getElem? (i := 792) (by decide +kernel)) (by decide +kernel)
theorem uw_793 : Cond.static yX8_code ∈ lw_good := mem_good (List.mem_of_getElem? (i := 793) (by decide +kernel)) (by decide +kernel)
theorem uw_794 : Cond.code yX8_code cX8_code 3 (Option.some ClassFile.FieldType.int) ∈ lw_good := mem_good (List.mem_of_getElem? (i := 794) (by decide +kernel)) (by decide +kernel)
theorem uw_795 : Cond.constantLong RX8 132 (255) ∈ lw_good := mem_good (List.mem_of_getElem? (i := 795) (by decide +kernel)) (by decide +kernel)
theorem uw_796 : Cond.methodLink RL 87 yX8_wipe ∈ lw_good := mem_good (List.mem_of_getElem? (i := 796) (by decide +kernel)) (by decide +kernel)
theorem uw_797 : Cond.instanceMethod yX8_wipe ∈ lw_good := mem_good (List.mem_of_getElem? (i := 797) (by decide +kernel)) (by decide +kernel)
theorem uw_798 : Cond.selects RX8 yX8_wipe yX8_wipe ∈ lw_good := mem_good (List.mem_of_getElem? (i := 798) (by decide +kernel)) (by decide +kernel)
theorem uw_799 : Cond.code yX8_wipe cX8_wipe 2 (Option.some ClassFile.FieldType.int) ∈ lw_good := mem_good (List.mem_of_getElem? (i := 799) (by decide +kernel)) (by decide +kernel)
theorem uw_800 : Cond.methodLink RL 91 yX8_fault ∈ lw_good := mem_good (List.mem_of_getElem? (i := 800) (by decide +kernel)) (by decide +kernel)
theorem uw_801 : Cond.instanceMethod yX8_fault ∈ lw_good := mem_good (List.mem_of_getElem? (i := 801) (by decide +kernel)) (by decide +kernel)
theorem uw_802 : Cond.selects RX8 yX8_fault yX8_fault ∈ lw_good := mem_good (List.mem_of_getElem? (i := 802) (by decide +kernel)) (by decide +kernel)
theorem uw_803 : Cond.code yX8_fault cX8_fault 2 (Option.some ClassFile.FieldType.int) ∈ lw_good := mem_good (List.mem_of_getElem? (i := 803) (by decide +kernel)) (by decide +kernel)
theorem uw_804 : Cond.methodLink RL 95 yX8_undo ∈ lw_good := mem_good (List.mem_of_getElem? (i := 804) (by decide +kernel)) (by decide +kernel)
theorem uw_805 : Cond.instanceMethod yX8_undo ∈ lw_good := mem_good (List.mem_of_getElem? (i := 805) (by decide +kernel)) (by decide +kernel)
theorem uw_806 : Cond.selects RX8 yX8_undo yX8_undo ∈ lw_good := mem_good (List.mem_of_getElem? (i := 806) (by decide +kernel)) (by decide +kernel)
theorem uw_807 : Cond.code yX8_undo cX8_undo 2 (Option.some ClassFile.FieldType.int) ∈ lw_good := mem_good (List.mem_of_getElem? (i := 807) (by decide +kernel)) (by decide +kernel)
theorem uw_808 : Cond.constant RX8 138 (-1000005) ∈ lw_good := mem_good (List.mem_of_getElem? (i := 808) (by decide +kernel)) (by decide +kernel)
theorem uw_809 : Cond.methodLink RL 99 yX8_save ∈ lw_good := mem_good (List.mem_of_getElem? (i := 809) (by decide +kernel)) (by decide +kernel)
theorem uw_810 : Cond.instanceMethod yX8_save ∈ lw_good := mem_good (List.mem_of_getElem? (i := 810) (by decide +kernel)) (by decide +kernel)
theorem uw_811 : Cond.selects RX8 yX8_save yX8_save ∈ lw_good := mem_good (List.mem_of_getElem? (i := 811) (by decide +kernel)) (by decide +kernel)
theorem uw_812 : Cond.code yX8_save cX8_save 3 (Option.some ClassFile.FieldType.int) ∈ lw_good := mem_good (List.mem_of_getElem? (i := 812) (by decide +kernel)) (by decide +kernel)
theorem uw_813 : Cond.methodLink RL 103 yX8_restore ∈ lw_good := mem_good (List.mem_of_getElem? (i := 813) (by decide +kernel)) (by decide +kernel)
theorem uw_814 : Cond.instanceMethod yX8_restore ∈ lw_good := mem_good (List.mem_of_getElem? (i := 814) (by decide +kernel)) (by decide +kernel)
theorem uw_815 : Cond.selects RX8 yX8_restore yX8_restore ∈ lw_good := mem_good (List.mem_of_getElem? (i := 815) (by decide +kernel)) (by decide +kernel)
theorem uw_816 : Cond.code yX8_restore cX8_restore 3 (Option.some ClassFile.FieldType.int) ∈ lw_good := mem_good (List.mem_of_getElem? (i := 816) (by decide +kernel)) (by decide +kernel)
theorem uw_817 : Cond.constantLong RL 77 (4294967295) ∈ lw_good := mem_good (List.mem_of_getElem? (i := 817) (by decide +kernel)) (by decide +kernel)
theorem ui_X0 : ∀ w ∈ u_ws RX0 TX0 9, w ∈ lw_good := by
  intro w h
  exact mem_good ((by decide +kernel : ∀ w ∈ u_ws RX0 TX0 9, w ∈ lw_tbl) w h) ((by decide +kernel : ∀ w ∈ u_ws RX0 TX0 9, goodWord w = true) w h)
theorem ui_X1 : ∀ w ∈ u_ws RX1 TX1 2, w ∈ lw_good := by
  intro w h
  exact mem_good ((by decide +kernel : ∀ w ∈ u_ws RX1 TX1 2, w ∈ lw_tbl) w h) ((by decide +kernel : ∀ w ∈ u_ws RX1 TX1 2, goodWord w = true) w h)
theorem ui_X2 : ∀ w ∈ u_ws RX2 TX2 6, w ∈ lw_good := by
  intro w h
  exact mem_good ((by decide +kernel : ∀ w ∈ u_ws RX2 TX2 6, w ∈ lw_tbl) w h) ((by decide +kernel : ∀ w ∈ u_ws RX2 TX2 6, goodWord w = true) w h)
theorem ui_X3 : ∀ w ∈ u_ws RX3 TX3 2, w ∈ lw_good := by
  intro w h
  exact mem_good ((by decide +kernel : ∀ w ∈ u_ws RX3 TX3 2, w ∈ lw_tbl) w h) ((by decide +kernel : ∀ w ∈ u_ws RX3 TX3 2, goodWord w = true) w h)
theorem ui_X4 : ∀ w ∈ u_ws RX4 TX4 8, w ∈ lw_good := by
  intro w h
  exact mem_good ((by decide +kernel : ∀ w ∈ u_ws RX4 TX4 8, w ∈ lw_tbl) w h) ((by decide +kernel : ∀ w ∈ u_ws RX4 TX4 8, goodWord w = true) w h)
theorem ui_X5 : ∀ w ∈ u_ws RX5 TX5 5, w ∈ lw_good := by
  intro w h
  exact mem_good ((by decide +kernel : ∀ w ∈ u_ws RX5 TX5 5, w ∈ lw_tbl) w h) ((by decide +kernel : ∀ w ∈ u_ws RX5 TX5 5, goodWord w = true) w h)
theorem ui_X6 : ∀ w ∈ u_ws RX6 TX6 6, w ∈ lw_good := by
  intro w h
  exact mem_good ((by decide +kernel : ∀ w ∈ u_ws RX6 TX6 6, w ∈ lw_tbl) w h) ((by decide +kernel : ∀ w ∈ u_ws RX6 TX6 6, goodWord w = true) w h)
theorem ui_X7 : ∀ w ∈ u_ws RX7 TX7 7, w ∈ lw_good := by
  intro w h
  exact mem_good ((by decide +kernel : ∀ w ∈ u_ws RX7 TX7 7, w ∈ lw_tbl) w h) ((by decide +kernel : ∀ w ∈ u_ws RX7 TX7 7, goodWord w = true) w h)
theorem ui_X8 : ∀ w ∈ u_ws RX8 TX8 10, w ∈ lw_good := by
  intro w h
  exact mem_good ((by decide +kernel : ∀ w ∈ u_ws RX8 TX8 10, w ∈ lw_tbl) w h) ((by decide +kernel : ∀ w ∈ u_ws RX8 TX8 10, goodWord w = true) w h)
end
section
theorem dX0_init_0 : decode cX0_init 0 = .ok (.aload_n 0, 1) := by decide +kernel
theorem dX0_init_1 : decode cX0_init 1 = .ok (.invokespecial 1, 3) := by decide +kernel
theorem dX0_init_4 : decode cX0_init 4 = .ok (.aload_n 0, 1) := by decide +kernel
theorem dX0_init_5 : decode cX0_init 5 = .ok (.iconst 3, 1) := by decide +kernel
theorem dX0_init_6 : decode cX0_init 6 = .ok (.putfield 7, 3) := by decide +kernel
theorem dX0_init_9 : decode cX0_init 9 = .ok (.aload_n 0, 1) := by decide +kernel
theorem dX0_init_10 : decode cX0_init 10 = .ok (.bipush 10, 2) := by decide +kernel
theorem dX0_init_12 : decode cX0_init 12 = .ok (.putfield 13, 3) := by decide +kernel
theorem dX0_init_15 : decode cX0_init 15 = .ok (.aload_n 0, 1) := by decide +kernel
theorem dX0_init_16 : decode cX0_init 16 = .ok (.bipush 100, 2) := by decide +kernel
theorem dX0_init_18 : decode cX0_init 18 = .ok (.putfield 16, 3) := by decide +kernel
theorem dX0_init_21 : decode cX0_init 21 = .ok (.aload_n 0, 1) := by decide +kernel
theorem dX0_init_22 : decode cX0_init 22 = .ok (.new 19, 3) := by decide +kernel
theorem dX0_init_25 : decode cX0_init 25 = .ok (.dup, 1) := by decide +kernel
theorem dX0_init_26 : decode cX0_init 26 = .ok (.invokespecial 21, 3) := by decide +kernel
theorem dX0_init_29 : decode cX0_init 29 = .ok (.putfield 22, 3) := by decide +kernel
theorem dX0_init_32 : decode cX0_init 32 = .ok (.aload_n 0, 1) := by decide +kernel
theorem dX0_init_33 : decode cX0_init 33 = .ok (.iload_n 1, 1) := by decide +kernel
theorem dX0_init_34 : decode cX0_init 34 = .ok (.putfield 26, 3) := by decide +kernel
theorem dX0_init_37 : decode cX0_init 37 = .ok (.return_, 1) := by decide +kernel
theorem dX0_copyFrom_0 : decode cX0_copyFrom 0 = .ok (.aload_n 0, 1) := by decide +kernel
theorem dX0_copyFrom_1 : decode cX0_copyFrom 1 = .ok (.aload_n 1, 1) := by decide +kernel
theorem dX0_copyFrom_2 : decode cX0_copyFrom 2 = .ok (.getfield 7, 3) := by decide +kernel
theorem dX0_copyFrom_5 : decode cX0_copyFrom 5 = .ok (.putfield 7, 3) := by decide +kernel
theorem dX0_copyFrom_8 : decode cX0_copyFrom 8 = .ok (.aload_n 0, 1) := by decide +kernel
theorem dX0_copyFrom_9 : decode cX0_copyFrom 9 = .ok (.aload_n 1, 1) := by decide +kernel
theorem dX0_copyFrom_10 : decode cX0_copyFrom 10 = .ok (.getfield 13, 3) := by decide +kernel
theorem dX0_copyFrom_13 : decode cX0_copyFrom 13 = .ok (.putfield 13, 3) := by decide +kernel
theorem dX0_copyFrom_16 : decode cX0_copyFrom 16 = .ok (.aload_n 0, 1) := by decide +kernel
theorem dX0_copyFrom_17 : decode cX0_copyFrom 17 = .ok (.aload_n 1, 1) := by decide +kernel
theorem dX0_copyFrom_18 : decode cX0_copyFrom 18 = .ok (.getfield 16, 3) := by decide +kernel
theorem dX0_copyFrom_21 : decode cX0_copyFrom 21 = .ok (.putfield 16, 3) := by decide +kernel
theorem dX0_copyFrom_24 : decode cX0_copyFrom 24 = .ok (.aload_n 0, 1) := by decide +kernel
theorem dX0_copyFrom_25 : decode cX0_copyFrom 25 = .ok (.aload_n 1, 1) := by decide +kernel
theorem dX0_copyFrom_26 : decode cX0_copyFrom 26 = .ok (.getfield 26, 3) := by decide +kernel
theorem dX0_copyFrom_29 : decode cX0_copyFrom 29 = .ok (.putfield 26, 3) := by decide +kernel
theorem dX0_copyFrom_32 : decode cX0_copyFrom 32 = .ok (.aload_n 0, 1) := by decide +kernel
theorem dX0_copyFrom_33 : decode cX0_copyFrom 33 = .ok (.aload_n 1, 1) := by decide +kernel
theorem dX0_copyFrom_34 : decode cX0_copyFrom 34 = .ok (.getfield 29, 3) := by decide +kernel
theorem dX0_copyFrom_37 : decode cX0_copyFrom 37 = .ok (.putfield 29, 3) := by decide +kernel
theorem dX0_copyFrom_40 : decode cX0_copyFrom 40 = .ok (.aload_n 0, 1) := by decide +kernel
theorem dX0_copyFrom_41 : decode cX0_copyFrom 41 = .ok (.aload_n 1, 1) := by decide +kernel
theorem dX0_copyFrom_42 : decode cX0_copyFrom 42 = .ok (.getfield 32, 3) := by decide +kernel
theorem dX0_copyFrom_45 : decode cX0_copyFrom 45 = .ok (.putfield 32, 3) := by decide +kernel
theorem dX0_copyFrom_48 : decode cX0_copyFrom 48 = .ok (.aload_n 0, 1) := by decide +kernel
theorem dX0_copyFrom_49 : decode cX0_copyFrom 49 = .ok (.aload_n 1, 1) := by decide +kernel
theorem dX0_copyFrom_50 : decode cX0_copyFrom 50 = .ok (.getfield 35, 3) := by decide +kernel
theorem dX0_copyFrom_53 : decode cX0_copyFrom 53 = .ok (.putfield 35, 3) := by decide +kernel
theorem dX0_copyFrom_56 : decode cX0_copyFrom 56 = .ok (.aload_n 0, 1) := by decide +kernel
theorem dX0_copyFrom_57 : decode cX0_copyFrom 57 = .ok (.aload_n 1, 1) := by decide +kernel
theorem dX0_copyFrom_58 : decode cX0_copyFrom 58 = .ok (.getfield 38, 3) := by decide +kernel
theorem dX0_copyFrom_61 : decode cX0_copyFrom 61 = .ok (.putfield 38, 3) := by decide +kernel
theorem dX0_copyFrom_64 : decode cX0_copyFrom 64 = .ok (.aload_n 0, 1) := by decide +kernel
theorem dX0_copyFrom_65 : decode cX0_copyFrom 65 = .ok (.getfield 22, 3) := by decide +kernel
theorem dX0_copyFrom_68 : decode cX0_copyFrom 68 = .ok (.aload_n 1, 1) := by decide +kernel
theorem dX0_copyFrom_69 : decode cX0_copyFrom 69 = .ok (.getfield 22, 3) := by decide +kernel
theorem dX0_copyFrom_72 : decode cX0_copyFrom 72 = .ok (.invokevirtual 41, 3) := by decide +kernel
theorem dX0_copyFrom_75 : decode cX0_copyFrom 75 = .ok (.return_, 1) := by decide +kernel
theorem dX0_catchRain_0 : decode cX0_catchRain 0 = .ok (.iload_n 1, 1) := by decide +kernel
theorem dX0_catchRain_1 : decode cX0_catchRain 1 = .ok (.aload_n 0, 1) := by decide +kernel
theorem dX0_catchRain_2 : decode cX0_catchRain 2 = .ok (.getfield 7, 3) := by decide +kernel
theorem dX0_catchRain_5 : decode cX0_catchRain 5 = .ok (.imul, 1) := by decide +kernel
theorem dX0_catchRain_6 : decode cX0_catchRain 6 = .ok (.aload_n 0, 1) := by decide +kernel
theorem dX0_catchRain_7 : decode cX0_catchRain 7 = .ok (.getfield 16, 3) := by decide +kernel
theorem dX0_catchRain_10 : decode cX0_catchRain 10 = .ok (.imul, 1) := by decide +kernel
theorem dX0_catchRain_11 : decode cX0_catchRain 11 = .ok (.bipush 100, 2) := by decide +kernel
theorem dX0_catchRain_13 : decode cX0_catchRain 13 = .ok (.idiv, 1) := by decide +kernel
theorem dX0_catchRain_14 : decode cX0_catchRain 14 = .ok (.istore_n 2, 1) := by decide +kernel
theorem dX0_catchRain_15 : decode cX0_catchRain 15 = .ok (.aload_n 0, 1) := by decide +kernel
theorem dX0_catchRain_16 : decode cX0_catchRain 16 = .ok (.dup, 1) := by decide +kernel
theorem dX0_catchRain_17 : decode cX0_catchRain 17 = .ok (.getfield 35, 3) := by decide +kernel
theorem dX0_catchRain_20 : decode cX0_catchRain 20 = .ok (.iload_n 2, 1) := by decide +kernel
theorem dX0_catchRain_21 : decode cX0_catchRain 21 = .ok (.iadd, 1) := by decide +kernel
theorem dX0_catchRain_22 : decode cX0_catchRain 22 = .ok (.putfield 35, 3) := by decide +kernel
theorem dX0_catchRain_25 : decode cX0_catchRain 25 = .ok (.aload_n 0, 1) := by decide +kernel
theorem dX0_catchRain_26 : decode cX0_catchRain 26 = .ok (.dup, 1) := by decide +kernel
theorem dX0_catchRain_27 : decode cX0_catchRain 27 = .ok (.getfield 29, 3) := by decide +kernel
theorem dX0_catchRain_30 : decode cX0_catchRain 30 = .ok (.iload_n 2, 1) := by decide +kernel
theorem dX0_catchRain_31 : decode cX0_catchRain 31 = .ok (.iadd, 1) := by decide +kernel
theorem dX0_catchRain_32 : decode cX0_catchRain 32 = .ok (.putfield 29, 3) := by decide +kernel
theorem dX0_catchRain_35 : decode cX0_catchRain 35 = .ok (.aload_n 0, 1) := by decide +kernel
theorem dX0_catchRain_36 : decode cX0_catchRain 36 = .ok (.getfield 13, 3) := by decide +kernel
theorem dX0_catchRain_39 : decode cX0_catchRain 39 = .ok (.ifCond .le 15, 3) := by decide +kernel
theorem dX0_catchRain_42 : decode cX0_catchRain 42 = .ok (.aload_n 0, 1) := by decide +kernel
theorem dX0_catchRain_43 : decode cX0_catchRain 43 = .ok (.getfield 29, 3) := by decide +kernel
theorem dX0_catchRain_46 : decode cX0_catchRain 46 = .ok (.aload_n 0, 1) := by decide +kernel
theorem dX0_catchRain_47 : decode cX0_catchRain 47 = .ok (.getfield 13, 3) := by decide +kernel
theorem dX0_catchRain_50 : decode cX0_catchRain 50 = .ok (.idiv, 1) := by decide +kernel
theorem dX0_catchRain_51 : decode cX0_catchRain 51 = .ok (.goto 4, 3) := by decide +kernel
theorem dX0_catchRain_54 : decode cX0_catchRain 54 = .ok (.iconst 0, 1) := by decide +kernel
theorem dX0_catchRain_55 : decode cX0_catchRain 55 = .ok (.istore_n 3, 1) := by decide +kernel
theorem dX0_catchRain_56 : decode cX0_catchRain 56 = .ok (.aload_n 0, 1) := by decide +kernel
theorem dX0_catchRain_57 : decode cX0_catchRain 57 = .ok (.dup, 1) := by decide +kernel
theorem dX0_catchRain_58 : decode cX0_catchRain 58 = .ok (.getfield 29, 3) := by decide +kernel
theorem dX0_catchRain_61 : decode cX0_catchRain 61 = .ok (.iload_n 3, 1) := by decide +kernel
theorem dX0_catchRain_62 : decode cX0_catchRain 62 = .ok (.aload_n 0, 1) := by decide +kernel
theorem dX0_catchRain_63 : decode cX0_catchRain 63 = .ok (.getfield 13, 3) := by decide +kernel
theorem dX0_catchRain_66 : decode cX0_catchRain 66 = .ok (.imul, 1) := by decide +kernel
theorem dX0_catchRain_67 : decode cX0_catchRain 67 = .ok (.isub, 1) := by decide +kernel
theorem dX0_catchRain_68 : decode cX0_catchRain 68 = .ok (.putfield 29, 3) := by decide +kernel
theorem dX0_catchRain_71 : decode cX0_catchRain 71 = .ok (.aload_n 0, 1) := by decide +kernel
theorem dX0_catchRain_72 : decode cX0_catchRain 72 = .ok (.dup, 1) := by decide +kernel
theorem dX0_catchRain_73 : decode cX0_catchRain 73 = .ok (.getfield 38, 3) := by decide +kernel
theorem dX0_catchRain_76 : decode cX0_catchRain 76 = .ok (.iload_n 3, 1) := by decide +kernel
theorem dX0_catchRain_77 : decode cX0_catchRain 77 = .ok (.aload_n 0, 1) := by decide +kernel
theorem dX0_catchRain_78 : decode cX0_catchRain 78 = .ok (.getfield 13, 3) := by decide +kernel
theorem dX0_catchRain_81 : decode cX0_catchRain 81 = .ok (.imul, 1) := by decide +kernel
theorem dX0_catchRain_82 : decode cX0_catchRain 82 = .ok (.iadd, 1) := by decide +kernel
theorem dX0_catchRain_83 : decode cX0_catchRain 83 = .ok (.putfield 38, 3) := by decide +kernel
theorem dX0_catchRain_86 : decode cX0_catchRain 86 = .ok (.aload_n 0, 1) := by decide +kernel
theorem dX0_catchRain_87 : decode cX0_catchRain 87 = .ok (.dup, 1) := by decide +kernel
theorem dX0_catchRain_88 : decode cX0_catchRain 88 = .ok (.getfield 32, 3) := by decide +kernel
theorem dX0_catchRain_91 : decode cX0_catchRain 91 = .ok (.iload_n 3, 1) := by decide +kernel
theorem dX0_catchRain_92 : decode cX0_catchRain 92 = .ok (.iadd, 1) := by decide +kernel
theorem dX0_catchRain_93 : decode cX0_catchRain 93 = .ok (.putfield 32, 3) := by decide +kernel
theorem dX0_catchRain_96 : decode cX0_catchRain 96 = .ok (.iload_n 3, 1) := by decide +kernel
theorem dX0_catchRain_97 : decode cX0_catchRain 97 = .ok (.ireturn, 1) := by decide +kernel
theorem dX0_gap_0 : decode cX0_gap 0 = .ok (.aload_n 0, 1) := by decide +kernel
theorem dX0_gap_1 : decode cX0_gap 1 = .ok (.getfield 32, 3) := by decide +kernel
theorem dX0_gap_4 : decode cX0_gap 4 = .ok (.aload_n 0, 1) := by decide +kernel
theorem dX0_gap_5 : decode cX0_gap 5 = .ok (.getfield 22, 3) := by decide +kernel
theorem dX0_gap_8 : decode cX0_gap 8 = .ok (.getfield 45, 3) := by decide +kernel
theorem dX0_gap_11 : decode cX0_gap 11 = .ok (.isub, 1) := by decide +kernel
theorem dX0_gap_12 : decode cX0_gap 12 = .ok (.ireturn, 1) := by decide +kernel
theorem dX0_untold_0 : decode cX0_untold 0 = .ok (.aload_n 0, 1) := by decide +kernel
theorem dX0_untold_1 : decode cX0_untold 1 = .ok (.getfield 32, 3) := by decide +kernel
theorem dX0_untold_4 : decode cX0_untold 4 = .ok (.aload_n 0, 1) := by decide +kernel
theorem dX0_untold_5 : decode cX0_untold 5 = .ok (.getfield 22, 3) := by decide +kernel
theorem dX0_untold_8 : decode cX0_untold 8 = .ok (.getfield 48, 3) := by decide +kernel
theorem dX0_untold_11 : decode cX0_untold 11 = .ok (.isub, 1) := by decide +kernel
theorem dX0_untold_12 : decode cX0_untold 12 = .ok (.ireturn, 1) := by decide +kernel
theorem dX1_init_0 : decode cX1_init 0 = .ok (.aload_n 0, 1) := by decide +kernel
theorem dX1_init_1 : decode cX1_init 1 = .ok (.invokespecial 3, 3) := by decide +kernel
theorem dX1_init_4 : decode cX1_init 4 = .ok (.aload_n 0, 1) := by decide +kernel
theorem dX1_init_5 : decode cX1_init 5 = .ok (.bipush 6, 2) := by decide +kernel
theorem dX1_init_7 : decode cX1_init 7 = .ok (.anewarray 9, 3) := by decide +kernel
theorem dX1_init_10 : decode cX1_init 10 = .ok (.putfield 11, 3) := by decide +kernel
theorem dX1_init_13 : decode cX1_init 13 = .ok (.iconst 0, 1) := by decide +kernel
theorem dX1_init_14 : decode cX1_init 14 = .ok (.istore_n 1, 1) := by decide +kernel
theorem dX1_init_15 : decode cX1_init 15 = .ok (.iload_n 1, 1) := by decide +kernel
theorem dX1_init_16 : decode cX1_init 16 = .ok (.aload_n 0, 1) := by decide +kernel
theorem dX1_init_17 : decode cX1_init 17 = .ok (.getfield 11, 3) := by decide +kernel
theorem dX1_init_20 : decode cX1_init 20 = .ok (.arraylength, 1) := by decide +kernel
theorem dX1_init_21 : decode cX1_init 21 = .ok (.if_icmp .ge 22, 3) := by decide +kernel
theorem dX1_init_24 : decode cX1_init 24 = .ok (.aload_n 0, 1) := by decide +kernel
theorem dX1_init_25 : decode cX1_init 25 = .ok (.getfield 11, 3) := by decide +kernel
theorem dX1_init_28 : decode cX1_init 28 = .ok (.iload_n 1, 1) := by decide +kernel
theorem dX1_init_29 : decode cX1_init 29 = .ok (.new 9, 3) := by decide +kernel
theorem dX1_init_32 : decode cX1_init 32 = .ok (.dup, 1) := by decide +kernel
theorem dX1_init_33 : decode cX1_init 33 = .ok (.invokespecial 17, 3) := by decide +kernel
theorem dX1_init_36 : decode cX1_init 36 = .ok (.aastore, 1) := by decide +kernel
theorem dX1_init_37 : decode cX1_init 37 = .ok (.iinc 1 1, 3) := by decide +kernel
theorem dX1_init_40 : decode cX1_init 40 = .ok (.goto (-25), 3) := by decide +kernel
theorem dX1_init_43 : decode cX1_init 43 = .ok (.return_, 1) := by decide +kernel
theorem dX1_record_0 : decode cX1_record 0 = .ok (.aload_n 0, 1) := by decide +kernel
theorem dX1_record_1 : decode cX1_record 1 = .ok (.getfield 18, 3) := by decide +kernel
theorem dX1_record_4 : decode cX1_record 4 = .ok (.aload_n 0, 1) := by decide +kernel
theorem dX1_record_5 : decode cX1_record 5 = .ok (.getfield 11, 3) := by decide +kernel
theorem dX1_record_8 : decode cX1_record 8 = .ok (.arraylength, 1) := by decide +kernel
theorem dX1_record_9 : decode cX1_record 9 = .ok (.if_icmp .lt 7, 3) := by decide +kernel
theorem dX1_record_12 : decode cX1_record 12 = .ok (.aload_n 0, 1) := by decide +kernel
theorem dX1_record_13 : decode cX1_record 13 = .ok (.invokevirtual 22, 3) := by decide +kernel
theorem dX1_record_16 : decode cX1_record 16 = .ok (.aload_n 0, 1) := by decide +kernel
theorem dX1_record_17 : decode cX1_record 17 = .ok (.getfield 18, 3) := by decide +kernel
theorem dX1_record_20 : decode cX1_record 20 = .ok (.ifCond .lt 38, 3) := by decide +kernel
theorem dX1_record_23 : decode cX1_record 23 = .ok (.aload_n 0, 1) := by decide +kernel
theorem dX1_record_24 : decode cX1_record 24 = .ok (.getfield 18, 3) := by decide +kernel
theorem dX1_record_27 : decode cX1_record 27 = .ok (.aload_n 0, 1) := by decide +kernel
theorem dX1_record_28 : decode cX1_record 28 = .ok (.getfield 11, 3) := by decide +kernel
theorem dX1_record_31 : decode cX1_record 31 = .ok (.arraylength, 1) := by decide +kernel
theorem dX1_record_32 : decode cX1_record 32 = .ok (.if_icmp .ge 26, 3) := by decide +kernel
theorem dX1_record_35 : decode cX1_record 35 = .ok (.aload_n 0, 1) := by decide +kernel
theorem dX1_record_36 : decode cX1_record 36 = .ok (.getfield 11, 3) := by decide +kernel
theorem dX1_record_39 : decode cX1_record 39 = .ok (.aload_n 0, 1) := by decide +kernel
theorem dX1_record_40 : decode cX1_record 40 = .ok (.getfield 18, 3) := by decide +kernel
theorem dX1_record_43 : decode cX1_record 43 = .ok (.aaload, 1) := by decide +kernel
theorem dX1_record_44 : decode cX1_record 44 = .ok (.aload_n 1, 1) := by decide +kernel
theorem dX1_record_45 : decode cX1_record 45 = .ok (.invokevirtual 25, 3) := by decide +kernel
theorem dX1_record_48 : decode cX1_record 48 = .ok (.aload_n 0, 1) := by decide +kernel
theorem dX1_record_49 : decode cX1_record 49 = .ok (.dup, 1) := by decide +kernel
theorem dX1_record_50 : decode cX1_record 50 = .ok (.getfield 18, 3) := by decide +kernel
theorem dX1_record_53 : decode cX1_record 53 = .ok (.iconst 1, 1) := by decide +kernel
theorem dX1_record_54 : decode cX1_record 54 = .ok (.iadd, 1) := by decide +kernel
theorem dX1_record_55 : decode cX1_record 55 = .ok (.putfield 18, 3) := by decide +kernel
theorem dX1_record_58 : decode cX1_record 58 = .ok (.return_, 1) := by decide +kernel
theorem dX1_takeBack_0 : decode cX1_takeBack 0 = .ok (.aload_n 0, 1) := by decide +kernel
theorem dX1_takeBack_1 : decode cX1_takeBack 1 = .ok (.getfield 18, 3) := by decide +kernel
theorem dX1_takeBack_4 : decode cX1_takeBack 4 = .ok (.ifCond .le 15, 3) := by decide +kernel
theorem dX1_takeBack_7 : decode cX1_takeBack 7 = .ok (.aload_n 0, 1) := by decide +kernel
theorem dX1_takeBack_8 : decode cX1_takeBack 8 = .ok (.getfield 18, 3) := by decide +kernel
theorem dX1_takeBack_11 : decode cX1_takeBack 11 = .ok (.aload_n 0, 1) := by decide +kernel
theorem dX1_takeBack_12 : decode cX1_takeBack 12 = .ok (.getfield 11, 3) := by decide +kernel
theorem dX1_takeBack_15 : decode cX1_takeBack 15 = .ok (.arraylength, 1) := by decide +kernel
theorem dX1_takeBack_16 : decode cX1_takeBack 16 = .ok (.if_icmp .le 5, 3) := by decide +kernel
theorem dX1_takeBack_19 : decode cX1_takeBack 19 = .ok (.iconst 0, 1) := by decide +kernel
theorem dX1_takeBack_20 : decode cX1_takeBack 20 = .ok (.ireturn, 1) := by decide +kernel
theorem dX1_takeBack_21 : decode cX1_takeBack 21 = .ok (.aload_n 0, 1) := by decide +kernel
theorem dX1_takeBack_22 : decode cX1_takeBack 22 = .ok (.dup, 1) := by decide +kernel
theorem dX1_takeBack_23 : decode cX1_takeBack 23 = .ok (.getfield 18, 3) := by decide +kernel
theorem dX1_takeBack_26 : decode cX1_takeBack 26 = .ok (.iconst 1, 1) := by decide +kernel
theorem dX1_takeBack_27 : decode cX1_takeBack 27 = .ok (.isub, 1) := by decide +kernel
theorem dX1_takeBack_28 : decode cX1_takeBack 28 = .ok (.putfield 18, 3) := by decide +kernel
theorem dX1_takeBack_31 : decode cX1_takeBack 31 = .ok (.aload_n 1, 1) := by decide +kernel
theorem dX1_takeBack_32 : decode cX1_takeBack 32 = .ok (.aload_n 0, 1) := by decide +kernel
theorem dX1_takeBack_33 : decode cX1_takeBack 33 = .ok (.getfield 11, 3) := by decide +kernel
theorem dX1_takeBack_36 : decode cX1_takeBack 36 = .ok (.aload_n 0, 1) := by decide +kernel
theorem dX1_takeBack_37 : decode cX1_takeBack 37 = .ok (.getfield 18, 3) := by decide +kernel
theorem dX1_takeBack_40 : decode cX1_takeBack 40 = .ok (.aaload, 1) := by decide +kernel
theorem dX1_takeBack_41 : decode cX1_takeBack 41 = .ok (.invokevirtual 25, 3) := by decide +kernel
theorem dX1_takeBack_44 : decode cX1_takeBack 44 = .ok (.iconst 1, 1) := by decide +kernel
theorem dX1_takeBack_45 : decode cX1_takeBack 45 = .ok (.ireturn, 1) := by decide +kernel
theorem dX1_dropOldest_0 : decode cX1_dropOldest 0 = .ok (.aload_n 0, 1) := by decide +kernel
theorem dX1_dropOldest_1 : decode cX1_dropOldest 1 = .ok (.getfield 11, 3) := by decide +kernel
theorem dX1_dropOldest_4 : decode cX1_dropOldest 4 = .ok (.arraylength, 1) := by decide +kernel
theorem dX1_dropOldest_5 : decode cX1_dropOldest 5 = .ok (.iconst 1, 1) := by decide +kernel
theorem dX1_dropOldest_6 : decode cX1_dropOldest 6 = .ok (.isub, 1) := by decide +kernel
theorem dX1_dropOldest_7 : decode cX1_dropOldest 7 = .ok (.istore_n 1, 1) := by decide +kernel
theorem dX1_dropOldest_8 : decode cX1_dropOldest 8 = .ok (.aload_n 0, 1) := by decide +kernel
theorem dX1_dropOldest_9 : decode cX1_dropOldest 9 = .ok (.getfield 11, 3) := by decide +kernel
theorem dX1_dropOldest_12 : decode cX1_dropOldest 12 = .ok (.iconst 0, 1) := by decide +kernel
theorem dX1_dropOldest_13 : decode cX1_dropOldest 13 = .ok (.aaload, 1) := by decide +kernel
theorem dX1_dropOldest_14 : decode cX1_dropOldest 14 = .ok (.astore_n 2, 1) := by decide +kernel
theorem dX1_dropOldest_15 : decode cX1_dropOldest 15 = .ok (.iconst 0, 1) := by decide +kernel
theorem dX1_dropOldest_16 : decode cX1_dropOldest 16 = .ok (.istore_n 3, 1) := by decide +kernel
theorem dX1_dropOldest_17 : decode cX1_dropOldest 17 = .ok (.iload_n 3, 1) := by decide +kernel
theorem dX1_dropOldest_18 : decode cX1_dropOldest 18 = .ok (.iload_n 1, 1) := by decide +kernel
theorem dX1_dropOldest_19 : decode cX1_dropOldest 19 = .ok (.if_icmp .ge 23, 3) := by decide +kernel
theorem dX1_dropOldest_22 : decode cX1_dropOldest 22 = .ok (.aload_n 0, 1) := by decide +kernel
theorem dX1_dropOldest_23 : decode cX1_dropOldest 23 = .ok (.getfield 11, 3) := by decide +kernel
theorem dX1_dropOldest_26 : decode cX1_dropOldest 26 = .ok (.iload_n 3, 1) := by decide +kernel
theorem dX1_dropOldest_27 : decode cX1_dropOldest 27 = .ok (.aload_n 0, 1) := by decide +kernel
theorem dX1_dropOldest_28 : decode cX1_dropOldest 28 = .ok (.getfield 11, 3) := by decide +kernel
theorem dX1_dropOldest_31 : decode cX1_dropOldest 31 = .ok (.iload_n 3, 1) := by decide +kernel
theorem dX1_dropOldest_32 : decode cX1_dropOldest 32 = .ok (.iconst 1, 1) := by decide +kernel
theorem dX1_dropOldest_33 : decode cX1_dropOldest 33 = .ok (.iadd, 1) := by decide +kernel
theorem dX1_dropOldest_34 : decode cX1_dropOldest 34 = .ok (.aaload, 1) := by decide +kernel
theorem dX1_dropOldest_35 : decode cX1_dropOldest 35 = .ok (.aastore, 1) := by decide +kernel
theorem dX1_dropOldest_36 : decode cX1_dropOldest 36 = .ok (.iinc 3 1, 3) := by decide +kernel
theorem dX1_dropOldest_39 : decode cX1_dropOldest 39 = .ok (.goto (-22), 3) := by decide +kernel
theorem dX1_dropOldest_42 : decode cX1_dropOldest 42 = .ok (.aload_n 0, 1) := by decide +kernel
theorem dX1_dropOldest_43 : decode cX1_dropOldest 43 = .ok (.getfield 11, 3) := by decide +kernel
theorem dX1_dropOldest_46 : decode cX1_dropOldest 46 = .ok (.iload_n 1, 1) := by decide +kernel
theorem dX1_dropOldest_47 : decode cX1_dropOldest 47 = .ok (.aload_n 2, 1) := by decide +kernel
theorem dX1_dropOldest_48 : decode cX1_dropOldest 48 = .ok (.aastore, 1) := by decide +kernel
theorem dX1_dropOldest_49 : decode cX1_dropOldest 49 = .ok (.aload_n 0, 1) := by decide +kernel
theorem dX1_dropOldest_50 : decode cX1_dropOldest 50 = .ok (.iload_n 1, 1) := by decide +kernel
theorem dX1_dropOldest_51 : decode cX1_dropOldest 51 = .ok (.putfield 18, 3) := by decide +kernel
theorem dX1_dropOldest_54 : decode cX1_dropOldest 54 = .ok (.return_, 1) := by decide +kernel
theorem dX2_init_0 : decode cX2_init 0 = .ok (.aload_n 0, 1) := by decide +kernel
theorem dX2_init_1 : decode cX2_init 1 = .ok (.invokespecial 3, 3) := by decide +kernel
theorem dX2_init_4 : decode cX2_init 4 = .ok (.aload_n 0, 1) := by decide +kernel
theorem dX2_init_5 : decode cX2_init 5 = .ok (.aload_n 1, 1) := by decide +kernel
theorem dX2_init_6 : decode cX2_init 6 = .ok (.putfield 9, 3) := by decide +kernel
theorem dX2_init_9 : decode cX2_init 9 = .ok (.return_, 1) := by decide +kernel
theorem dX2_goToStart_0 : decode cX2_goToStart 0 = .ok (.aload_n 0, 1) := by decide +kernel
theorem dX2_goToStart_1 : decode cX2_goToStart 1 = .ok (.iconst 0, 1) := by decide +kernel
theorem dX2_goToStart_2 : decode cX2_goToStart 2 = .ok (.putfield 15, 3) := by decide +kernel
theorem dX2_goToStart_5 : decode cX2_goToStart 5 = .ok (.return_, 1) := by decide +kernel
theorem dX2_findFault_0 : decode cX2_findFault 0 = .ok (.aload_n 0, 1) := by decide +kernel
theorem dX2_findFault_1 : decode cX2_findFault 1 = .ok (.invokevirtual 19, 3) := by decide +kernel
theorem dX2_findFault_4 : decode cX2_findFault 4 = .ok (.iconst 0, 1) := by decide +kernel
theorem dX2_findFault_5 : decode cX2_findFault 5 = .ok (.istore_n 1, 1) := by decide +kernel
theorem dX2_findFault_6 : decode cX2_findFault 6 = .ok (.iload_n 1, 1) := by decide +kernel
theorem dX2_findFault_7 : decode cX2_findFault 7 = .ok (.bipush 60, 2) := by decide +kernel
theorem dX2_findFault_9 : decode cX2_findFault 9 = .ok (.if_icmp .ge 58, 3) := by decide +kernel
theorem dX2_findFault_12 : decode cX2_findFault 12 = .ok (.aload_n 0, 1) := by decide +kernel
theorem dX2_findFault_13 : decode cX2_findFault 13 = .ok (.invokevirtual 22, 3) := by decide +kernel
theorem dX2_findFault_16 : decode cX2_findFault 16 = .ok (.ifCond .eq 51, 3) := by decide +kernel
theorem dX2_findFault_19 : decode cX2_findFault 19 = .ok (.aload_n 0, 1) := by decide +kernel
theorem dX2_findFault_20 : decode cX2_findFault 20 = .ok (.getfield 15, 3) := by decide +kernel
theorem dX2_findFault_23 : decode cX2_findFault 23 = .ok (.aload_n 0, 1) := by decide +kernel
theorem dX2_findFault_24 : decode cX2_findFault 24 = .ok (.getfield 9, 3) := by decide +kernel
theorem dX2_findFault_27 : decode cX2_findFault 27 = .ok (.getfield 26, 3) := by decide +kernel
theorem dX2_findFault_30 : decode cX2_findFault 30 = .ok (.if_icmp .lt 6, 3) := by decide +kernel
theorem dX2_findFault_33 : decode cX2_findFault 33 = .ok (.ldc 31, 2) := by decide +kernel
theorem dX2_findFault_35 : decode cX2_findFault 35 = .ok (.ireturn, 1) := by decide +kernel
theorem dX2_findFault_36 : decode cX2_findFault 36 = .ok (.aload_n 0, 1) := by decide +kernel
theorem dX2_findFault_37 : decode cX2_findFault 37 = .ok (.getfield 9, 3) := by decide +kernel
theorem dX2_findFault_40 : decode cX2_findFault 40 = .ok (.aload_n 0, 1) := by decide +kernel
theorem dX2_findFault_41 : decode cX2_findFault 41 = .ok (.getfield 15, 3) := by decide +kernel
theorem dX2_findFault_44 : decode cX2_findFault 44 = .ok (.invokevirtual 32, 3) := by decide +kernel
theorem dX2_findFault_47 : decode cX2_findFault 47 = .ok (.bipush 59, 2) := by decide +kernel
theorem dX2_findFault_49 : decode cX2_findFault 49 = .ok (.if_icmp .eq 8, 3) := by decide +kernel
theorem dX2_findFault_52 : decode cX2_findFault 52 = .ok (.aload_n 0, 1) := by decide +kernel
theorem dX2_findFault_53 : decode cX2_findFault 53 = .ok (.getfield 15, 3) := by decide +kernel
theorem dX2_findFault_56 : decode cX2_findFault 56 = .ok (.ireturn, 1) := by decide +kernel
theorem dX2_findFault_57 : decode cX2_findFault 57 = .ok (.aload_n 0, 1) := by decide +kernel
theorem dX2_findFault_58 : decode cX2_findFault 58 = .ok (.invokevirtual 36, 3) := by decide +kernel
theorem dX2_findFault_61 : decode cX2_findFault 61 = .ok (.iinc 1 1, 3) := by decide +kernel
theorem dX2_findFault_64 : decode cX2_findFault 64 = .ok (.goto (-58), 3) := by decide +kernel
theorem dX2_findFault_67 : decode cX2_findFault 67 = .ok (.aload_n 0, 1) := by decide +kernel
theorem dX2_findFault_68 : decode cX2_findFault 68 = .ok (.getfield 15, 3) := by decide +kernel
theorem dX2_findFault_71 : decode cX2_findFault 71 = .ok (.ireturn, 1) := by decide +kernel
theorem dX2_passSeparator_0 : decode cX2_passSeparator 0 = .ok (.aload_n 0, 1) := by decide +kernel
theorem dX2_passSeparator_1 : decode cX2_passSeparator 1 = .ok (.dup, 1) := by decide +kernel
theorem dX2_passSeparator_2 : decode cX2_passSeparator 2 = .ok (.getfield 15, 3) := by decide +kernel
theorem dX2_passSeparator_5 : decode cX2_passSeparator 5 = .ok (.iconst 1, 1) := by decide +kernel
theorem dX2_passSeparator_6 : decode cX2_passSeparator 6 = .ok (.iadd, 1) := by decide +kernel
theorem dX2_passSeparator_7 : decode cX2_passSeparator 7 = .ok (.putfield 15, 3) := by decide +kernel
theorem dX2_passSeparator_10 : decode cX2_passSeparator 10 = .ok (.return_, 1) := by decide +kernel
theorem dX2_readOrder_0 : decode cX2_readOrder 0 = .ok (.aload_n 0, 1) := by decide +kernel
theorem dX2_readOrder_1 : decode cX2_readOrder 1 = .ok (.aload_n 0, 1) := by decide +kernel
theorem dX2_readOrder_2 : decode cX2_readOrder 2 = .ok (.getfield 9, 3) := by decide +kernel
theorem dX2_readOrder_5 : decode cX2_readOrder 5 = .ok (.aload_n 0, 1) := by decide +kernel
theorem dX2_readOrder_6 : decode cX2_readOrder 6 = .ok (.getfield 15, 3) := by decide +kernel
theorem dX2_readOrder_9 : decode cX2_readOrder 9 = .ok (.invokevirtual 32, 3) := by decide +kernel
theorem dX2_readOrder_12 : decode cX2_readOrder 12 = .ok (.putfield 39, 3) := by decide +kernel
theorem dX2_readOrder_15 : decode cX2_readOrder 15 = .ok (.aload_n 0, 1) := by decide +kernel
theorem dX2_readOrder_16 : decode cX2_readOrder 16 = .ok (.getfield 39, 3) := by decide +kernel
theorem dX2_readOrder_19 : decode cX2_readOrder 19 = .ok (.bipush 114, 2) := by decide +kernel
theorem dX2_readOrder_21 : decode cX2_readOrder 21 = .ok (.if_icmp .eq 14, 3) := by decide +kernel
theorem dX2_readOrder_24 : decode cX2_readOrder 24 = .ok (.aload_n 0, 1) := by decide +kernel
theorem dX2_readOrder_25 : decode cX2_readOrder 25 = .ok (.getfield 39, 3) := by decide +kernel
theorem dX2_readOrder_28 : decode cX2_readOrder 28 = .ok (.bipush 115, 2) := by decide +kernel
theorem dX2_readOrder_30 : decode cX2_readOrder 30 = .ok (.if_icmp .eq 5, 3) := by decide +kernel
theorem dX2_readOrder_33 : decode cX2_readOrder 33 = .ok (.iconst 0, 1) := by decide +kernel
theorem dX2_readOrder_34 : decode cX2_readOrder 34 = .ok (.ireturn, 1) := by decide +kernel
theorem dX2_readOrder_35 : decode cX2_readOrder 35 = .ok (.aload_n 0, 1) := by decide +kernel
theorem dX2_readOrder_36 : decode cX2_readOrder 36 = .ok (.dup, 1) := by decide +kernel
theorem dX2_readOrder_37 : decode cX2_readOrder 37 = .ok (.getfield 15, 3) := by decide +kernel
theorem dX2_readOrder_40 : decode cX2_readOrder 40 = .ok (.iconst 1, 1) := by decide +kernel
theorem dX2_readOrder_41 : decode cX2_readOrder 41 = .ok (.iadd, 1) := by decide +kernel
theorem dX2_readOrder_42 : decode cX2_readOrder 42 = .ok (.putfield 15, 3) := by decide +kernel
theorem dX2_readOrder_45 : decode cX2_readOrder 45 = .ok (.aload_n 0, 1) := by decide +kernel
theorem dX2_readOrder_46 : decode cX2_readOrder 46 = .ok (.getfield 39, 3) := by decide +kernel
theorem dX2_readOrder_49 : decode cX2_readOrder 49 = .ok (.bipush 114, 2) := by decide +kernel
theorem dX2_readOrder_51 : decode cX2_readOrder 51 = .ok (.if_icmp .ne 10, 3) := by decide +kernel
theorem dX2_readOrder_54 : decode cX2_readOrder 54 = .ok (.aload_n 0, 1) := by decide +kernel
theorem dX2_readOrder_55 : decode cX2_readOrder 55 = .ok (.invokevirtual 43, 3) := by decide +kernel
theorem dX2_readOrder_58 : decode cX2_readOrder 58 = .ok (.goto 7, 3) := by decide +kernel
theorem dX2_readOrder_61 : decode cX2_readOrder 61 = .ok (.aload_n 0, 1) := by decide +kernel
theorem dX2_readOrder_62 : decode cX2_readOrder 62 = .ok (.invokevirtual 46, 3) := by decide +kernel
theorem dX2_readOrder_65 : decode cX2_readOrder 65 = .ok (.ireturn, 1) := by decide +kernel
theorem dX2_readRain_0 : decode cX2_readRain 0 = .ok (.aload_n 0, 1) := by decide +kernel
theorem dX2_readRain_1 : decode cX2_readRain 1 = .ok (.aload_n 0, 1) := by decide +kernel
theorem dX2_readRain_2 : decode cX2_readRain 2 = .ok (.iconst 0, 1) := by decide +kernel
theorem dX2_readRain_3 : decode cX2_readRain 3 = .ok (.bipush 99, 2) := by decide +kernel
theorem dX2_readRain_5 : decode cX2_readRain 5 = .ok (.invokevirtual 49, 3) := by decide +kernel
theorem dX2_readRain_8 : decode cX2_readRain 8 = .ok (.putfield 53, 3) := by decide +kernel
theorem dX2_readRain_11 : decode cX2_readRain 11 = .ok (.aload_n 0, 1) := by decide +kernel
theorem dX2_readRain_12 : decode cX2_readRain 12 = .ok (.getfield 53, 3) := by decide +kernel
theorem dX2_readRain_15 : decode cX2_readRain 15 = .ok (.ifCond .lt 19, 3) := by decide +kernel
theorem dX2_readRain_18 : decode cX2_readRain 18 = .ok (.aload_n 0, 1) := by decide +kernel
theorem dX2_readRain_19 : decode cX2_readRain 19 = .ok (.getfield 9, 3) := by decide +kernel
theorem dX2_readRain_22 : decode cX2_readRain 22 = .ok (.aload_n 0, 1) := by decide +kernel
theorem dX2_readRain_23 : decode cX2_readRain 23 = .ok (.getfield 15, 3) := by decide +kernel
theorem dX2_readRain_26 : decode cX2_readRain 26 = .ok (.invokevirtual 32, 3) := by decide +kernel
theorem dX2_readRain_29 : decode cX2_readRain 29 = .ok (.bipush 104, 2) := by decide +kernel
theorem dX2_readRain_31 : decode cX2_readRain 31 = .ok (.if_icmp .eq 5, 3) := by decide +kernel
theorem dX2_readRain_34 : decode cX2_readRain 34 = .ok (.iconst 0, 1) := by decide +kernel
theorem dX2_readRain_35 : decode cX2_readRain 35 = .ok (.ireturn, 1) := by decide +kernel
theorem dX2_readRain_36 : decode cX2_readRain 36 = .ok (.aload_n 0, 1) := by decide +kernel
theorem dX2_readRain_37 : decode cX2_readRain 37 = .ok (.dup, 1) := by decide +kernel
theorem dX2_readRain_38 : decode cX2_readRain 38 = .ok (.getfield 15, 3) := by decide +kernel
theorem dX2_readRain_41 : decode cX2_readRain 41 = .ok (.iconst 1, 1) := by decide +kernel
theorem dX2_readRain_42 : decode cX2_readRain 42 = .ok (.iadd, 1) := by decide +kernel
theorem dX2_readRain_43 : decode cX2_readRain 43 = .ok (.putfield 15, 3) := by decide +kernel
theorem dX2_readRain_46 : decode cX2_readRain 46 = .ok (.aload_n 0, 1) := by decide +kernel
theorem dX2_readRain_47 : decode cX2_readRain 47 = .ok (.aload_n 0, 1) := by decide +kernel
theorem dX2_readRain_48 : decode cX2_readRain 48 = .ok (.iconst 1, 1) := by decide +kernel
theorem dX2_readRain_49 : decode cX2_readRain 49 = .ok (.bipush 24, 2) := by decide +kernel
theorem dX2_readRain_51 : decode cX2_readRain 51 = .ok (.invokevirtual 49, 3) := by decide +kernel
theorem dX2_readRain_54 : decode cX2_readRain 54 = .ok (.putfield 56, 3) := by decide +kernel
theorem dX2_readRain_57 : decode cX2_readRain 57 = .ok (.aload_n 0, 1) := by decide +kernel
theorem dX2_readRain_58 : decode cX2_readRain 58 = .ok (.getfield 56, 3) := by decide +kernel
theorem dX2_readRain_61 : decode cX2_readRain 61 = .ok (.ifCond .lt 7, 3) := by decide +kernel
theorem dX2_readRain_64 : decode cX2_readRain 64 = .ok (.iconst 1, 1) := by decide +kernel
theorem dX2_readRain_65 : decode cX2_readRain 65 = .ok (.goto 4, 3) := by decide +kernel
theorem dX2_readRain_68 : decode cX2_readRain 68 = .ok (.iconst 0, 1) := by decide +kernel
theorem dX2_readRain_69 : decode cX2_readRain 69 = .ok (.ireturn, 1) := by decide +kernel
theorem dX2_readGauge_0 : decode cX2_readGauge 0 = .ok (.aload_n 0, 1) := by decide +kernel
theorem dX2_readGauge_1 : decode cX2_readGauge 1 = .ok (.aload_n 0, 1) := by decide +kernel
theorem dX2_readGauge_2 : decode cX2_readGauge 2 = .ok (.iconst 0, 1) := by decide +kernel
theorem dX2_readGauge_3 : decode cX2_readGauge 3 = .ok (.iconst 5, 1) := by decide +kernel
theorem dX2_readGauge_4 : decode cX2_readGauge 4 = .ok (.invokevirtual 49, 3) := by decide +kernel
theorem dX2_readGauge_7 : decode cX2_readGauge 7 = .ok (.putfield 59, 3) := by decide +kernel
theorem dX2_readGauge_10 : decode cX2_readGauge 10 = .ok (.aload_n 0, 1) := by decide +kernel
theorem dX2_readGauge_11 : decode cX2_readGauge 11 = .ok (.getfield 59, 3) := by decide +kernel
theorem dX2_readGauge_14 : decode cX2_readGauge 14 = .ok (.ifCond .lt 7, 3) := by decide +kernel
theorem dX2_readGauge_17 : decode cX2_readGauge 17 = .ok (.iconst 1, 1) := by decide +kernel
theorem dX2_readGauge_18 : decode cX2_readGauge 18 = .ok (.goto 4, 3) := by decide +kernel
theorem dX2_readGauge_21 : decode cX2_readGauge 21 = .ok (.iconst 0, 1) := by decide +kernel
theorem dX2_readGauge_22 : decode cX2_readGauge 22 = .ok (.ireturn, 1) := by decide +kernel
theorem dX2_readNumber_0 : decode cX2_readNumber 0 = .ok (.aload_n 0, 1) := by decide +kernel
theorem dX2_readNumber_1 : decode cX2_readNumber 1 = .ok (.getfield 9, 3) := by decide +kernel
theorem dX2_readNumber_4 : decode cX2_readNumber 4 = .ok (.aload_n 0, 1) := by decide +kernel
theorem dX2_readNumber_5 : decode cX2_readNumber 5 = .ok (.getfield 15, 3) := by decide +kernel
theorem dX2_readNumber_8 : decode cX2_readNumber 8 = .ok (.invokevirtual 62, 3) := by decide +kernel
theorem dX2_readNumber_11 : decode cX2_readNumber 11 = .ok (.istore_n 3, 1) := by decide +kernel
theorem dX2_readNumber_12 : decode cX2_readNumber 12 = .ok (.iload_n 3, 1) := by decide +kernel
theorem dX2_readNumber_13 : decode cX2_readNumber 13 = .ok (.iload_n 1, 1) := by decide +kernel
theorem dX2_readNumber_14 : decode cX2_readNumber 14 = .ok (.if_icmp .lt 8, 3) := by decide +kernel
theorem dX2_readNumber_17 : decode cX2_readNumber 17 = .ok (.iload_n 3, 1) := by decide +kernel
theorem dX2_readNumber_18 : decode cX2_readNumber 18 = .ok (.iload_n 2, 1) := by decide +kernel
theorem dX2_readNumber_19 : decode cX2_readNumber 19 = .ok (.if_icmp .le 5, 3) := by decide +kernel
theorem dX2_readNumber_22 : decode cX2_readNumber 22 = .ok (.iconst (-1), 1) := by decide +kernel
theorem dX2_readNumber_23 : decode cX2_readNumber 23 = .ok (.ireturn, 1) := by decide +kernel
theorem dX2_readNumber_24 : decode cX2_readNumber 24 = .ok (.aload_n 0, 1) := by decide +kernel
theorem dX2_readNumber_25 : decode cX2_readNumber 25 = .ok (.dup, 1) := by decide +kernel
theorem dX2_readNumber_26 : decode cX2_readNumber 26 = .ok (.getfield 15, 3) := by decide +kernel
theorem dX2_readNumber_29 : decode cX2_readNumber 29 = .ok (.iconst 1, 1) := by decide +kernel
theorem dX2_readNumber_30 : decode cX2_readNumber 30 = .ok (.iadd, 1) := by decide +kernel
theorem dX2_readNumber_31 : decode cX2_readNumber 31 = .ok (.putfield 15, 3) := by decide +kernel
theorem dX2_readNumber_34 : decode cX2_readNumber 34 = .ok (.aload_n 0, 1) := by decide +kernel
theorem dX2_readNumber_35 : decode cX2_readNumber 35 = .ok (.getfield 9, 3) := by decide +kernel
theorem dX2_readNumber_38 : decode cX2_readNumber 38 = .ok (.aload_n 0, 1) := by decide +kernel
theorem dX2_readNumber_39 : decode cX2_readNumber 39 = .ok (.getfield 15, 3) := by decide +kernel
theorem dX2_readNumber_42 : decode cX2_readNumber 42 = .ok (.invokevirtual 62, 3) := by decide +kernel
theorem dX2_readNumber_45 : decode cX2_readNumber 45 = .ok (.istore 4, 2) := by decide +kernel
theorem dX2_readNumber_47 : decode cX2_readNumber 47 = .ok (.iload_n 3, 1) := by decide +kernel
theorem dX2_readNumber_48 : decode cX2_readNumber 48 = .ok (.ifCond .eq 8, 3) := by decide +kernel
theorem dX2_readNumber_51 : decode cX2_readNumber 51 = .ok (.iload 4, 2) := by decide +kernel
theorem dX2_readNumber_53 : decode cX2_readNumber 53 = .ok (.ifCond .ge 5, 3) := by decide +kernel
theorem dX2_readNumber_56 : decode cX2_readNumber 56 = .ok (.iload_n 3, 1) := by decide +kernel
theorem dX2_readNumber_57 : decode cX2_readNumber 57 = .ok (.ireturn, 1) := by decide +kernel
theorem dX2_readNumber_58 : decode cX2_readNumber 58 = .ok (.bipush 10, 2) := by decide +kernel
theorem dX2_readNumber_60 : decode cX2_readNumber 60 = .ok (.iload_n 3, 1) := by decide +kernel
theorem dX2_readNumber_61 : decode cX2_readNumber 61 = .ok (.imul, 1) := by decide +kernel
theorem dX2_readNumber_62 : decode cX2_readNumber 62 = .ok (.iload 4, 2) := by decide +kernel
theorem dX2_readNumber_64 : decode cX2_readNumber 64 = .ok (.iadd, 1) := by decide +kernel
theorem dX2_readNumber_65 : decode cX2_readNumber 65 = .ok (.istore 5, 2) := by decide +kernel
theorem dX2_readNumber_67 : decode cX2_readNumber 67 = .ok (.iload 5, 2) := by decide +kernel
theorem dX2_readNumber_69 : decode cX2_readNumber 69 = .ok (.iload_n 2, 1) := by decide +kernel
theorem dX2_readNumber_70 : decode cX2_readNumber 70 = .ok (.if_icmp .le 5, 3) := by decide +kernel
theorem dX2_readNumber_73 : decode cX2_readNumber 73 = .ok (.iconst (-1), 1) := by decide +kernel
theorem dX2_readNumber_74 : decode cX2_readNumber 74 = .ok (.ireturn, 1) := by decide +kernel
theorem dX2_readNumber_75 : decode cX2_readNumber 75 = .ok (.aload_n 0, 1) := by decide +kernel
theorem dX2_readNumber_76 : decode cX2_readNumber 76 = .ok (.dup, 1) := by decide +kernel
theorem dX2_readNumber_77 : decode cX2_readNumber 77 = .ok (.getfield 15, 3) := by decide +kernel
theorem dX2_readNumber_80 : decode cX2_readNumber 80 = .ok (.iconst 1, 1) := by decide +kernel
theorem dX2_readNumber_81 : decode cX2_readNumber 81 = .ok (.iadd, 1) := by decide +kernel
theorem dX2_readNumber_82 : decode cX2_readNumber 82 = .ok (.putfield 15, 3) := by decide +kernel
theorem dX2_readNumber_85 : decode cX2_readNumber 85 = .ok (.iload 5, 2) := by decide +kernel
theorem dX2_readNumber_87 : decode cX2_readNumber 87 = .ok (.ireturn, 1) := by decide +kernel
theorem dX3_init_0 : decode cX3_init 0 = .ok (.aload_n 0, 1) := by decide +kernel
theorem dX3_init_1 : decode cX3_init 1 = .ok (.invokespecial 3, 3) := by decide +kernel
theorem dX3_init_4 : decode cX3_init 4 = .ok (.aload_n 0, 1) := by decide +kernel
theorem dX3_init_5 : decode cX3_init 5 = .ok (.bipush 60, 2) := by decide +kernel
theorem dX3_init_7 : decode cX3_init 7 = .ok (.newarray .char, 2) := by decide +kernel
theorem dX3_init_9 : decode cX3_init 9 = .ok (.putfield 9, 3) := by decide +kernel
theorem dX3_init_12 : decode cX3_init 12 = .ok (.return_, 1) := by decide +kernel
theorem dX3_append_0 : decode cX3_append 0 = .ok (.aload_n 0, 1) := by decide +kernel
theorem dX3_append_1 : decode cX3_append 1 = .ok (.getfield 15, 3) := by decide +kernel
theorem dX3_append_4 : decode cX3_append 4 = .ok (.ifCond .lt 35, 3) := by decide +kernel
theorem dX3_append_7 : decode cX3_append 7 = .ok (.aload_n 0, 1) := by decide +kernel
theorem dX3_append_8 : decode cX3_append 8 = .ok (.getfield 15, 3) := by decide +kernel
theorem dX3_append_11 : decode cX3_append 11 = .ok (.aload_n 0, 1) := by decide +kernel
theorem dX3_append_12 : decode cX3_append 12 = .ok (.getfield 9, 3) := by decide +kernel
theorem dX3_append_15 : decode cX3_append 15 = .ok (.arraylength, 1) := by decide +kernel
theorem dX3_append_16 : decode cX3_append 16 = .ok (.if_icmp .ge 23, 3) := by decide +kernel
theorem dX3_append_19 : decode cX3_append 19 = .ok (.aload_n 0, 1) := by decide +kernel
theorem dX3_append_20 : decode cX3_append 20 = .ok (.getfield 9, 3) := by decide +kernel
theorem dX3_append_23 : decode cX3_append 23 = .ok (.aload_n 0, 1) := by decide +kernel
theorem dX3_append_24 : decode cX3_append 24 = .ok (.getfield 15, 3) := by decide +kernel
theorem dX3_append_27 : decode cX3_append 27 = .ok (.iload_n 1, 1) := by decide +kernel
theorem dX3_append_28 : decode cX3_append 28 = .ok (.castore, 1) := by decide +kernel
theorem dX3_append_29 : decode cX3_append 29 = .ok (.aload_n 0, 1) := by decide +kernel
theorem dX3_append_30 : decode cX3_append 30 = .ok (.dup, 1) := by decide +kernel
theorem dX3_append_31 : decode cX3_append 31 = .ok (.getfield 15, 3) := by decide +kernel
theorem dX3_append_34 : decode cX3_append 34 = .ok (.iconst 1, 1) := by decide +kernel
theorem dX3_append_35 : decode cX3_append 35 = .ok (.iadd, 1) := by decide +kernel
theorem dX3_append_36 : decode cX3_append 36 = .ok (.putfield 15, 3) := by decide +kernel
theorem dX3_append_39 : decode cX3_append 39 = .ok (.return_, 1) := by decide +kernel
theorem dX3_signAt_0 : decode cX3_signAt 0 = .ok (.iload_n 1, 1) := by decide +kernel
theorem dX3_signAt_1 : decode cX3_signAt 1 = .ok (.ifCond .lt 29, 3) := by decide +kernel
theorem dX3_signAt_4 : decode cX3_signAt 4 = .ok (.iload_n 1, 1) := by decide +kernel
theorem dX3_signAt_5 : decode cX3_signAt 5 = .ok (.aload_n 0, 1) := by decide +kernel
theorem dX3_signAt_6 : decode cX3_signAt 6 = .ok (.getfield 15, 3) := by decide +kernel
theorem dX3_signAt_9 : decode cX3_signAt 9 = .ok (.if_icmp .ge 21, 3) := by decide +kernel
theorem dX3_signAt_12 : decode cX3_signAt 12 = .ok (.iload_n 1, 1) := by decide +kernel
theorem dX3_signAt_13 : decode cX3_signAt 13 = .ok (.aload_n 0, 1) := by decide +kernel
theorem dX3_signAt_14 : decode cX3_signAt 14 = .ok (.getfield 9, 3) := by decide +kernel
theorem dX3_signAt_17 : decode cX3_signAt 17 = .ok (.arraylength, 1) := by decide +kernel
theorem dX3_signAt_18 : decode cX3_signAt 18 = .ok (.if_icmp .ge 12, 3) := by decide +kernel
theorem dX3_signAt_21 : decode cX3_signAt 21 = .ok (.aload_n 0, 1) := by decide +kernel
theorem dX3_signAt_22 : decode cX3_signAt 22 = .ok (.getfield 9, 3) := by decide +kernel
theorem dX3_signAt_25 : decode cX3_signAt 25 = .ok (.iload_n 1, 1) := by decide +kernel
theorem dX3_signAt_26 : decode cX3_signAt 26 = .ok (.caload, 1) := by decide +kernel
theorem dX3_signAt_27 : decode cX3_signAt 27 = .ok (.goto 4, 3) := by decide +kernel
theorem dX3_signAt_30 : decode cX3_signAt 30 = .ok (.iconst 0, 1) := by decide +kernel
theorem dX3_signAt_31 : decode cX3_signAt 31 = .ok (.ireturn, 1) := by decide +kernel
theorem dX3_digitAt_0 : decode cX3_digitAt 0 = .ok (.aload_n 0, 1) := by decide +kernel
theorem dX3_digitAt_1 : decode cX3_digitAt 1 = .ok (.iload_n 1, 1) := by decide +kernel
theorem dX3_digitAt_2 : decode cX3_digitAt 2 = .ok (.invokevirtual 19, 3) := by decide +kernel
theorem dX3_digitAt_5 : decode cX3_digitAt 5 = .ok (.istore_n 2, 1) := by decide +kernel
theorem dX3_digitAt_6 : decode cX3_digitAt 6 = .ok (.iload_n 2, 1) := by decide +kernel
theorem dX3_digitAt_7 : decode cX3_digitAt 7 = .ok (.bipush 48, 2) := by decide +kernel
theorem dX3_digitAt_9 : decode cX3_digitAt 9 = .ok (.if_icmp .lt 16, 3) := by decide +kernel
theorem dX3_digitAt_12 : decode cX3_digitAt 12 = .ok (.iload_n 2, 1) := by decide +kernel
theorem dX3_digitAt_13 : decode cX3_digitAt 13 = .ok (.bipush 57, 2) := by decide +kernel
theorem dX3_digitAt_15 : decode cX3_digitAt 15 = .ok (.if_icmp .gt 10, 3) := by decide +kernel
theorem dX3_digitAt_18 : decode cX3_digitAt 18 = .ok (.iload_n 2, 1) := by decide +kernel
theorem dX3_digitAt_19 : decode cX3_digitAt 19 = .ok (.bipush 48, 2) := by decide +kernel
theorem dX3_digitAt_21 : decode cX3_digitAt 21 = .ok (.isub, 1) := by decide +kernel
theorem dX3_digitAt_22 : decode cX3_digitAt 22 = .ok (.goto 4, 3) := by decide +kernel
theorem dX3_digitAt_25 : decode cX3_digitAt 25 = .ok (.iconst (-1), 1) := by decide +kernel
theorem dX3_digitAt_26 : decode cX3_digitAt 26 = .ok (.ireturn, 1) := by decide +kernel
theorem dX4_init_0 : decode cX4_init 0 = .ok (.aload_n 0, 1) := by decide +kernel
theorem dX4_init_1 : decode cX4_init 1 = .ok (.invokespecial 1, 3) := by decide +kernel
theorem dX4_init_4 : decode cX4_init 4 = .ok (.return_, 1) := by decide +kernel
theorem dX4_copyFrom_0 : decode cX4_copyFrom 0 = .ok (.aload_n 0, 1) := by decide +kernel
theorem dX4_copyFrom_1 : decode cX4_copyFrom 1 = .ok (.aload_n 1, 1) := by decide +kernel
theorem dX4_copyFrom_2 : decode cX4_copyFrom 2 = .ok (.getfield 7, 3) := by decide +kernel
theorem dX4_copyFrom_5 : decode cX4_copyFrom 5 = .ok (.putfield 7, 3) := by decide +kernel
theorem dX4_copyFrom_8 : decode cX4_copyFrom 8 = .ok (.aload_n 0, 1) := by decide +kernel
theorem dX4_copyFrom_9 : decode cX4_copyFrom 9 = .ok (.aload_n 1, 1) := by decide +kernel
theorem dX4_copyFrom_10 : decode cX4_copyFrom 10 = .ok (.getfield 13, 3) := by decide +kernel
theorem dX4_copyFrom_13 : decode cX4_copyFrom 13 = .ok (.putfield 13, 3) := by decide +kernel
theorem dX4_copyFrom_16 : decode cX4_copyFrom 16 = .ok (.aload_n 0, 1) := by decide +kernel
theorem dX4_copyFrom_17 : decode cX4_copyFrom 17 = .ok (.aload_n 1, 1) := by decide +kernel
theorem dX4_copyFrom_18 : decode cX4_copyFrom 18 = .ok (.getfield 16, 3) := by decide +kernel
theorem dX4_copyFrom_21 : decode cX4_copyFrom 21 = .ok (.putfield 16, 3) := by decide +kernel
theorem dX4_copyFrom_24 : decode cX4_copyFrom 24 = .ok (.aload_n 0, 1) := by decide +kernel
theorem dX4_copyFrom_25 : decode cX4_copyFrom 25 = .ok (.aload_n 1, 1) := by decide +kernel
theorem dX4_copyFrom_26 : decode cX4_copyFrom 26 = .ok (.getfield 19, 3) := by decide +kernel
theorem dX4_copyFrom_29 : decode cX4_copyFrom 29 = .ok (.putfield 19, 3) := by decide +kernel
theorem dX4_copyFrom_32 : decode cX4_copyFrom 32 = .ok (.aload_n 0, 1) := by decide +kernel
theorem dX4_copyFrom_33 : decode cX4_copyFrom 33 = .ok (.aload_n 1, 1) := by decide +kernel
theorem dX4_copyFrom_34 : decode cX4_copyFrom 34 = .ok (.getfield 22, 3) := by decide +kernel
theorem dX4_copyFrom_37 : decode cX4_copyFrom 37 = .ok (.putfield 22, 3) := by decide +kernel
theorem dX4_copyFrom_40 : decode cX4_copyFrom 40 = .ok (.aload_n 0, 1) := by decide +kernel
theorem dX4_copyFrom_41 : decode cX4_copyFrom 41 = .ok (.aload_n 1, 1) := by decide +kernel
theorem dX4_copyFrom_42 : decode cX4_copyFrom 42 = .ok (.getfield 25, 3) := by decide +kernel
theorem dX4_copyFrom_45 : decode cX4_copyFrom 45 = .ok (.putfield 25, 3) := by decide +kernel
theorem dX4_copyFrom_48 : decode cX4_copyFrom 48 = .ok (.aload_n 0, 1) := by decide +kernel
theorem dX4_copyFrom_49 : decode cX4_copyFrom 49 = .ok (.aload_n 1, 1) := by decide +kernel
theorem dX4_copyFrom_50 : decode cX4_copyFrom 50 = .ok (.getfield 28, 3) := by decide +kernel
theorem dX4_copyFrom_53 : decode cX4_copyFrom 53 = .ok (.putfield 28, 3) := by decide +kernel
theorem dX4_copyFrom_56 : decode cX4_copyFrom 56 = .ok (.aload_n 0, 1) := by decide +kernel
theorem dX4_copyFrom_57 : decode cX4_copyFrom 57 = .ok (.aload_n 1, 1) := by decide +kernel
theorem dX4_copyFrom_58 : decode cX4_copyFrom 58 = .ok (.getfield 31, 3) := by decide +kernel
theorem dX4_copyFrom_61 : decode cX4_copyFrom 61 = .ok (.putfield 31, 3) := by decide +kernel
theorem dX4_copyFrom_64 : decode cX4_copyFrom 64 = .ok (.return_, 1) := by decide +kernel
theorem dX5_init_0 : decode cX5_init 0 = .ok (.aload_n 0, 1) := by decide +kernel
theorem dX5_init_1 : decode cX5_init 1 = .ok (.invokespecial 1, 3) := by decide +kernel
theorem dX5_init_4 : decode cX5_init 4 = .ok (.return_, 1) := by decide +kernel
theorem dX5_copyFrom_0 : decode cX5_copyFrom 0 = .ok (.aload_n 0, 1) := by decide +kernel
theorem dX5_copyFrom_1 : decode cX5_copyFrom 1 = .ok (.aload_n 1, 1) := by decide +kernel
theorem dX5_copyFrom_2 : decode cX5_copyFrom 2 = .ok (.getfield 7, 3) := by decide +kernel
theorem dX5_copyFrom_5 : decode cX5_copyFrom 5 = .ok (.putfield 7, 3) := by decide +kernel
theorem dX5_copyFrom_8 : decode cX5_copyFrom 8 = .ok (.aload_n 0, 1) := by decide +kernel
theorem dX5_copyFrom_9 : decode cX5_copyFrom 9 = .ok (.aload_n 1, 1) := by decide +kernel
theorem dX5_copyFrom_10 : decode cX5_copyFrom 10 = .ok (.getfield 13, 3) := by decide +kernel
theorem dX5_copyFrom_13 : decode cX5_copyFrom 13 = .ok (.putfield 13, 3) := by decide +kernel
theorem dX5_copyFrom_16 : decode cX5_copyFrom 16 = .ok (.aload_n 0, 1) := by decide +kernel
theorem dX5_copyFrom_17 : decode cX5_copyFrom 17 = .ok (.aload_n 1, 1) := by decide +kernel
theorem dX5_copyFrom_18 : decode cX5_copyFrom 18 = .ok (.getfield 16, 3) := by decide +kernel
theorem dX5_copyFrom_21 : decode cX5_copyFrom 21 = .ok (.putfield 16, 3) := by decide +kernel
theorem dX5_copyFrom_24 : decode cX5_copyFrom 24 = .ok (.aload_n 0, 1) := by decide +kernel
theorem dX5_copyFrom_25 : decode cX5_copyFrom 25 = .ok (.aload_n 1, 1) := by decide +kernel
theorem dX5_copyFrom_26 : decode cX5_copyFrom 26 = .ok (.getfield 19, 3) := by decide +kernel
theorem dX5_copyFrom_29 : decode cX5_copyFrom 29 = .ok (.putfield 19, 3) := by decide +kernel
theorem dX5_copyFrom_32 : decode cX5_copyFrom 32 = .ok (.aload_n 0, 1) := by decide +kernel
theorem dX5_copyFrom_33 : decode cX5_copyFrom 33 = .ok (.aload_n 1, 1) := by decide +kernel
theorem dX5_copyFrom_34 : decode cX5_copyFrom 34 = .ok (.getfield 22, 3) := by decide +kernel
theorem dX5_copyFrom_37 : decode cX5_copyFrom 37 = .ok (.putfield 22, 3) := by decide +kernel
theorem dX5_copyFrom_40 : decode cX5_copyFrom 40 = .ok (.return_, 1) := by decide +kernel
theorem dX6_init_0 : decode cX6_init 0 = .ok (.aload_n 0, 1) := by decide +kernel
theorem dX6_init_1 : decode cX6_init 1 = .ok (.invokespecial 3, 3) := by decide +kernel
theorem dX6_init_4 : decode cX6_init 4 = .ok (.aload_n 0, 1) := by decide +kernel
theorem dX6_init_5 : decode cX6_init 5 = .ok (.bipush 10, 2) := by decide +kernel
theorem dX6_init_7 : decode cX6_init 7 = .ok (.putfield 9, 3) := by decide +kernel
theorem dX6_init_10 : decode cX6_init 10 = .ok (.aload_n 0, 1) := by decide +kernel
theorem dX6_init_11 : decode cX6_init 11 = .ok (.iconst 1, 1) := by decide +kernel
theorem dX6_init_12 : decode cX6_init 12 = .ok (.putfield 15, 3) := by decide +kernel
theorem dX6_init_15 : decode cX6_init 15 = .ok (.aload_n 0, 1) := by decide +kernel
theorem dX6_init_16 : decode cX6_init 16 = .ok (.bipush 6, 2) := by decide +kernel
theorem dX6_init_18 : decode cX6_init 18 = .ok (.anewarray 18, 3) := by decide +kernel
theorem dX6_init_21 : decode cX6_init 21 = .ok (.putfield 20, 3) := by decide +kernel
theorem dX6_init_24 : decode cX6_init 24 = .ok (.aload_n 0, 1) := by decide +kernel
theorem dX6_init_25 : decode cX6_init 25 = .ok (.bipush 20, 2) := by decide +kernel
theorem dX6_init_27 : decode cX6_init 27 = .ok (.anewarray 24, 3) := by decide +kernel
theorem dX6_init_30 : decode cX6_init 30 = .ok (.putfield 26, 3) := by decide +kernel
theorem dX6_init_33 : decode cX6_init 33 = .ok (.iconst 0, 1) := by decide +kernel
theorem dX6_init_34 : decode cX6_init 34 = .ok (.istore_n 1, 1) := by decide +kernel
theorem dX6_init_35 : decode cX6_init 35 = .ok (.iload_n 1, 1) := by decide +kernel
theorem dX6_init_36 : decode cX6_init 36 = .ok (.aload_n 0, 1) := by decide +kernel
theorem dX6_init_37 : decode cX6_init 37 = .ok (.getfield 20, 3) := by decide +kernel
theorem dX6_init_40 : decode cX6_init 40 = .ok (.arraylength, 1) := by decide +kernel
theorem dX6_init_41 : decode cX6_init 41 = .ok (.if_icmp .ge 23, 3) := by decide +kernel
theorem dX6_init_44 : decode cX6_init 44 = .ok (.aload_n 0, 1) := by decide +kernel
theorem dX6_init_45 : decode cX6_init 45 = .ok (.getfield 20, 3) := by decide +kernel
theorem dX6_init_48 : decode cX6_init 48 = .ok (.iload_n 1, 1) := by decide +kernel
theorem dX6_init_49 : decode cX6_init 49 = .ok (.new 18, 3) := by decide +kernel
theorem dX6_init_52 : decode cX6_init 52 = .ok (.dup, 1) := by decide +kernel
theorem dX6_init_53 : decode cX6_init 53 = .ok (.iload_n 1, 1) := by decide +kernel
theorem dX6_init_54 : decode cX6_init 54 = .ok (.invokespecial 30, 3) := by decide +kernel
theorem dX6_init_57 : decode cX6_init 57 = .ok (.aastore, 1) := by decide +kernel
theorem dX6_init_58 : decode cX6_init 58 = .ok (.iinc 1 1, 3) := by decide +kernel
theorem dX6_init_61 : decode cX6_init 61 = .ok (.goto (-26), 3) := by decide +kernel
theorem dX6_init_64 : decode cX6_init 64 = .ok (.iconst 0, 1) := by decide +kernel
theorem dX6_init_65 : decode cX6_init 65 = .ok (.istore_n 1, 1) := by decide +kernel
theorem dX6_init_66 : decode cX6_init 66 = .ok (.iload_n 1, 1) := by decide +kernel
theorem dX6_init_67 : decode cX6_init 67 = .ok (.aload_n 0, 1) := by decide +kernel
theorem dX6_init_68 : decode cX6_init 68 = .ok (.getfield 26, 3) := by decide +kernel
theorem dX6_init_71 : decode cX6_init 71 = .ok (.arraylength, 1) := by decide +kernel
theorem dX6_init_72 : decode cX6_init 72 = .ok (.if_icmp .ge 22, 3) := by decide +kernel
theorem dX6_init_75 : decode cX6_init 75 = .ok (.aload_n 0, 1) := by decide +kernel
theorem dX6_init_76 : decode cX6_init 76 = .ok (.getfield 26, 3) := by decide +kernel
theorem dX6_init_79 : decode cX6_init 79 = .ok (.iload_n 1, 1) := by decide +kernel
theorem dX6_init_80 : decode cX6_init 80 = .ok (.new 24, 3) := by decide +kernel
theorem dX6_init_83 : decode cX6_init 83 = .ok (.dup, 1) := by decide +kernel
theorem dX6_init_84 : decode cX6_init 84 = .ok (.invokespecial 33, 3) := by decide +kernel
theorem dX6_init_87 : decode cX6_init 87 = .ok (.aastore, 1) := by decide +kernel
theorem dX6_init_88 : decode cX6_init 88 = .ok (.iinc 1 1, 3) := by decide +kernel
theorem dX6_init_91 : decode cX6_init 91 = .ok (.goto (-25), 3) := by decide +kernel
theorem dX6_init_94 : decode cX6_init 94 = .ok (.return_, 1) := by decide +kernel
theorem dX6_copyFrom_0 : decode cX6_copyFrom 0 = .ok (.aload_n 0, 1) := by decide +kernel
theorem dX6_copyFrom_1 : decode cX6_copyFrom 1 = .ok (.aload_n 1, 1) := by decide +kernel
theorem dX6_copyFrom_2 : decode cX6_copyFrom 2 = .ok (.getfield 9, 3) := by decide +kernel
theorem dX6_copyFrom_5 : decode cX6_copyFrom 5 = .ok (.putfield 9, 3) := by decide +kernel
theorem dX6_copyFrom_8 : decode cX6_copyFrom 8 = .ok (.aload_n 0, 1) := by decide +kernel
theorem dX6_copyFrom_9 : decode cX6_copyFrom 9 = .ok (.aload_n 1, 1) := by decide +kernel
theorem dX6_copyFrom_10 : decode cX6_copyFrom 10 = .ok (.getfield 15, 3) := by decide +kernel
theorem dX6_copyFrom_13 : decode cX6_copyFrom 13 = .ok (.putfield 15, 3) := by decide +kernel
theorem dX6_copyFrom_16 : decode cX6_copyFrom 16 = .ok (.aload_n 0, 1) := by decide +kernel
theorem dX6_copyFrom_17 : decode cX6_copyFrom 17 = .ok (.aload_n 1, 1) := by decide +kernel
theorem dX6_copyFrom_18 : decode cX6_copyFrom 18 = .ok (.getfield 34, 3) := by decide +kernel
theorem dX6_copyFrom_21 : decode cX6_copyFrom 21 = .ok (.putfield 34, 3) := by decide +kernel
theorem dX6_copyFrom_24 : decode cX6_copyFrom 24 = .ok (.aload_n 0, 1) := by decide +kernel
theorem dX6_copyFrom_25 : decode cX6_copyFrom 25 = .ok (.aload_n 1, 1) := by decide +kernel
theorem dX6_copyFrom_26 : decode cX6_copyFrom 26 = .ok (.getfield 37, 3) := by decide +kernel
theorem dX6_copyFrom_29 : decode cX6_copyFrom 29 = .ok (.putfield 37, 3) := by decide +kernel
theorem dX6_copyFrom_32 : decode cX6_copyFrom 32 = .ok (.iconst 0, 1) := by decide +kernel
theorem dX6_copyFrom_33 : decode cX6_copyFrom 33 = .ok (.istore_n 2, 1) := by decide +kernel
theorem dX6_copyFrom_34 : decode cX6_copyFrom 34 = .ok (.iload_n 2, 1) := by decide +kernel
theorem dX6_copyFrom_35 : decode cX6_copyFrom 35 = .ok (.bipush 6, 2) := by decide +kernel
theorem dX6_copyFrom_37 : decode cX6_copyFrom 37 = .ok (.if_icmp .ge 24, 3) := by decide +kernel
theorem dX6_copyFrom_40 : decode cX6_copyFrom 40 = .ok (.aload_n 0, 1) := by decide +kernel
theorem dX6_copyFrom_41 : decode cX6_copyFrom 41 = .ok (.getfield 20, 3) := by decide +kernel
theorem dX6_copyFrom_44 : decode cX6_copyFrom 44 = .ok (.iload_n 2, 1) := by decide +kernel
theorem dX6_copyFrom_45 : decode cX6_copyFrom 45 = .ok (.aaload, 1) := by decide +kernel
theorem dX6_copyFrom_46 : decode cX6_copyFrom 46 = .ok (.aload_n 1, 1) := by decide +kernel
theorem dX6_copyFrom_47 : decode cX6_copyFrom 47 = .ok (.getfield 20, 3) := by decide +kernel
theorem dX6_copyFrom_50 : decode cX6_copyFrom 50 = .ok (.iload_n 2, 1) := by decide +kernel
theorem dX6_copyFrom_51 : decode cX6_copyFrom 51 = .ok (.aaload, 1) := by decide +kernel
theorem dX6_copyFrom_52 : decode cX6_copyFrom 52 = .ok (.invokevirtual 40, 3) := by decide +kernel
theorem dX6_copyFrom_55 : decode cX6_copyFrom 55 = .ok (.iinc 2 1, 3) := by decide +kernel
theorem dX6_copyFrom_58 : decode cX6_copyFrom 58 = .ok (.goto (-24), 3) := by decide +kernel
theorem dX6_copyFrom_61 : decode cX6_copyFrom 61 = .ok (.iconst 0, 1) := by decide +kernel
theorem dX6_copyFrom_62 : decode cX6_copyFrom 62 = .ok (.istore_n 2, 1) := by decide +kernel
theorem dX6_copyFrom_63 : decode cX6_copyFrom 63 = .ok (.iload_n 2, 1) := by decide +kernel
theorem dX6_copyFrom_64 : decode cX6_copyFrom 64 = .ok (.aload_n 0, 1) := by decide +kernel
theorem dX6_copyFrom_65 : decode cX6_copyFrom 65 = .ok (.getfield 37, 3) := by decide +kernel
theorem dX6_copyFrom_68 : decode cX6_copyFrom 68 = .ok (.if_icmp .ge 30, 3) := by decide +kernel
theorem dX6_copyFrom_71 : decode cX6_copyFrom 71 = .ok (.iload_n 2, 1) := by decide +kernel
theorem dX6_copyFrom_72 : decode cX6_copyFrom 72 = .ok (.bipush 20, 2) := by decide +kernel
theorem dX6_copyFrom_74 : decode cX6_copyFrom 74 = .ok (.if_icmp .ge 24, 3) := by decide +kernel
theorem dX6_copyFrom_77 : decode cX6_copyFrom 77 = .ok (.aload_n 0, 1) := by decide +kernel
theorem dX6_copyFrom_78 : decode cX6_copyFrom 78 = .ok (.getfield 26, 3) := by decide +kernel
theorem dX6_copyFrom_81 : decode cX6_copyFrom 81 = .ok (.iload_n 2, 1) := by decide +kernel
theorem dX6_copyFrom_82 : decode cX6_copyFrom 82 = .ok (.aaload, 1) := by decide +kernel
theorem dX6_copyFrom_83 : decode cX6_copyFrom 83 = .ok (.aload_n 1, 1) := by decide +kernel
theorem dX6_copyFrom_84 : decode cX6_copyFrom 84 = .ok (.getfield 26, 3) := by decide +kernel
theorem dX6_copyFrom_87 : decode cX6_copyFrom 87 = .ok (.iload_n 2, 1) := by decide +kernel
theorem dX6_copyFrom_88 : decode cX6_copyFrom 88 = .ok (.aaload, 1) := by decide +kernel
theorem dX6_copyFrom_89 : decode cX6_copyFrom 89 = .ok (.invokevirtual 44, 3) := by decide +kernel
theorem dX6_copyFrom_92 : decode cX6_copyFrom 92 = .ok (.iinc 2 1, 3) := by decide +kernel
theorem dX6_copyFrom_95 : decode cX6_copyFrom 95 = .ok (.goto (-32), 3) := by decide +kernel
theorem dX6_copyFrom_98 : decode cX6_copyFrom 98 = .ok (.return_, 1) := by decide +kernel
theorem dX6_gaugeAt_0 : decode cX6_gaugeAt 0 = .ok (.iload_n 1, 1) := by decide +kernel
theorem dX6_gaugeAt_1 : decode cX6_gaugeAt 1 = .ok (.ifCond .lt 21, 3) := by decide +kernel
theorem dX6_gaugeAt_4 : decode cX6_gaugeAt 4 = .ok (.iload_n 1, 1) := by decide +kernel
theorem dX6_gaugeAt_5 : decode cX6_gaugeAt 5 = .ok (.aload_n 0, 1) := by decide +kernel
theorem dX6_gaugeAt_6 : decode cX6_gaugeAt 6 = .ok (.getfield 20, 3) := by decide +kernel
theorem dX6_gaugeAt_9 : decode cX6_gaugeAt 9 = .ok (.arraylength, 1) := by decide +kernel
theorem dX6_gaugeAt_10 : decode cX6_gaugeAt 10 = .ok (.if_icmp .ge 12, 3) := by decide +kernel
theorem dX6_gaugeAt_13 : decode cX6_gaugeAt 13 = .ok (.aload_n 0, 1) := by decide +kernel
theorem dX6_gaugeAt_14 : decode cX6_gaugeAt 14 = .ok (.getfield 20, 3) := by decide +kernel
theorem dX6_gaugeAt_17 : decode cX6_gaugeAt 17 = .ok (.iload_n 1, 1) := by decide +kernel
theorem dX6_gaugeAt_18 : decode cX6_gaugeAt 18 = .ok (.aaload, 1) := by decide +kernel
theorem dX6_gaugeAt_19 : decode cX6_gaugeAt 19 = .ok (.goto 4, 3) := by decide +kernel
theorem dX6_gaugeAt_22 : decode cX6_gaugeAt 22 = .ok (.aconst_null, 1) := by decide +kernel
theorem dX6_gaugeAt_23 : decode cX6_gaugeAt 23 = .ok (.areturn, 1) := by decide +kernel
theorem dX6_runnerAt_0 : decode cX6_runnerAt 0 = .ok (.iload_n 1, 1) := by decide +kernel
theorem dX6_runnerAt_1 : decode cX6_runnerAt 1 = .ok (.ifCond .lt 29, 3) := by decide +kernel
theorem dX6_runnerAt_4 : decode cX6_runnerAt 4 = .ok (.iload_n 1, 1) := by decide +kernel
theorem dX6_runnerAt_5 : decode cX6_runnerAt 5 = .ok (.aload_n 0, 1) := by decide +kernel
theorem dX6_runnerAt_6 : decode cX6_runnerAt 6 = .ok (.getfield 37, 3) := by decide +kernel
theorem dX6_runnerAt_9 : decode cX6_runnerAt 9 = .ok (.if_icmp .ge 21, 3) := by decide +kernel
theorem dX6_runnerAt_12 : decode cX6_runnerAt 12 = .ok (.iload_n 1, 1) := by decide +kernel
theorem dX6_runnerAt_13 : decode cX6_runnerAt 13 = .ok (.aload_n 0, 1) := by decide +kernel
theorem dX6_runnerAt_14 : decode cX6_runnerAt 14 = .ok (.getfield 26, 3) := by decide +kernel
theorem dX6_runnerAt_17 : decode cX6_runnerAt 17 = .ok (.arraylength, 1) := by decide +kernel
theorem dX6_runnerAt_18 : decode cX6_runnerAt 18 = .ok (.if_icmp .ge 12, 3) := by decide +kernel
theorem dX6_runnerAt_21 : decode cX6_runnerAt 21 = .ok (.aload_n 0, 1) := by decide +kernel
theorem dX6_runnerAt_22 : decode cX6_runnerAt 22 = .ok (.getfield 26, 3) := by decide +kernel
theorem dX6_runnerAt_25 : decode cX6_runnerAt 25 = .ok (.iload_n 1, 1) := by decide +kernel
theorem dX6_runnerAt_26 : decode cX6_runnerAt 26 = .ok (.aaload, 1) := by decide +kernel
theorem dX6_runnerAt_27 : decode cX6_runnerAt 27 = .ok (.goto 4, 3) := by decide +kernel
theorem dX6_runnerAt_30 : decode cX6_runnerAt 30 = .ok (.aconst_null, 1) := by decide +kernel
theorem dX6_runnerAt_31 : decode cX6_runnerAt 31 = .ok (.areturn, 1) := by decide +kernel
theorem dX6_isFull_0 : decode cX6_isFull 0 = .ok (.aload_n 0, 1) := by decide +kernel
theorem dX6_isFull_1 : decode cX6_isFull 1 = .ok (.getfield 37, 3) := by decide +kernel
theorem dX6_isFull_4 : decode cX6_isFull 4 = .ok (.aload_n 0, 1) := by decide +kernel
theorem dX6_isFull_5 : decode cX6_isFull 5 = .ok (.getfield 26, 3) := by decide +kernel
theorem dX6_isFull_8 : decode cX6_isFull 8 = .ok (.arraylength, 1) := by decide +kernel
theorem dX6_isFull_9 : decode cX6_isFull 9 = .ok (.if_icmp .lt 7, 3) := by decide +kernel
theorem dX6_isFull_12 : decode cX6_isFull 12 = .ok (.iconst 1, 1) := by decide +kernel
theorem dX6_isFull_13 : decode cX6_isFull 13 = .ok (.goto 4, 3) := by decide +kernel
theorem dX6_isFull_16 : decode cX6_isFull 16 = .ok (.iconst 0, 1) := by decide +kernel
theorem dX6_isFull_17 : decode cX6_isFull 17 = .ok (.ireturn, 1) := by decide +kernel
theorem dX6_hasTimeFor_0 : decode cX6_hasTimeFor 0 = .ok (.aload_n 0, 1) := by decide +kernel
theorem dX6_hasTimeFor_1 : decode cX6_hasTimeFor 1 = .ok (.getfield 34, 3) := by decide +kernel
theorem dX6_hasTimeFor_4 : decode cX6_hasTimeFor 4 = .ok (.iload_n 1, 1) := by decide +kernel
theorem dX6_hasTimeFor_5 : decode cX6_hasTimeFor 5 = .ok (.iadd, 1) := by decide +kernel
theorem dX6_hasTimeFor_6 : decode cX6_hasTimeFor 6 = .ok (.sipush 9999, 3) := by decide +kernel
theorem dX6_hasTimeFor_9 : decode cX6_hasTimeFor 9 = .ok (.if_icmp .gt 7, 3) := by decide +kernel
theorem dX6_hasTimeFor_12 : decode cX6_hasTimeFor 12 = .ok (.iconst 1, 1) := by decide +kernel
theorem dX6_hasTimeFor_13 : decode cX6_hasTimeFor 13 = .ok (.goto 4, 3) := by decide +kernel
theorem dX6_hasTimeFor_16 : decode cX6_hasTimeFor 16 = .ok (.iconst 0, 1) := by decide +kernel
theorem dX6_hasTimeFor_17 : decode cX6_hasTimeFor 17 = .ok (.ireturn, 1) := by decide +kernel
theorem dX6_wheelAt_0 : decode cX6_wheelAt 0 = .ok (.aload_n 0, 1) := by decide +kernel
theorem dX6_wheelAt_1 : decode cX6_wheelAt 1 = .ok (.getfield 9, 3) := by decide +kernel
theorem dX6_wheelAt_4 : decode cX6_wheelAt 4 = .ok (.ifCond .le 12, 3) := by decide +kernel
theorem dX6_wheelAt_7 : decode cX6_wheelAt 7 = .ok (.iload_n 1, 1) := by decide +kernel
theorem dX6_wheelAt_8 : decode cX6_wheelAt 8 = .ok (.aload_n 0, 1) := by decide +kernel
theorem dX6_wheelAt_9 : decode cX6_wheelAt 9 = .ok (.getfield 9, 3) := by decide +kernel
theorem dX6_wheelAt_12 : decode cX6_wheelAt 12 = .ok (.irem, 1) := by decide +kernel
theorem dX6_wheelAt_13 : decode cX6_wheelAt 13 = .ok (.goto 4, 3) := by decide +kernel
theorem dX6_wheelAt_16 : decode cX6_wheelAt 16 = .ok (.iconst 0, 1) := by decide +kernel
theorem dX6_wheelAt_17 : decode cX6_wheelAt 17 = .ok (.ireturn, 1) := by decide +kernel
theorem dX6_changeWheels_0 : decode cX6_changeWheels 0 = .ok (.iconst 0, 1) := by decide +kernel
theorem dX6_changeWheels_1 : decode cX6_changeWheels 1 = .ok (.istore_n 2, 1) := by decide +kernel
theorem dX6_changeWheels_2 : decode cX6_changeWheels 2 = .ok (.iload_n 2, 1) := by decide +kernel
theorem dX6_changeWheels_3 : decode cX6_changeWheels 3 = .ok (.aload_n 0, 1) := by decide +kernel
theorem dX6_changeWheels_4 : decode cX6_changeWheels 4 = .ok (.getfield 37, 3) := by decide +kernel
theorem dX6_changeWheels_7 : decode cX6_changeWheels 7 = .ok (.if_icmp .ge 28, 3) := by decide +kernel
theorem dX6_changeWheels_10 : decode cX6_changeWheels 10 = .ok (.iload_n 2, 1) := by decide +kernel
theorem dX6_changeWheels_11 : decode cX6_changeWheels 11 = .ok (.aload_n 0, 1) := by decide +kernel
theorem dX6_changeWheels_12 : decode cX6_changeWheels 12 = .ok (.getfield 26, 3) := by decide +kernel
theorem dX6_changeWheels_15 : decode cX6_changeWheels 15 = .ok (.arraylength, 1) := by decide +kernel
theorem dX6_changeWheels_16 : decode cX6_changeWheels 16 = .ok (.if_icmp .ge 19, 3) := by decide +kernel
theorem dX6_changeWheels_19 : decode cX6_changeWheels 19 = .ok (.aload_n 0, 1) := by decide +kernel
theorem dX6_changeWheels_20 : decode cX6_changeWheels 20 = .ok (.aload_n 0, 1) := by decide +kernel
theorem dX6_changeWheels_21 : decode cX6_changeWheels 21 = .ok (.getfield 26, 3) := by decide +kernel
theorem dX6_changeWheels_24 : decode cX6_changeWheels 24 = .ok (.iload_n 2, 1) := by decide +kernel
theorem dX6_changeWheels_25 : decode cX6_changeWheels 25 = .ok (.aaload, 1) := by decide +kernel
theorem dX6_changeWheels_26 : decode cX6_changeWheels 26 = .ok (.invokevirtual 47, 3) := by decide +kernel
theorem dX6_changeWheels_29 : decode cX6_changeWheels 29 = .ok (.iinc 2 1, 3) := by decide +kernel
theorem dX6_changeWheels_32 : decode cX6_changeWheels 32 = .ok (.goto (-30), 3) := by decide +kernel
theorem dX6_changeWheels_35 : decode cX6_changeWheels 35 = .ok (.aload_n 0, 1) := by decide +kernel
theorem dX6_changeWheels_36 : decode cX6_changeWheels 36 = .ok (.iconst 0, 1) := by decide +kernel
theorem dX6_changeWheels_37 : decode cX6_changeWheels 37 = .ok (.putfield 37, 3) := by decide +kernel
theorem dX6_changeWheels_40 : decode cX6_changeWheels 40 = .ok (.aload_n 0, 1) := by decide +kernel
theorem dX6_changeWheels_41 : decode cX6_changeWheels 41 = .ok (.iload_n 1, 1) := by decide +kernel
theorem dX6_changeWheels_42 : decode cX6_changeWheels 42 = .ok (.putfield 9, 3) := by decide +kernel
theorem dX6_changeWheels_45 : decode cX6_changeWheels 45 = .ok (.return_, 1) := by decide +kernel
theorem dX6_passHours_0 : decode cX6_passHours 0 = .ok (.iconst 0, 1) := by decide +kernel
theorem dX6_passHours_1 : decode cX6_passHours 1 = .ok (.istore_n 3, 1) := by decide +kernel
theorem dX6_passHours_2 : decode cX6_passHours 2 = .ok (.iconst 0, 1) := by decide +kernel
theorem dX6_passHours_3 : decode cX6_passHours 3 = .ok (.istore 4, 2) := by decide +kernel
theorem dX6_passHours_5 : decode cX6_passHours 5 = .ok (.iload 4, 2) := by decide +kernel
theorem dX6_passHours_7 : decode cX6_passHours 7 = .ok (.iload_n 2, 1) := by decide +kernel
theorem dX6_passHours_8 : decode cX6_passHours 8 = .ok (.if_icmp .ge 66, 3) := by decide +kernel
theorem dX6_passHours_11 : decode cX6_passHours 11 = .ok (.aload_n 0, 1) := by decide +kernel
theorem dX6_passHours_12 : decode cX6_passHours 12 = .ok (.getfield 20, 3) := by decide +kernel
theorem dX6_passHours_15 : decode cX6_passHours 15 = .ok (.astore 5, 2) := by decide +kernel
theorem dX6_passHours_17 : decode cX6_passHours 17 = .ok (.aload 5, 2) := by decide +kernel
theorem dX6_passHours_19 : decode cX6_passHours 19 = .ok (.arraylength, 1) := by decide +kernel
theorem dX6_passHours_20 : decode cX6_passHours 20 = .ok (.istore 6, 2) := by decide +kernel
theorem dX6_passHours_22 : decode cX6_passHours 22 = .ok (.iconst 0, 1) := by decide +kernel
theorem dX6_passHours_23 : decode cX6_passHours 23 = .ok (.istore 7, 2) := by decide +kernel
theorem dX6_passHours_25 : decode cX6_passHours 25 = .ok (.iload 7, 2) := by decide +kernel
theorem dX6_passHours_27 : decode cX6_passHours 27 = .ok (.iload 6, 2) := by decide +kernel
theorem dX6_passHours_29 : decode cX6_passHours 29 = .ok (.if_icmp .ge 25, 3) := by decide +kernel
theorem dX6_passHours_32 : decode cX6_passHours 32 = .ok (.aload 5, 2) := by decide +kernel
theorem dX6_passHours_34 : decode cX6_passHours 34 = .ok (.iload 7, 2) := by decide +kernel
theorem dX6_passHours_36 : decode cX6_passHours 36 = .ok (.aaload, 1) := by decide +kernel
theorem dX6_passHours_37 : decode cX6_passHours 37 = .ok (.astore 8, 2) := by decide +kernel
theorem dX6_passHours_39 : decode cX6_passHours 39 = .ok (.iload_n 3, 1) := by decide +kernel
theorem dX6_passHours_40 : decode cX6_passHours 40 = .ok (.aload 8, 2) := by decide +kernel
theorem dX6_passHours_42 : decode cX6_passHours 42 = .ok (.iload_n 1, 1) := by decide +kernel
theorem dX6_passHours_43 : decode cX6_passHours 43 = .ok (.invokevirtual 50, 3) := by decide +kernel
theorem dX6_passHours_46 : decode cX6_passHours 46 = .ok (.iadd, 1) := by decide +kernel
theorem dX6_passHours_47 : decode cX6_passHours 47 = .ok (.istore_n 3, 1) := by decide +kernel
theorem dX6_passHours_48 : decode cX6_passHours 48 = .ok (.iinc 7 1, 3) := by decide +kernel
theorem dX6_passHours_51 : decode cX6_passHours 51 = .ok (.goto (-26), 3) := by decide +kernel
theorem dX6_passHours_54 : decode cX6_passHours 54 = .ok (.aload_n 0, 1) := by decide +kernel
theorem dX6_passHours_55 : decode cX6_passHours 55 = .ok (.dup, 1) := by decide +kernel
theorem dX6_passHours_56 : decode cX6_passHours 56 = .ok (.getfield 34, 3) := by decide +kernel
theorem dX6_passHours_59 : decode cX6_passHours 59 = .ok (.iconst 1, 1) := by decide +kernel
theorem dX6_passHours_60 : decode cX6_passHours 60 = .ok (.iadd, 1) := by decide +kernel
theorem dX6_passHours_61 : decode cX6_passHours 61 = .ok (.putfield 34, 3) := by decide +kernel
theorem dX6_passHours_64 : decode cX6_passHours 64 = .ok (.aload_n 0, 1) := by decide +kernel
theorem dX6_passHours_65 : decode cX6_passHours 65 = .ok (.invokevirtual 54, 3) := by decide +kernel
theorem dX6_passHours_68 : decode cX6_passHours 68 = .ok (.iinc 4 1, 3) := by decide +kernel
theorem dX6_passHours_71 : decode cX6_passHours 71 = .ok (.goto (-66), 3) := by decide +kernel
theorem dX6_passHours_74 : decode cX6_passHours 74 = .ok (.iload_n 3, 1) := by decide +kernel
theorem dX6_passHours_75 : decode cX6_passHours 75 = .ok (.ireturn, 1) := by decide +kernel
theorem dX6_moveRunners_0 : decode cX6_moveRunners 0 = .ok (.iconst 0, 1) := by decide +kernel
theorem dX6_moveRunners_1 : decode cX6_moveRunners 1 = .ok (.istore_n 1, 1) := by decide +kernel
theorem dX6_moveRunners_2 : decode cX6_moveRunners 2 = .ok (.aload_n 0, 1) := by decide +kernel
theorem dX6_moveRunners_3 : decode cX6_moveRunners 3 = .ok (.getfield 37, 3) := by decide +kernel
theorem dX6_moveRunners_6 : decode cX6_moveRunners 6 = .ok (.istore_n 2, 1) := by decide +kernel
theorem dX6_moveRunners_7 : decode cX6_moveRunners 7 = .ok (.iload_n 2, 1) := by decide +kernel
theorem dX6_moveRunners_8 : decode cX6_moveRunners 8 = .ok (.ifCond .le 53, 3) := by decide +kernel
theorem dX6_moveRunners_11 : decode cX6_moveRunners 11 = .ok (.aload_n 0, 1) := by decide +kernel
theorem dX6_moveRunners_12 : decode cX6_moveRunners 12 = .ok (.iload_n 1, 1) := by decide +kernel
theorem dX6_moveRunners_13 : decode cX6_moveRunners 13 = .ok (.invokevirtual 57, 3) := by decide +kernel
theorem dX6_moveRunners_16 : decode cX6_moveRunners 16 = .ok (.astore_n 3, 1) := by decide +kernel
theorem dX6_moveRunners_17 : decode cX6_moveRunners 17 = .ok (.aload_n 3, 1) := by decide +kernel
theorem dX6_moveRunners_18 : decode cX6_moveRunners 18 = .ok (.ifnonnull 4, 3) := by decide +kernel
theorem dX6_moveRunners_21 : decode cX6_moveRunners 21 = .ok (.return_, 1) := by decide +kernel
theorem dX6_moveRunners_22 : decode cX6_moveRunners 22 = .ok (.aload_n 3, 1) := by decide +kernel
theorem dX6_moveRunners_23 : decode cX6_moveRunners 23 = .ok (.dup, 1) := by decide +kernel
theorem dX6_moveRunners_24 : decode cX6_moveRunners 24 = .ok (.getfield 61, 3) := by decide +kernel
theorem dX6_moveRunners_27 : decode cX6_moveRunners 27 = .ok (.iconst 1, 1) := by decide +kernel
theorem dX6_moveRunners_28 : decode cX6_moveRunners 28 = .ok (.isub, 1) := by decide +kernel
theorem dX6_moveRunners_29 : decode cX6_moveRunners 29 = .ok (.putfield 61, 3) := by decide +kernel
theorem dX6_moveRunners_32 : decode cX6_moveRunners 32 = .ok (.aload_n 3, 1) := by decide +kernel
theorem dX6_moveRunners_33 : decode cX6_moveRunners 33 = .ok (.getfield 61, 3) := by decide +kernel
theorem dX6_moveRunners_36 : decode cX6_moveRunners 36 = .ok (.ifCond .le 9, 3) := by decide +kernel
theorem dX6_moveRunners_39 : decode cX6_moveRunners 39 = .ok (.iinc 1 1, 3) := by decide +kernel
theorem dX6_moveRunners_42 : decode cX6_moveRunners 42 = .ok (.goto 13, 3) := by decide +kernel
theorem dX6_moveRunners_45 : decode cX6_moveRunners 45 = .ok (.aload_n 0, 1) := by decide +kernel
theorem dX6_moveRunners_46 : decode cX6_moveRunners 46 = .ok (.aload_n 3, 1) := by decide +kernel
theorem dX6_moveRunners_47 : decode cX6_moveRunners 47 = .ok (.invokevirtual 64, 3) := by decide +kernel
theorem dX6_moveRunners_50 : decode cX6_moveRunners 50 = .ok (.aload_n 0, 1) := by decide +kernel
theorem dX6_moveRunners_51 : decode cX6_moveRunners 51 = .ok (.iload_n 1, 1) := by decide +kernel
theorem dX6_moveRunners_52 : decode cX6_moveRunners 52 = .ok (.invokevirtual 67, 3) := by decide +kernel
theorem dX6_moveRunners_55 : decode cX6_moveRunners 55 = .ok (.iinc 2 (-1), 3) := by decide +kernel
theorem dX6_moveRunners_58 : decode cX6_moveRunners 58 = .ok (.goto (-51), 3) := by decide +kernel
theorem dX6_moveRunners_61 : decode cX6_moveRunners 61 = .ok (.return_, 1) := by decide +kernel
theorem dX6_sendRunner_0 : decode cX6_sendRunner 0 = .ok (.aload_n 0, 1) := by decide +kernel
theorem dX6_sendRunner_1 : decode cX6_sendRunner 1 = .ok (.iload_n 1, 1) := by decide +kernel
theorem dX6_sendRunner_2 : decode cX6_sendRunner 2 = .ok (.invokevirtual 70, 3) := by decide +kernel
theorem dX6_sendRunner_5 : decode cX6_sendRunner 5 = .ok (.astore_n 2, 1) := by decide +kernel
theorem dX6_sendRunner_6 : decode cX6_sendRunner 6 = .ok (.aload_n 2, 1) := by decide +kernel
theorem dX6_sendRunner_7 : decode cX6_sendRunner 7 = .ok (.ifnonnull 6, 3) := by decide +kernel
theorem dX6_sendRunner_10 : decode cX6_sendRunner 10 = .ok (.ldc 74, 2) := by decide +kernel
theorem dX6_sendRunner_12 : decode cX6_sendRunner 12 = .ok (.ireturn, 1) := by decide +kernel
theorem dX6_sendRunner_13 : decode cX6_sendRunner 13 = .ok (.aload_n 0, 1) := by decide +kernel
theorem dX6_sendRunner_14 : decode cX6_sendRunner 14 = .ok (.invokevirtual 75, 3) := by decide +kernel
theorem dX6_sendRunner_17 : decode cX6_sendRunner 17 = .ok (.astore_n 3, 1) := by decide +kernel
theorem dX6_sendRunner_18 : decode cX6_sendRunner 18 = .ok (.aload_n 3, 1) := by decide +kernel
theorem dX6_sendRunner_19 : decode cX6_sendRunner 19 = .ok (.ifnonnull 6, 3) := by decide +kernel
theorem dX6_sendRunner_22 : decode cX6_sendRunner 22 = .ok (.ldc 79, 2) := by decide +kernel
theorem dX6_sendRunner_24 : decode cX6_sendRunner 24 = .ok (.ireturn, 1) := by decide +kernel
theorem dX6_sendRunner_25 : decode cX6_sendRunner 25 = .ok (.aload_n 3, 1) := by decide +kernel
theorem dX6_sendRunner_26 : decode cX6_sendRunner 26 = .ok (.iload_n 1, 1) := by decide +kernel
theorem dX6_sendRunner_27 : decode cX6_sendRunner 27 = .ok (.putfield 80, 3) := by decide +kernel
theorem dX6_sendRunner_30 : decode cX6_sendRunner 30 = .ok (.aload_n 3, 1) := by decide +kernel
theorem dX6_sendRunner_31 : decode cX6_sendRunner 31 = .ok (.aload_n 2, 1) := by decide +kernel
theorem dX6_sendRunner_32 : decode cX6_sendRunner 32 = .ok (.getfield 83, 3) := by decide +kernel
theorem dX6_sendRunner_35 : decode cX6_sendRunner 35 = .ok (.putfield 86, 3) := by decide +kernel
theorem dX6_sendRunner_38 : decode cX6_sendRunner 38 = .ok (.aload_n 3, 1) := by decide +kernel
theorem dX6_sendRunner_39 : decode cX6_sendRunner 39 = .ok (.aload_n 0, 1) := by decide +kernel
theorem dX6_sendRunner_40 : decode cX6_sendRunner 40 = .ok (.getfield 34, 3) := by decide +kernel
theorem dX6_sendRunner_43 : decode cX6_sendRunner 43 = .ok (.putfield 87, 3) := by decide +kernel
theorem dX6_sendRunner_46 : decode cX6_sendRunner 46 = .ok (.aload_n 3, 1) := by decide +kernel
theorem dX6_sendRunner_47 : decode cX6_sendRunner 47 = .ok (.aload_n 0, 1) := by decide +kernel
theorem dX6_sendRunner_48 : decode cX6_sendRunner 48 = .ok (.getfield 20, 3) := by decide +kernel
theorem dX6_sendRunner_51 : decode cX6_sendRunner 51 = .ok (.iconst 0, 1) := by decide +kernel
theorem dX6_sendRunner_52 : decode cX6_sendRunner 52 = .ok (.aaload, 1) := by decide +kernel
theorem dX6_sendRunner_53 : decode cX6_sendRunner 53 = .ok (.getfield 90, 3) := by decide +kernel
theorem dX6_sendRunner_56 : decode cX6_sendRunner 56 = .ok (.putfield 93, 3) := by decide +kernel
theorem dX6_sendRunner_59 : decode cX6_sendRunner 59 = .ok (.aload_n 3, 1) := by decide +kernel
theorem dX6_sendRunner_60 : decode cX6_sendRunner 60 = .ok (.aload_n 2, 1) := by decide +kernel
theorem dX6_sendRunner_61 : decode cX6_sendRunner 61 = .ok (.getfield 96, 3) := by decide +kernel
theorem dX6_sendRunner_64 : decode cX6_sendRunner 64 = .ok (.putfield 61, 3) := by decide +kernel
theorem dX6_sendRunner_67 : decode cX6_sendRunner 67 = .ok (.aload_n 3, 1) := by decide +kernel
theorem dX6_sendRunner_68 : decode cX6_sendRunner 68 = .ok (.getfield 61, 3) := by decide +kernel
theorem dX6_sendRunner_71 : decode cX6_sendRunner 71 = .ok (.ifCond .ne 18, 3) := by decide +kernel
theorem dX6_sendRunner_74 : decode cX6_sendRunner 74 = .ok (.aload_n 0, 1) := by decide +kernel
theorem dX6_sendRunner_75 : decode cX6_sendRunner 75 = .ok (.aload_n 3, 1) := by decide +kernel
theorem dX6_sendRunner_76 : decode cX6_sendRunner 76 = .ok (.invokevirtual 64, 3) := by decide +kernel
theorem dX6_sendRunner_79 : decode cX6_sendRunner 79 = .ok (.aload_n 0, 1) := by decide +kernel
theorem dX6_sendRunner_80 : decode cX6_sendRunner 80 = .ok (.aload_n 0, 1) := by decide +kernel
theorem dX6_sendRunner_81 : decode cX6_sendRunner 81 = .ok (.getfield 37, 3) := by decide +kernel
theorem dX6_sendRunner_84 : decode cX6_sendRunner 84 = .ok (.iconst 1, 1) := by decide +kernel
theorem dX6_sendRunner_85 : decode cX6_sendRunner 85 = .ok (.isub, 1) := by decide +kernel
theorem dX6_sendRunner_86 : decode cX6_sendRunner 86 = .ok (.invokevirtual 67, 3) := by decide +kernel
theorem dX6_sendRunner_89 : decode cX6_sendRunner 89 = .ok (.aload_n 0, 1) := by decide +kernel
theorem dX6_sendRunner_90 : decode cX6_sendRunner 90 = .ok (.aload_n 2, 1) := by decide +kernel
theorem dX6_sendRunner_91 : decode cX6_sendRunner 91 = .ok (.getfield 83, 3) := by decide +kernel
theorem dX6_sendRunner_94 : decode cX6_sendRunner 94 = .ok (.invokevirtual 99, 3) := by decide +kernel
theorem dX6_sendRunner_97 : decode cX6_sendRunner 97 = .ok (.ireturn, 1) := by decide +kernel
theorem dX6_addSecondOf_0 : decode cX6_addSecondOf 0 = .ok (.aload_n 0, 1) := by decide +kernel
theorem dX6_addSecondOf_1 : decode cX6_addSecondOf 1 = .ok (.invokevirtual 75, 3) := by decide +kernel
theorem dX6_addSecondOf_4 : decode cX6_addSecondOf 4 = .ok (.astore_n 2, 1) := by decide +kernel
theorem dX6_addSecondOf_5 : decode cX6_addSecondOf 5 = .ok (.aload_n 2, 1) := by decide +kernel
theorem dX6_addSecondOf_6 : decode cX6_addSecondOf 6 = .ok (.ifnull 18, 3) := by decide +kernel
theorem dX6_addSecondOf_9 : decode cX6_addSecondOf 9 = .ok (.aload_n 2, 1) := by decide +kernel
theorem dX6_addSecondOf_10 : decode cX6_addSecondOf 10 = .ok (.aload_n 1, 1) := by decide +kernel
theorem dX6_addSecondOf_11 : decode cX6_addSecondOf 11 = .ok (.invokevirtual 44, 3) := by decide +kernel
theorem dX6_addSecondOf_14 : decode cX6_addSecondOf 14 = .ok (.aload_n 2, 1) := by decide +kernel
theorem dX6_addSecondOf_15 : decode cX6_addSecondOf 15 = .ok (.dup, 1) := by decide +kernel
theorem dX6_addSecondOf_16 : decode cX6_addSecondOf 16 = .ok (.getfield 61, 3) := by decide +kernel
theorem dX6_addSecondOf_19 : decode cX6_addSecondOf 19 = .ok (.iconst 1, 1) := by decide +kernel
theorem dX6_addSecondOf_20 : decode cX6_addSecondOf 20 = .ok (.iadd, 1) := by decide +kernel
theorem dX6_addSecondOf_21 : decode cX6_addSecondOf 21 = .ok (.putfield 61, 3) := by decide +kernel
theorem dX6_addSecondOf_24 : decode cX6_addSecondOf 24 = .ok (.return_, 1) := by decide +kernel
theorem dX6_addRunner_0 : decode cX6_addRunner 0 = .ok (.aload_n 0, 1) := by decide +kernel
theorem dX6_addRunner_1 : decode cX6_addRunner 1 = .ok (.getfield 37, 3) := by decide +kernel
theorem dX6_addRunner_4 : decode cX6_addRunner 4 = .ok (.ifCond .lt 15, 3) := by decide +kernel
theorem dX6_addRunner_7 : decode cX6_addRunner 7 = .ok (.aload_n 0, 1) := by decide +kernel
theorem dX6_addRunner_8 : decode cX6_addRunner 8 = .ok (.getfield 37, 3) := by decide +kernel
theorem dX6_addRunner_11 : decode cX6_addRunner 11 = .ok (.aload_n 0, 1) := by decide +kernel
theorem dX6_addRunner_12 : decode cX6_addRunner 12 = .ok (.getfield 26, 3) := by decide +kernel
theorem dX6_addRunner_15 : decode cX6_addRunner 15 = .ok (.arraylength, 1) := by decide +kernel
theorem dX6_addRunner_16 : decode cX6_addRunner 16 = .ok (.if_icmp .lt 5, 3) := by decide +kernel
theorem dX6_addRunner_19 : decode cX6_addRunner 19 = .ok (.aconst_null, 1) := by decide +kernel
theorem dX6_addRunner_20 : decode cX6_addRunner 20 = .ok (.areturn, 1) := by decide +kernel
theorem dX6_addRunner_21 : decode cX6_addRunner 21 = .ok (.aload_n 0, 1) := by decide +kernel
theorem dX6_addRunner_22 : decode cX6_addRunner 22 = .ok (.getfield 26, 3) := by decide +kernel
theorem dX6_addRunner_25 : decode cX6_addRunner 25 = .ok (.aload_n 0, 1) := by decide +kernel
theorem dX6_addRunner_26 : decode cX6_addRunner 26 = .ok (.getfield 37, 3) := by decide +kernel
theorem dX6_addRunner_29 : decode cX6_addRunner 29 = .ok (.aaload, 1) := by decide +kernel
theorem dX6_addRunner_30 : decode cX6_addRunner 30 = .ok (.astore_n 1, 1) := by decide +kernel
theorem dX6_addRunner_31 : decode cX6_addRunner 31 = .ok (.aload_n 0, 1) := by decide +kernel
theorem dX6_addRunner_32 : decode cX6_addRunner 32 = .ok (.dup, 1) := by decide +kernel
theorem dX6_addRunner_33 : decode cX6_addRunner 33 = .ok (.getfield 37, 3) := by decide +kernel
theorem dX6_addRunner_36 : decode cX6_addRunner 36 = .ok (.iconst 1, 1) := by decide +kernel
theorem dX6_addRunner_37 : decode cX6_addRunner 37 = .ok (.iadd, 1) := by decide +kernel
theorem dX6_addRunner_38 : decode cX6_addRunner 38 = .ok (.putfield 37, 3) := by decide +kernel
theorem dX6_addRunner_41 : decode cX6_addRunner 41 = .ok (.aload_n 1, 1) := by decide +kernel
theorem dX6_addRunner_42 : decode cX6_addRunner 42 = .ok (.areturn, 1) := by decide +kernel
theorem dX6_removeRunner_0 : decode cX6_removeRunner 0 = .ok (.aload_n 0, 1) := by decide +kernel
theorem dX6_removeRunner_1 : decode cX6_removeRunner 1 = .ok (.iload_n 1, 1) := by decide +kernel
theorem dX6_removeRunner_2 : decode cX6_removeRunner 2 = .ok (.invokevirtual 57, 3) := by decide +kernel
theorem dX6_removeRunner_5 : decode cX6_removeRunner 5 = .ok (.astore_n 2, 1) := by decide +kernel
theorem dX6_removeRunner_6 : decode cX6_removeRunner 6 = .ok (.aload_n 2, 1) := by decide +kernel
theorem dX6_removeRunner_7 : decode cX6_removeRunner 7 = .ok (.ifnonnull 4, 3) := by decide +kernel
theorem dX6_removeRunner_10 : decode cX6_removeRunner 10 = .ok (.return_, 1) := by decide +kernel
theorem dX6_removeRunner_11 : decode cX6_removeRunner 11 = .ok (.aload_n 0, 1) := by decide +kernel
theorem dX6_removeRunner_12 : decode cX6_removeRunner 12 = .ok (.getfield 37, 3) := by decide +kernel
theorem dX6_removeRunner_15 : decode cX6_removeRunner 15 = .ok (.iconst 1, 1) := by decide +kernel
theorem dX6_removeRunner_16 : decode cX6_removeRunner 16 = .ok (.isub, 1) := by decide +kernel
theorem dX6_removeRunner_17 : decode cX6_removeRunner 17 = .ok (.istore_n 3, 1) := by decide +kernel
theorem dX6_removeRunner_18 : decode cX6_removeRunner 18 = .ok (.iload_n 1, 1) := by decide +kernel
theorem dX6_removeRunner_19 : decode cX6_removeRunner 19 = .ok (.istore 4, 2) := by decide +kernel
theorem dX6_removeRunner_21 : decode cX6_removeRunner 21 = .ok (.iload 4, 2) := by decide +kernel
theorem dX6_removeRunner_23 : decode cX6_removeRunner 23 = .ok (.iload_n 3, 1) := by decide +kernel
theorem dX6_removeRunner_24 : decode cX6_removeRunner 24 = .ok (.if_icmp .ge 25, 3) := by decide +kernel
theorem dX6_removeRunner_27 : decode cX6_removeRunner 27 = .ok (.aload_n 0, 1) := by decide +kernel
theorem dX6_removeRunner_28 : decode cX6_removeRunner 28 = .ok (.getfield 26, 3) := by decide +kernel
theorem dX6_removeRunner_31 : decode cX6_removeRunner 31 = .ok (.iload 4, 2) := by decide +kernel
theorem dX6_removeRunner_33 : decode cX6_removeRunner 33 = .ok (.aload_n 0, 1) := by decide +kernel
theorem dX6_removeRunner_34 : decode cX6_removeRunner 34 = .ok (.getfield 26, 3) := by decide +kernel
theorem dX6_removeRunner_37 : decode cX6_removeRunner 37 = .ok (.iload 4, 2) := by decide +kernel
theorem dX6_removeRunner_39 : decode cX6_removeRunner 39 = .ok (.iconst 1, 1) := by decide +kernel
theorem dX6_removeRunner_40 : decode cX6_removeRunner 40 = .ok (.iadd, 1) := by decide +kernel
theorem dX6_removeRunner_41 : decode cX6_removeRunner 41 = .ok (.aaload, 1) := by decide +kernel
theorem dX6_removeRunner_42 : decode cX6_removeRunner 42 = .ok (.aastore, 1) := by decide +kernel
theorem dX6_removeRunner_43 : decode cX6_removeRunner 43 = .ok (.iinc 4 1, 3) := by decide +kernel
theorem dX6_removeRunner_46 : decode cX6_removeRunner 46 = .ok (.goto (-25), 3) := by decide +kernel
theorem dX6_removeRunner_49 : decode cX6_removeRunner 49 = .ok (.aload_n 0, 1) := by decide +kernel
theorem dX6_removeRunner_50 : decode cX6_removeRunner 50 = .ok (.getfield 26, 3) := by decide +kernel
theorem dX6_removeRunner_53 : decode cX6_removeRunner 53 = .ok (.iload_n 3, 1) := by decide +kernel
theorem dX6_removeRunner_54 : decode cX6_removeRunner 54 = .ok (.aload_n 2, 1) := by decide +kernel
theorem dX6_removeRunner_55 : decode cX6_removeRunner 55 = .ok (.aastore, 1) := by decide +kernel
theorem dX6_removeRunner_56 : decode cX6_removeRunner 56 = .ok (.aload_n 0, 1) := by decide +kernel
theorem dX6_removeRunner_57 : decode cX6_removeRunner 57 = .ok (.iload_n 3, 1) := by decide +kernel
theorem dX6_removeRunner_58 : decode cX6_removeRunner 58 = .ok (.putfield 37, 3) := by decide +kernel
theorem dX6_removeRunner_61 : decode cX6_removeRunner 61 = .ok (.return_, 1) := by decide +kernel
theorem dX6_countAsLost_0 : decode cX6_countAsLost 0 = .ok (.aload_n 0, 1) := by decide +kernel
theorem dX6_countAsLost_1 : decode cX6_countAsLost 1 = .ok (.aload_n 1, 1) := by decide +kernel
theorem dX6_countAsLost_2 : decode cX6_countAsLost 2 = .ok (.getfield 80, 3) := by decide +kernel
theorem dX6_countAsLost_5 : decode cX6_countAsLost 5 = .ok (.invokevirtual 70, 3) := by decide +kernel
theorem dX6_countAsLost_8 : decode cX6_countAsLost 8 = .ok (.astore_n 2, 1) := by decide +kernel
theorem dX6_countAsLost_9 : decode cX6_countAsLost 9 = .ok (.aload_n 2, 1) := by decide +kernel
theorem dX6_countAsLost_10 : decode cX6_countAsLost 10 = .ok (.ifnull 16, 3) := by decide +kernel
theorem dX6_countAsLost_13 : decode cX6_countAsLost 13 = .ok (.aload_n 2, 1) := by decide +kernel
theorem dX6_countAsLost_14 : decode cX6_countAsLost 14 = .ok (.getfield 102, 3) := by decide +kernel
theorem dX6_countAsLost_17 : decode cX6_countAsLost 17 = .ok (.dup, 1) := by decide +kernel
theorem dX6_countAsLost_18 : decode cX6_countAsLost 18 = .ok (.getfield 106, 3) := by decide +kernel
theorem dX6_countAsLost_21 : decode cX6_countAsLost 21 = .ok (.iconst 1, 1) := by decide +kernel
theorem dX6_countAsLost_22 : decode cX6_countAsLost 22 = .ok (.iadd, 1) := by decide +kernel
theorem dX6_countAsLost_23 : decode cX6_countAsLost 23 = .ok (.putfield 106, 3) := by decide +kernel
theorem dX6_countAsLost_26 : decode cX6_countAsLost 26 = .ok (.return_, 1) := by decide +kernel
theorem dX6_longestWay_0 : decode cX6_longestWay 0 = .ok (.iconst 0, 1) := by decide +kernel
theorem dX6_longestWay_1 : decode cX6_longestWay 1 = .ok (.istore_n 1, 1) := by decide +kernel
theorem dX6_longestWay_2 : decode cX6_longestWay 2 = .ok (.iconst 0, 1) := by decide +kernel
theorem dX6_longestWay_3 : decode cX6_longestWay 3 = .ok (.istore_n 2, 1) := by decide +kernel
theorem dX6_longestWay_4 : decode cX6_longestWay 4 = .ok (.iload_n 2, 1) := by decide +kernel
theorem dX6_longestWay_5 : decode cX6_longestWay 5 = .ok (.aload_n 0, 1) := by decide +kernel
theorem dX6_longestWay_6 : decode cX6_longestWay 6 = .ok (.getfield 37, 3) := by decide +kernel
theorem dX6_longestWay_9 : decode cX6_longestWay 9 = .ok (.if_icmp .ge 32, 3) := by decide +kernel
theorem dX6_longestWay_12 : decode cX6_longestWay 12 = .ok (.iload_n 2, 1) := by decide +kernel
theorem dX6_longestWay_13 : decode cX6_longestWay 13 = .ok (.aload_n 0, 1) := by decide +kernel
theorem dX6_longestWay_14 : decode cX6_longestWay 14 = .ok (.getfield 26, 3) := by decide +kernel
theorem dX6_longestWay_17 : decode cX6_longestWay 17 = .ok (.arraylength, 1) := by decide +kernel
theorem dX6_longestWay_18 : decode cX6_longestWay 18 = .ok (.if_icmp .ge 23, 3) := by decide +kernel
theorem dX6_longestWay_21 : decode cX6_longestWay 21 = .ok (.iload_n 1, 1) := by decide +kernel
theorem dX6_longestWay_22 : decode cX6_longestWay 22 = .ok (.aload_n 0, 1) := by decide +kernel
theorem dX6_longestWay_23 : decode cX6_longestWay 23 = .ok (.getfield 26, 3) := by decide +kernel
theorem dX6_longestWay_26 : decode cX6_longestWay 26 = .ok (.iload_n 2, 1) := by decide +kernel
theorem dX6_longestWay_27 : decode cX6_longestWay 27 = .ok (.aaload, 1) := by decide +kernel
theorem dX6_longestWay_28 : decode cX6_longestWay 28 = .ok (.getfield 61, 3) := by decide +kernel
theorem dX6_longestWay_31 : decode cX6_longestWay 31 = .ok (.invokestatic 111, 3) := by decide +kernel
theorem dX6_longestWay_34 : decode cX6_longestWay 34 = .ok (.istore_n 1, 1) := by decide +kernel
theorem dX6_longestWay_35 : decode cX6_longestWay 35 = .ok (.iinc 2 1, 3) := by decide +kernel
theorem dX6_longestWay_38 : decode cX6_longestWay 38 = .ok (.goto (-34), 3) := by decide +kernel
theorem dX6_longestWay_41 : decode cX6_longestWay 41 = .ok (.iload_n 1, 1) := by decide +kernel
theorem dX6_longestWay_42 : decode cX6_longestWay 42 = .ok (.ireturn, 1) := by decide +kernel
theorem dX6_hear_0 : decode cX6_hear 0 = .ok (.aload_n 0, 1) := by decide +kernel
theorem dX6_hear_1 : decode cX6_hear 1 = .ok (.aload_n 1, 1) := by decide +kernel
theorem dX6_hear_2 : decode cX6_hear 2 = .ok (.getfield 80, 3) := by decide +kernel
theorem dX6_hear_5 : decode cX6_hear 5 = .ok (.invokevirtual 70, 3) := by decide +kernel
theorem dX6_hear_8 : decode cX6_hear 8 = .ok (.astore_n 2, 1) := by decide +kernel
theorem dX6_hear_9 : decode cX6_hear 9 = .ok (.aload_n 2, 1) := by decide +kernel
theorem dX6_hear_10 : decode cX6_hear 10 = .ok (.ifnonnull 4, 3) := by decide +kernel
theorem dX6_hear_13 : decode cX6_hear 13 = .ok (.return_, 1) := by decide +kernel
theorem dX6_hear_14 : decode cX6_hear 14 = .ok (.aload_n 2, 1) := by decide +kernel
theorem dX6_hear_15 : decode cX6_hear 15 = .ok (.getfield 102, 3) := by decide +kernel
theorem dX6_hear_18 : decode cX6_hear 18 = .ok (.astore_n 3, 1) := by decide +kernel
theorem dX6_hear_19 : decode cX6_hear 19 = .ok (.aload_n 1, 1) := by decide +kernel
theorem dX6_hear_20 : decode cX6_hear 20 = .ok (.getfield 87, 3) := by decide +kernel
theorem dX6_hear_23 : decode cX6_hear 23 = .ok (.aload_n 3, 1) := by decide +kernel
theorem dX6_hear_24 : decode cX6_hear 24 = .ok (.getfield 117, 3) := by decide +kernel
theorem dX6_hear_27 : decode cX6_hear 27 = .ok (.if_icmp .ge 16, 3) := by decide +kernel
theorem dX6_hear_30 : decode cX6_hear 30 = .ok (.aload_n 3, 1) := by decide +kernel
theorem dX6_hear_31 : decode cX6_hear 31 = .ok (.dup, 1) := by decide +kernel
theorem dX6_hear_32 : decode cX6_hear 32 = .ok (.getfield 120, 3) := by decide +kernel
theorem dX6_hear_35 : decode cX6_hear 35 = .ok (.iconst 1, 1) := by decide +kernel
theorem dX6_hear_36 : decode cX6_hear 36 = .ok (.iadd, 1) := by decide +kernel
theorem dX6_hear_37 : decode cX6_hear 37 = .ok (.putfield 120, 3) := by decide +kernel
theorem dX6_hear_40 : decode cX6_hear 40 = .ok (.goto 102, 3) := by decide +kernel
theorem dX6_hear_43 : decode cX6_hear 43 = .ok (.aload_n 3, 1) := by decide +kernel
theorem dX6_hear_44 : decode cX6_hear 44 = .ok (.getfield 123, 3) := by decide +kernel
theorem dX6_hear_47 : decode cX6_hear 47 = .ok (.ifCond .le 46, 3) := by decide +kernel
theorem dX6_hear_50 : decode cX6_hear 50 = .ok (.aload_n 1, 1) := by decide +kernel
theorem dX6_hear_51 : decode cX6_hear 51 = .ok (.getfield 87, 3) := by decide +kernel
theorem dX6_hear_54 : decode cX6_hear 54 = .ok (.aload_n 3, 1) := by decide +kernel
theorem dX6_hear_55 : decode cX6_hear 55 = .ok (.getfield 117, 3) := by decide +kernel
theorem dX6_hear_58 : decode cX6_hear 58 = .ok (.if_icmp .ne 35, 3) := by decide +kernel
theorem dX6_hear_61 : decode cX6_hear 61 = .ok (.aload_n 0, 1) := by decide +kernel
theorem dX6_hear_62 : decode cX6_hear 62 = .ok (.aload_n 1, 1) := by decide +kernel
theorem dX6_hear_63 : decode cX6_hear 63 = .ok (.getfield 86, 3) := by decide +kernel
theorem dX6_hear_66 : decode cX6_hear 66 = .ok (.invokevirtual 99, 3) := by decide +kernel
theorem dX6_hear_69 : decode cX6_hear 69 = .ok (.aload_n 0, 1) := by decide +kernel
theorem dX6_hear_70 : decode cX6_hear 70 = .ok (.aload_n 3, 1) := by decide +kernel
theorem dX6_hear_71 : decode cX6_hear 71 = .ok (.getfield 126, 3) := by decide +kernel
theorem dX6_hear_74 : decode cX6_hear 74 = .ok (.invokevirtual 99, 3) := by decide +kernel
theorem dX6_hear_77 : decode cX6_hear 77 = .ok (.if_icmp .ne 16, 3) := by decide +kernel
theorem dX6_hear_80 : decode cX6_hear 80 = .ok (.aload_n 3, 1) := by decide +kernel
theorem dX6_hear_81 : decode cX6_hear 81 = .ok (.dup, 1) := by decide +kernel
theorem dX6_hear_82 : decode cX6_hear 82 = .ok (.getfield 129, 3) := by decide +kernel
theorem dX6_hear_85 : decode cX6_hear 85 = .ok (.iconst 1, 1) := by decide +kernel
theorem dX6_hear_86 : decode cX6_hear 86 = .ok (.iadd, 1) := by decide +kernel
theorem dX6_hear_87 : decode cX6_hear 87 = .ok (.putfield 129, 3) := by decide +kernel
theorem dX6_hear_90 : decode cX6_hear 90 = .ok (.goto 52, 3) := by decide +kernel
theorem dX6_hear_93 : decode cX6_hear 93 = .ok (.aload_n 3, 1) := by decide +kernel
theorem dX6_hear_94 : decode cX6_hear 94 = .ok (.dup, 1) := by decide +kernel
theorem dX6_hear_95 : decode cX6_hear 95 = .ok (.getfield 132, 3) := by decide +kernel
theorem dX6_hear_98 : decode cX6_hear 98 = .ok (.aload_n 0, 1) := by decide +kernel
theorem dX6_hear_99 : decode cX6_hear 99 = .ok (.aload_n 2, 1) := by decide +kernel
theorem dX6_hear_100 : decode cX6_hear 100 = .ok (.aload_n 1, 1) := by decide +kernel
theorem dX6_hear_101 : decode cX6_hear 101 = .ok (.invokevirtual 135, 3) := by decide +kernel
theorem dX6_hear_104 : decode cX6_hear 104 = .ok (.iadd, 1) := by decide +kernel
theorem dX6_hear_105 : decode cX6_hear 105 = .ok (.putfield 132, 3) := by decide +kernel
theorem dX6_hear_108 : decode cX6_hear 108 = .ok (.aload_n 3, 1) := by decide +kernel
theorem dX6_hear_109 : decode cX6_hear 109 = .ok (.dup, 1) := by decide +kernel
theorem dX6_hear_110 : decode cX6_hear 110 = .ok (.getfield 123, 3) := by decide +kernel
theorem dX6_hear_113 : decode cX6_hear 113 = .ok (.iconst 1, 1) := by decide +kernel
theorem dX6_hear_114 : decode cX6_hear 114 = .ok (.iadd, 1) := by decide +kernel
theorem dX6_hear_115 : decode cX6_hear 115 = .ok (.putfield 123, 3) := by decide +kernel
theorem dX6_hear_118 : decode cX6_hear 118 = .ok (.aload_n 3, 1) := by decide +kernel
theorem dX6_hear_119 : decode cX6_hear 119 = .ok (.aload_n 1, 1) := by decide +kernel
theorem dX6_hear_120 : decode cX6_hear 120 = .ok (.getfield 87, 3) := by decide +kernel
theorem dX6_hear_123 : decode cX6_hear 123 = .ok (.putfield 117, 3) := by decide +kernel
theorem dX6_hear_126 : decode cX6_hear 126 = .ok (.aload_n 3, 1) := by decide +kernel
theorem dX6_hear_127 : decode cX6_hear 127 = .ok (.aload_n 1, 1) := by decide +kernel
theorem dX6_hear_128 : decode cX6_hear 128 = .ok (.getfield 86, 3) := by decide +kernel
theorem dX6_hear_131 : decode cX6_hear 131 = .ok (.putfield 126, 3) := by decide +kernel
theorem dX6_hear_134 : decode cX6_hear 134 = .ok (.aload_n 3, 1) := by decide +kernel
theorem dX6_hear_135 : decode cX6_hear 135 = .ok (.aload_n 1, 1) := by decide +kernel
theorem dX6_hear_136 : decode cX6_hear 136 = .ok (.getfield 93, 3) := by decide +kernel
theorem dX6_hear_139 : decode cX6_hear 139 = .ok (.putfield 139, 3) := by decide +kernel
theorem dX6_hear_142 : decode cX6_hear 142 = .ok (.return_, 1) := by decide +kernel
theorem dX6_wentOn_0 : decode cX6_wentOn 0 = .ok (.aload_n 0, 1) := by decide +kernel
theorem dX6_wentOn_1 : decode cX6_wentOn 1 = .ok (.aload_n 2, 1) := by decide +kernel
theorem dX6_wentOn_2 : decode cX6_wentOn 2 = .ok (.getfield 86, 3) := by decide +kernel
theorem dX6_wentOn_5 : decode cX6_wentOn 5 = .ok (.invokevirtual 99, 3) := by decide +kernel
theorem dX6_wentOn_8 : decode cX6_wentOn 8 = .ok (.aload_n 0, 1) := by decide +kernel
theorem dX6_wentOn_9 : decode cX6_wentOn 9 = .ok (.aload_n 1, 1) := by decide +kernel
theorem dX6_wentOn_10 : decode cX6_wentOn 10 = .ok (.getfield 102, 3) := by decide +kernel
theorem dX6_wentOn_13 : decode cX6_wentOn 13 = .ok (.getfield 126, 3) := by decide +kernel
theorem dX6_wentOn_16 : decode cX6_wentOn 16 = .ok (.invokevirtual 99, 3) := by decide +kernel
theorem dX6_wentOn_19 : decode cX6_wentOn 19 = .ok (.isub, 1) := by decide +kernel
theorem dX6_wentOn_20 : decode cX6_wentOn 20 = .ok (.istore_n 3, 1) := by decide +kernel
theorem dX6_wentOn_21 : decode cX6_wentOn 21 = .ok (.iload_n 3, 1) := by decide +kernel
theorem dX6_wentOn_22 : decode cX6_wentOn 22 = .ok (.ifCond .ge 10, 3) := by decide +kernel
theorem dX6_wentOn_25 : decode cX6_wentOn 25 = .ok (.iload_n 3, 1) := by decide +kernel
theorem dX6_wentOn_26 : decode cX6_wentOn 26 = .ok (.aload_n 0, 1) := by decide +kernel
theorem dX6_wentOn_27 : decode cX6_wentOn 27 = .ok (.getfield 9, 3) := by decide +kernel
theorem dX6_wentOn_30 : decode cX6_wentOn 30 = .ok (.iadd, 1) := by decide +kernel
theorem dX6_wentOn_31 : decode cX6_wentOn 31 = .ok (.istore_n 3, 1) := by decide +kernel
theorem dX6_wentOn_32 : decode cX6_wentOn 32 = .ok (.aload_n 0, 1) := by decide +kernel
theorem dX6_wentOn_33 : decode cX6_wentOn 33 = .ok (.getfield 15, 3) := by decide +kernel
theorem dX6_wentOn_36 : decode cX6_wentOn 36 = .ok (.iconst 1, 1) := by decide +kernel
theorem dX6_wentOn_37 : decode cX6_wentOn 37 = .ok (.if_icmp .ne 23, 3) := by decide +kernel
theorem dX6_wentOn_40 : decode cX6_wentOn 40 = .ok (.iload_n 3, 1) := by decide +kernel
theorem dX6_wentOn_41 : decode cX6_wentOn 41 = .ok (.aload_n 0, 1) := by decide +kernel
theorem dX6_wentOn_42 : decode cX6_wentOn 42 = .ok (.getfield 9, 3) := by decide +kernel
theorem dX6_wentOn_45 : decode cX6_wentOn 45 = .ok (.aload_n 0, 1) := by decide +kernel
theorem dX6_wentOn_46 : decode cX6_wentOn 46 = .ok (.aload_n 0, 1) := by decide +kernel
theorem dX6_wentOn_47 : decode cX6_wentOn 47 = .ok (.aload_n 1, 1) := by decide +kernel
theorem dX6_wentOn_48 : decode cX6_wentOn 48 = .ok (.aload_n 2, 1) := by decide +kernel
theorem dX6_wentOn_49 : decode cX6_wentOn 49 = .ok (.invokevirtual 142, 3) := by decide +kernel
theorem dX6_wentOn_52 : decode cX6_wentOn 52 = .ok (.iload_n 3, 1) := by decide +kernel
theorem dX6_wentOn_53 : decode cX6_wentOn 53 = .ok (.isub, 1) := by decide +kernel
theorem dX6_wentOn_54 : decode cX6_wentOn 54 = .ok (.invokevirtual 145, 3) := by decide +kernel
theorem dX6_wentOn_57 : decode cX6_wentOn 57 = .ok (.imul, 1) := by decide +kernel
theorem dX6_wentOn_58 : decode cX6_wentOn 58 = .ok (.iadd, 1) := by decide +kernel
theorem dX6_wentOn_59 : decode cX6_wentOn 59 = .ok (.istore_n 3, 1) := by decide +kernel
theorem dX6_wentOn_60 : decode cX6_wentOn 60 = .ok (.iload_n 3, 1) := by decide +kernel
theorem dX6_wentOn_61 : decode cX6_wentOn 61 = .ok (.ireturn, 1) := by decide +kernel
theorem dX6_expectedTips_0 : decode cX6_expectedTips 0 = .ok (.aload_n 0, 1) := by decide +kernel
theorem dX6_expectedTips_1 : decode cX6_expectedTips 1 = .ok (.getfield 20, 3) := by decide +kernel
theorem dX6_expectedTips_4 : decode cX6_expectedTips 4 = .ok (.iconst 0, 1) := by decide +kernel
theorem dX6_expectedTips_5 : decode cX6_expectedTips 5 = .ok (.aaload, 1) := by decide +kernel
theorem dX6_expectedTips_6 : decode cX6_expectedTips 6 = .ok (.getfield 148, 3) := by decide +kernel
theorem dX6_expectedTips_9 : decode cX6_expectedTips 9 = .ok (.istore_n 3, 1) := by decide +kernel
theorem dX6_expectedTips_10 : decode cX6_expectedTips 10 = .ok (.iload_n 3, 1) := by decide +kernel
theorem dX6_expectedTips_11 : decode cX6_expectedTips 11 = .ok (.ifCond .le 10, 3) := by decide +kernel
theorem dX6_expectedTips_14 : decode cX6_expectedTips 14 = .ok (.aload_n 1, 1) := by decide +kernel
theorem dX6_expectedTips_15 : decode cX6_expectedTips 15 = .ok (.getfield 151, 3) := by decide +kernel
theorem dX6_expectedTips_18 : decode cX6_expectedTips 18 = .ok (.ifCond .gt 5, 3) := by decide +kernel
theorem dX6_expectedTips_21 : decode cX6_expectedTips 21 = .ok (.iconst 0, 1) := by decide +kernel
theorem dX6_expectedTips_22 : decode cX6_expectedTips 22 = .ok (.ireturn, 1) := by decide +kernel
theorem dX6_expectedTips_23 : decode cX6_expectedTips 23 = .ok (.aload_n 2, 1) := by decide +kernel
theorem dX6_expectedTips_24 : decode cX6_expectedTips 24 = .ok (.getfield 93, 3) := by decide +kernel
theorem dX6_expectedTips_27 : decode cX6_expectedTips 27 = .ok (.aload_n 1, 1) := by decide +kernel
theorem dX6_expectedTips_28 : decode cX6_expectedTips 28 = .ok (.getfield 102, 3) := by decide +kernel
theorem dX6_expectedTips_31 : decode cX6_expectedTips 31 = .ok (.getfield 139, 3) := by decide +kernel
theorem dX6_expectedTips_34 : decode cX6_expectedTips 34 = .ok (.isub, 1) := by decide +kernel
theorem dX6_expectedTips_35 : decode cX6_expectedTips 35 = .ok (.istore 4, 2) := by decide +kernel
theorem dX6_expectedTips_37 : decode cX6_expectedTips 37 = .ok (.iload 4, 2) := by decide +kernel
theorem dX6_expectedTips_39 : decode cX6_expectedTips 39 = .ok (.aload_n 1, 1) := by decide +kernel
theorem dX6_expectedTips_40 : decode cX6_expectedTips 40 = .ok (.getfield 148, 3) := by decide +kernel
theorem dX6_expectedTips_43 : decode cX6_expectedTips 43 = .ok (.imul, 1) := by decide +kernel
theorem dX6_expectedTips_44 : decode cX6_expectedTips 44 = .ok (.iload_n 3, 1) := by decide +kernel
theorem dX6_expectedTips_45 : decode cX6_expectedTips 45 = .ok (.idiv, 1) := by decide +kernel
theorem dX6_expectedTips_46 : decode cX6_expectedTips 46 = .ok (.aload_n 1, 1) := by decide +kernel
theorem dX6_expectedTips_47 : decode cX6_expectedTips 47 = .ok (.getfield 151, 3) := by decide +kernel
theorem dX6_expectedTips_50 : decode cX6_expectedTips 50 = .ok (.idiv, 1) := by decide +kernel
theorem dX6_expectedTips_51 : decode cX6_expectedTips 51 = .ok (.ireturn, 1) := by decide +kernel
theorem dX6_roundsFor_0 : decode cX6_roundsFor 0 = .ok (.iload_n 1, 1) := by decide +kernel
theorem dX6_roundsFor_1 : decode cX6_roundsFor 1 = .ok (.ifCond .le 10, 3) := by decide +kernel
theorem dX6_roundsFor_4 : decode cX6_roundsFor 4 = .ok (.aload_n 0, 1) := by decide +kernel
theorem dX6_roundsFor_5 : decode cX6_roundsFor 5 = .ok (.getfield 9, 3) := by decide +kernel
theorem dX6_roundsFor_8 : decode cX6_roundsFor 8 = .ok (.ifCond .gt 5, 3) := by decide +kernel
theorem dX6_roundsFor_11 : decode cX6_roundsFor 11 = .ok (.iconst 0, 1) := by decide +kernel
theorem dX6_roundsFor_12 : decode cX6_roundsFor 12 = .ok (.ireturn, 1) := by decide +kernel
theorem dX6_roundsFor_13 : decode cX6_roundsFor 13 = .ok (.iconst 2, 1) := by decide +kernel
theorem dX6_roundsFor_14 : decode cX6_roundsFor 14 = .ok (.iload_n 1, 1) := by decide +kernel
theorem dX6_roundsFor_15 : decode cX6_roundsFor 15 = .ok (.imul, 1) := by decide +kernel
theorem dX6_roundsFor_16 : decode cX6_roundsFor 16 = .ok (.aload_n 0, 1) := by decide +kernel
theorem dX6_roundsFor_17 : decode cX6_roundsFor 17 = .ok (.getfield 9, 3) := by decide +kernel
theorem dX6_roundsFor_20 : decode cX6_roundsFor 20 = .ok (.iadd, 1) := by decide +kernel
theorem dX6_roundsFor_21 : decode cX6_roundsFor 21 = .ok (.iconst 1, 1) := by decide +kernel
theorem dX6_roundsFor_22 : decode cX6_roundsFor 22 = .ok (.isub, 1) := by decide +kernel
theorem dX6_roundsFor_23 : decode cX6_roundsFor 23 = .ok (.iconst 2, 1) := by decide +kernel
theorem dX6_roundsFor_24 : decode cX6_roundsFor 24 = .ok (.aload_n 0, 1) := by decide +kernel
theorem dX6_roundsFor_25 : decode cX6_roundsFor 25 = .ok (.getfield 9, 3) := by decide +kernel
theorem dX6_roundsFor_28 : decode cX6_roundsFor 28 = .ok (.imul, 1) := by decide +kernel
theorem dX6_roundsFor_29 : decode cX6_roundsFor 29 = .ok (.idiv, 1) := by decide +kernel
theorem dX6_roundsFor_30 : decode cX6_roundsFor 30 = .ok (.ireturn, 1) := by decide +kernel
theorem dX6_factOf_0 : decode cX6_factOf 0 = .ok (.iload_n 2, 1) := by decide +kernel
theorem dX6_factOf_1 : decode cX6_factOf 1 = .ok (.tableswitch 100 0 8 #[51, 56, 61, 66, 71, 76, 81, 90, 95], 51) := by decide +kernel
theorem dX6_factOf_52 : decode cX6_factOf 52 = .ok (.aload_n 1, 1) := by decide +kernel
theorem dX6_factOf_53 : decode cX6_factOf 53 = .ok (.getfield 148, 3) := by decide +kernel
theorem dX6_factOf_56 : decode cX6_factOf 56 = .ok (.ireturn, 1) := by decide +kernel
theorem dX6_factOf_57 : decode cX6_factOf 57 = .ok (.aload_n 1, 1) := by decide +kernel
theorem dX6_factOf_58 : decode cX6_factOf 58 = .ok (.getfield 151, 3) := by decide +kernel
theorem dX6_factOf_61 : decode cX6_factOf 61 = .ok (.ireturn, 1) := by decide +kernel
theorem dX6_factOf_62 : decode cX6_factOf 62 = .ok (.aload_n 1, 1) := by decide +kernel
theorem dX6_factOf_63 : decode cX6_factOf 63 = .ok (.getfield 154, 3) := by decide +kernel
theorem dX6_factOf_66 : decode cX6_factOf 66 = .ok (.ireturn, 1) := by decide +kernel
theorem dX6_factOf_67 : decode cX6_factOf 67 = .ok (.aload_n 1, 1) := by decide +kernel
theorem dX6_factOf_68 : decode cX6_factOf 68 = .ok (.getfield 96, 3) := by decide +kernel
theorem dX6_factOf_71 : decode cX6_factOf 71 = .ok (.ireturn, 1) := by decide +kernel
theorem dX6_factOf_72 : decode cX6_factOf 72 = .ok (.aload_n 1, 1) := by decide +kernel
theorem dX6_factOf_73 : decode cX6_factOf 73 = .ok (.getfield 157, 3) := by decide +kernel
theorem dX6_factOf_76 : decode cX6_factOf 76 = .ok (.ireturn, 1) := by decide +kernel
theorem dX6_factOf_77 : decode cX6_factOf 77 = .ok (.aload_n 1, 1) := by decide +kernel
theorem dX6_factOf_78 : decode cX6_factOf 78 = .ok (.getfield 83, 3) := by decide +kernel
theorem dX6_factOf_81 : decode cX6_factOf 81 = .ok (.ireturn, 1) := by decide +kernel
theorem dX6_factOf_82 : decode cX6_factOf 82 = .ok (.aload_n 0, 1) := by decide +kernel
theorem dX6_factOf_83 : decode cX6_factOf 83 = .ok (.aload_n 1, 1) := by decide +kernel
theorem dX6_factOf_84 : decode cX6_factOf 84 = .ok (.getfield 83, 3) := by decide +kernel
theorem dX6_factOf_87 : decode cX6_factOf 87 = .ok (.invokevirtual 99, 3) := by decide +kernel
theorem dX6_factOf_90 : decode cX6_factOf 90 = .ok (.ireturn, 1) := by decide +kernel
theorem dX6_factOf_91 : decode cX6_factOf 91 = .ok (.aload_n 1, 1) := by decide +kernel
theorem dX6_factOf_92 : decode cX6_factOf 92 = .ok (.getfield 90, 3) := by decide +kernel
theorem dX6_factOf_95 : decode cX6_factOf 95 = .ok (.ireturn, 1) := by decide +kernel
theorem dX6_factOf_96 : decode cX6_factOf 96 = .ok (.aload_n 1, 1) := by decide +kernel
theorem dX6_factOf_97 : decode cX6_factOf 97 = .ok (.getfield 160, 3) := by decide +kernel
theorem dX6_factOf_100 : decode cX6_factOf 100 = .ok (.ireturn, 1) := by decide +kernel
theorem dX6_factOf_101 : decode cX6_factOf 101 = .ok (.ldc 163, 2) := by decide +kernel
theorem dX6_factOf_103 : decode cX6_factOf 103 = .ok (.ireturn, 1) := by decide +kernel
theorem dX6_sumOf_0 : decode cX6_sumOf 0 = .ok (.iconst 0, 1) := by decide +kernel
theorem dX6_sumOf_1 : decode cX6_sumOf 1 = .ok (.istore_n 2, 1) := by decide +kernel
theorem dX6_sumOf_2 : decode cX6_sumOf 2 = .ok (.aload_n 0, 1) := by decide +kernel
theorem dX6_sumOf_3 : decode cX6_sumOf 3 = .ok (.getfield 20, 3) := by decide +kernel
theorem dX6_sumOf_6 : decode cX6_sumOf 6 = .ok (.astore_n 3, 1) := by decide +kernel
theorem dX6_sumOf_7 : decode cX6_sumOf 7 = .ok (.aload_n 3, 1) := by decide +kernel
theorem dX6_sumOf_8 : decode cX6_sumOf 8 = .ok (.arraylength, 1) := by decide +kernel
theorem dX6_sumOf_9 : decode cX6_sumOf 9 = .ok (.istore 4, 2) := by decide +kernel
theorem dX6_sumOf_11 : decode cX6_sumOf 11 = .ok (.iconst 0, 1) := by decide +kernel
theorem dX6_sumOf_12 : decode cX6_sumOf 12 = .ok (.istore 5, 2) := by decide +kernel
theorem dX6_sumOf_14 : decode cX6_sumOf 14 = .ok (.iload 5, 2) := by decide +kernel
theorem dX6_sumOf_16 : decode cX6_sumOf 16 = .ok (.iload 4, 2) := by decide +kernel
theorem dX6_sumOf_18 : decode cX6_sumOf 18 = .ok (.if_icmp .ge 25, 3) := by decide +kernel
theorem dX6_sumOf_21 : decode cX6_sumOf 21 = .ok (.aload_n 3, 1) := by decide +kernel
theorem dX6_sumOf_22 : decode cX6_sumOf 22 = .ok (.iload 5, 2) := by decide +kernel
theorem dX6_sumOf_24 : decode cX6_sumOf 24 = .ok (.aaload, 1) := by decide +kernel
theorem dX6_sumOf_25 : decode cX6_sumOf 25 = .ok (.astore 6, 2) := by decide +kernel
theorem dX6_sumOf_27 : decode cX6_sumOf 27 = .ok (.iload_n 2, 1) := by decide +kernel
theorem dX6_sumOf_28 : decode cX6_sumOf 28 = .ok (.aload_n 0, 1) := by decide +kernel
theorem dX6_sumOf_29 : decode cX6_sumOf 29 = .ok (.aload 6, 2) := by decide +kernel
theorem dX6_sumOf_31 : decode cX6_sumOf 31 = .ok (.iload_n 1, 1) := by decide +kernel
theorem dX6_sumOf_32 : decode cX6_sumOf 32 = .ok (.invokevirtual 164, 3) := by decide +kernel
theorem dX6_sumOf_35 : decode cX6_sumOf 35 = .ok (.iadd, 1) := by decide +kernel
theorem dX6_sumOf_36 : decode cX6_sumOf 36 = .ok (.istore_n 2, 1) := by decide +kernel
theorem dX6_sumOf_37 : decode cX6_sumOf 37 = .ok (.iinc 5 1, 3) := by decide +kernel
theorem dX6_sumOf_40 : decode cX6_sumOf 40 = .ok (.goto (-26), 3) := by decide +kernel
theorem dX6_sumOf_43 : decode cX6_sumOf 43 = .ok (.iload_n 2, 1) := by decide +kernel
theorem dX6_sumOf_44 : decode cX6_sumOf 44 = .ok (.ireturn, 1) := by decide +kernel
theorem dX6_sumOfTold_0 : decode cX6_sumOfTold 0 = .ok (.iconst 0, 1) := by decide +kernel
theorem dX6_sumOfTold_1 : decode cX6_sumOfTold 1 = .ok (.istore_n 1, 1) := by decide +kernel
theorem dX6_sumOfTold_2 : decode cX6_sumOfTold 2 = .ok (.aload_n 0, 1) := by decide +kernel
theorem dX6_sumOfTold_3 : decode cX6_sumOfTold 3 = .ok (.getfield 20, 3) := by decide +kernel
theorem dX6_sumOfTold_6 : decode cX6_sumOfTold 6 = .ok (.astore_n 2, 1) := by decide +kernel
theorem dX6_sumOfTold_7 : decode cX6_sumOfTold 7 = .ok (.aload_n 2, 1) := by decide +kernel
theorem dX6_sumOfTold_8 : decode cX6_sumOfTold 8 = .ok (.arraylength, 1) := by decide +kernel
theorem dX6_sumOfTold_9 : decode cX6_sumOfTold 9 = .ok (.istore_n 3, 1) := by decide +kernel
theorem dX6_sumOfTold_10 : decode cX6_sumOfTold 10 = .ok (.iconst 0, 1) := by decide +kernel
theorem dX6_sumOfTold_11 : decode cX6_sumOfTold 11 = .ok (.istore 4, 2) := by decide +kernel
theorem dX6_sumOfTold_13 : decode cX6_sumOfTold 13 = .ok (.iload 4, 2) := by decide +kernel
theorem dX6_sumOfTold_15 : decode cX6_sumOfTold 15 = .ok (.iload_n 3, 1) := by decide +kernel
theorem dX6_sumOfTold_16 : decode cX6_sumOfTold 16 = .ok (.if_icmp .ge 26, 3) := by decide +kernel
theorem dX6_sumOfTold_19 : decode cX6_sumOfTold 19 = .ok (.aload_n 2, 1) := by decide +kernel
theorem dX6_sumOfTold_20 : decode cX6_sumOfTold 20 = .ok (.iload 4, 2) := by decide +kernel
theorem dX6_sumOfTold_22 : decode cX6_sumOfTold 22 = .ok (.aaload, 1) := by decide +kernel
theorem dX6_sumOfTold_23 : decode cX6_sumOfTold 23 = .ok (.astore 5, 2) := by decide +kernel
theorem dX6_sumOfTold_25 : decode cX6_sumOfTold 25 = .ok (.iload_n 1, 1) := by decide +kernel
theorem dX6_sumOfTold_26 : decode cX6_sumOfTold 26 = .ok (.aload 5, 2) := by decide +kernel
theorem dX6_sumOfTold_28 : decode cX6_sumOfTold 28 = .ok (.getfield 102, 3) := by decide +kernel
theorem dX6_sumOfTold_31 : decode cX6_sumOfTold 31 = .ok (.getfield 132, 3) := by decide +kernel
theorem dX6_sumOfTold_34 : decode cX6_sumOfTold 34 = .ok (.iadd, 1) := by decide +kernel
theorem dX6_sumOfTold_35 : decode cX6_sumOfTold 35 = .ok (.istore_n 1, 1) := by decide +kernel
theorem dX6_sumOfTold_36 : decode cX6_sumOfTold 36 = .ok (.iinc 4 1, 3) := by decide +kernel
theorem dX6_sumOfTold_39 : decode cX6_sumOfTold 39 = .ok (.goto (-26), 3) := by decide +kernel
theorem dX6_sumOfTold_42 : decode cX6_sumOfTold 42 = .ok (.iload_n 1, 1) := by decide +kernel
theorem dX6_sumOfTold_43 : decode cX6_sumOfTold 43 = .ok (.ireturn, 1) := by decide +kernel
theorem dX6_gaugesWithGap_0 : decode cX6_gaugesWithGap 0 = .ok (.iconst 0, 1) := by decide +kernel
theorem dX6_gaugesWithGap_1 : decode cX6_gaugesWithGap 1 = .ok (.istore_n 1, 1) := by decide +kernel
theorem dX6_gaugesWithGap_2 : decode cX6_gaugesWithGap 2 = .ok (.aload_n 0, 1) := by decide +kernel
theorem dX6_gaugesWithGap_3 : decode cX6_gaugesWithGap 3 = .ok (.getfield 20, 3) := by decide +kernel
theorem dX6_gaugesWithGap_6 : decode cX6_gaugesWithGap 6 = .ok (.astore_n 2, 1) := by decide +kernel
theorem dX6_gaugesWithGap_7 : decode cX6_gaugesWithGap 7 = .ok (.aload_n 2, 1) := by decide +kernel
theorem dX6_gaugesWithGap_8 : decode cX6_gaugesWithGap 8 = .ok (.arraylength, 1) := by decide +kernel
theorem dX6_gaugesWithGap_9 : decode cX6_gaugesWithGap 9 = .ok (.istore_n 3, 1) := by decide +kernel
theorem dX6_gaugesWithGap_10 : decode cX6_gaugesWithGap 10 = .ok (.iconst 0, 1) := by decide +kernel
theorem dX6_gaugesWithGap_11 : decode cX6_gaugesWithGap 11 = .ok (.istore 4, 2) := by decide +kernel
theorem dX6_gaugesWithGap_13 : decode cX6_gaugesWithGap 13 = .ok (.iload 4, 2) := by decide +kernel
theorem dX6_gaugesWithGap_15 : decode cX6_gaugesWithGap 15 = .ok (.iload_n 3, 1) := by decide +kernel
theorem dX6_gaugesWithGap_16 : decode cX6_gaugesWithGap 16 = .ok (.if_icmp .ge 26, 3) := by decide +kernel
theorem dX6_gaugesWithGap_19 : decode cX6_gaugesWithGap 19 = .ok (.aload_n 2, 1) := by decide +kernel
theorem dX6_gaugesWithGap_20 : decode cX6_gaugesWithGap 20 = .ok (.iload 4, 2) := by decide +kernel
theorem dX6_gaugesWithGap_22 : decode cX6_gaugesWithGap 22 = .ok (.aaload, 1) := by decide +kernel
theorem dX6_gaugesWithGap_23 : decode cX6_gaugesWithGap 23 = .ok (.astore 5, 2) := by decide +kernel
theorem dX6_gaugesWithGap_25 : decode cX6_gaugesWithGap 25 = .ok (.aload 5, 2) := by decide +kernel
theorem dX6_gaugesWithGap_27 : decode cX6_gaugesWithGap 27 = .ok (.invokevirtual 168, 3) := by decide +kernel
theorem dX6_gaugesWithGap_30 : decode cX6_gaugesWithGap 30 = .ok (.ifCond .eq 6, 3) := by decide +kernel
theorem dX6_gaugesWithGap_33 : decode cX6_gaugesWithGap 33 = .ok (.iinc 1 1, 3) := by decide +kernel
theorem dX6_gaugesWithGap_36 : decode cX6_gaugesWithGap 36 = .ok (.iinc 4 1, 3) := by decide +kernel
theorem dX6_gaugesWithGap_39 : decode cX6_gaugesWithGap 39 = .ok (.goto (-26), 3) := by decide +kernel
theorem dX6_gaugesWithGap_42 : decode cX6_gaugesWithGap 42 = .ok (.iload_n 1, 1) := by decide +kernel
theorem dX6_gaugesWithGap_43 : decode cX6_gaugesWithGap 43 = .ok (.ireturn, 1) := by decide +kernel
end
section
/-! MEMORY AS A FUNCTION: the cells of the world, by address; the domain A never changes (but in constructors). -/
abbrev GG : Type := va_G × (Nat → ClassId)
abbrev MM : Type := Nat → va_E
abbrev tysOf (g : GG) : List (ClassId × FieldType) := [(g.2 0, .char), (g.2 1, .int), (g.2 2, .boolean), (g.2 3, .object RX0), (g.2 4, .object RX5), (g.2 5, .object RX6)]
def KK (g : GG) (U : State) : Prop := va_K g.1 vwCl (tysOf g) U
def HD (g : GG) (A : Nat → Prop) (M : MM) (H : Heap) : Prop := ∀ a, A a → va_at g.1 vwCl (a, M a) H
theorem HD.one {g : GG} {A : Nat → Prop} {M : MM} {H : Heap} (h : HD g A M H) {a : Nat} (hA : A a) : va_P g.1 vwCl [(a, M a)] H := by
  intro k q hk
  cases k with
  | zero => cases hk; exact h a hA
  | succ k => simp at hk
theorem HD.put {g : GG} {A : Nat → Prop} {M : MM} {H H1 : Heap} (h : HD g A M H) {a : Nat} {e : va_E} (he : va_at g.1 vwCl (a, e) H1) (oq : ∀ q : Nat, q ≠ a → H1[q]? = H[q]?) : HD g A (va_up M a e) H1 := by
  intro b hb
  by_cases hba : b = a
  · subst hba
    rw [va_up_self]
    exact he
  · rw [va_up_ne _ _ hba]
    exact (h b hb).kept (oq b hba)
theorem KK.moved {g : GG} {u U : State} (hvm : u.vm.Alike U.vm) (h : KK g u) : KK g U := va_K.moved hvm h
abbrev PreM (vs : List Value) (g : GG) (A : Nat → Prop) (M : MM) : Array Value → State → Prop := va_Pc vs (fun U => HD g A M U.heap ∧ KK g U)
abbrev BB (g : GG) (A : Nat → Prop) : MM → State → Prop := fun M' t => HD g A M' t.heap ∧ KK g t
abbrev PosI (post : Int32 → MM → Prop) (g : GG) (A : Nat → Prop) := va_Qi post (BB g A) A
abbrev PosV (post : MM → Prop) (g : GG) (A : Nat → Prop) := va_Qv post (BB g A) A
abbrev PosQ (post : Option Nat → MM → Prop) (g : GG) (A : Nat → Prop) := va_Qq post (BB g A) A
abbrev rmD (d : Nat) : Room := { frames := d, cells := 0, slots := 0, locals := 40 * d }
section ROWS
variable {p : Program} {l : Launch} {e : Env} {R : Room} {s : State} {m : MethodId} {args : Array Value} {below : List Frame} {meth : Method} {c : Code} {H H0 : Heap} {locs : List Loc} {cells slots : Nat} {Q : State → Prop} {cc : ByteArray} {pc : Nat} {ls : Array Slot} {rest : List Value} {g : GG} {A : Nat → Prop} {M : MM} {a : Nat}
theorem m_get (hx : p.tables.exec = Jvm.exec) (hb : c.code = cc) {own C : String} {T : u_T} {N ci index : Nat} {Ts : List Cond} (hts : ∀ w ∈ Ts, w.before args s = true) (hin : ∀ w ∈ u_ws C T N, w ∈ Ts) (hown : s.vm.findClass own = some m.cls) (hK : KK g s) (hM : HD g A M H) (hA : A a) {fs : List Value} (he : M a = .inr (ci, fs)) (hc : vwCl[ci]? = some (C, T, N)) (k : Nat) (hk : k < N) (hlink : (Cond.fieldLink own index (T k).1 (T k).2.1 (T k).2.2.1).before args s = true) {v : Value} (hv : fs[k]? = some v) (hdg : decode cc pc = .ok (.getfield index, 3))
    (kk : W p l e R s m args below meth c H locs cells slots Q (F0 m (pc + 3) ls (v :: rest))) : W p l e R s m args below meth c H locs cells slots Q (F0 m pc ls (.ref a :: rest)) :=
  va_get hx hb hts hin hown hK (hM.one hA) 0 (fs := fs) (by rw [he]; rfl) hc k hk hlink (fun _ h => h) hv hdg kk
theorem m_put (hx : p.tables.exec = Jvm.exec) (hb : c.code = cc) {own C : String} {T : u_T} {N ci index : Nat} {Ts : List Cond} (hts : ∀ w ∈ Ts, w.before args s = true) (hin : ∀ w ∈ u_ws C T N, w ∈ Ts) (ty0 : Nat → FieldType) (hty : ∀ k, k < N → parseFieldDescriptor (T k).2.2.1 = some (ty0 k)) (hnm : ∀ a, a < N → ∀ b, b < N → a ≠ b → (T a).2.1 ≠ (T b).2.1) (hown : s.vm.findClass own = some m.cls) (hK : KK g s) (hM : HD g A M H) (hS : va_S A H0 H locs) (hA : A a) {fs : List Value} (he : M a = .inr (ci, fs)) (hc : vwCl[ci]? = some (C, T, N)) (k : Nat) (hk : k < N) (hlink : (Cond.fieldLink own index (T k).1 (T k).2.1 (T k).2.2.1).before args s = true) (hfin : (T k).2.2.2 = false) {v : Value} (hn : narrow (ty0 k) v = v) (hfit : fits (ty0 k) v = true) (hl : k < fs.length) (hdg : decode cc pc = .ok (.putfield index, 3))
    (kk : ∀ (H1 : Heap) (locs1 : List Loc), HD g A (va_up M a (.inr (ci, fs.set k v))) H1 → va_S A H0 H1 locs1 → W p l e R s m args below meth c H1 locs1 cells slots Q (F0 m (pc + 3) ls rest)) : W p l e R s m args below meth c H locs cells slots Q (F0 m pc ls (v :: .ref a :: rest)) := by
  have hap := va_apart (own := own) hts hin ty0 hty hnm hK hc
  have h0 : va_at g.1 vwCl (a, .inr (ci, fs)) H := by rw [← he]; exact hM a hA
  obtain ⟨r, h1, cell, q1, q2, q3, q4⟩ := h0
  have hr : r = (C, T, N) := Option.some.inj (h1.symm.trans hc)
  subst hr
  obtain ⟨hSl, hfc, kC, hkC, hkind⟩ := hK.1 ci _ hc
  obtain ⟨cf, kf, fi, f, hi, hsl⟩ := hSl k hk
  have hlay := hts _ (hin _ (u_in_lay hk))
  unfold u_lay at hlay
  rw [if_neg (by rw [hfin]; decide)] at hlay
  have hst := (u_facts hfc hkC (u_lays hts hin hk) hi).1
  have h6 := u_store hfc hkC hkind hlay hi (hty k hk) hn hfit
  refine W.putK hx hb (f := f) ⟨hown, hlink, ⟨_, _, _, hi⟩, hst⟩ (by rw [q2]; exact h6) q1 q3 (by rw [hsl]; exact k2_hasslot (q4 k hk)) rfl rfl hdg fun H' e1 e2 e3 => ?_
  rw [hsl] at e1 ⊢
  exact kk H' _ (hM.put ⟨_, hc, t_OB.to (V := updV (vp_V fs) k v) ⟨_, e1, q2, q3, t_set q4 hap hk v⟩ (fun j _ => vp_updV_set hl v j)⟩ e3) (hS.put e2 e3 hA)
theorem m_iald (hx : p.tables.exec = Jvm.exec) (hb : c.code = cc) (hK : KK g s) (hM : HD g A M H) (hA : A a) {n : Nat} {f : Nat → Int32} (he : M a = .inl (g.2 1, n, .inl f)) {i : Int32} (hin : vp_in i n) (hdg : decode cc pc = .ok (.iaload, 1))
    (kk : W p l e R s m args below meth c H locs cells slots Q (F0 m (pc + 1) ls (.int (f i.toNatClampNeg) :: rest))) : W p l e R s m args below meth c H locs cells slots Q (F0 m pc ls (.int i :: .ref a :: rest)) :=
  va_iald hx hb hK (hM.one hA) 0 1 (cA := g.2 1) (n := n) (f := f) (by rw [he]; rfl) rfl hin hdg kk
theorem m_cald (hx : p.tables.exec = Jvm.exec) (hb : c.code = cc) (hK : KK g s) (hM : HD g A M H) (hA : A a) {n : Nat} {f : Nat → Int32} (he : M a = .inl (g.2 0, n, .inl f)) {i : Int32} (hin : vp_in i n) (hdg : decode cc pc = .ok (.caload, 1))
    (kk : W p l e R s m args below meth c H locs cells slots Q (F0 m (pc + 1) ls (.int (f i.toNatClampNeg) :: rest))) : W p l e R s m args below meth c H locs cells slots Q (F0 m pc ls (.int i :: .ref a :: rest)) :=
  va_cald hx hb hK (hM.one hA) 0 0 (cA := g.2 0) (n := n) (f := f) (by rw [he]; rfl) rfl hin hdg kk
theorem m_zald (hx : p.tables.exec = Jvm.exec) (hb : c.code = cc) (hK : KK g s) (hM : HD g A M H) (hA : A a) {n : Nat} {f : Nat → Int32} (he : M a = .inl (g.2 2, n, .inl f)) {i : Int32} (hin : vp_in i n) (hdg : decode cc pc = .ok (.baload, 1))
    (kk : W p l e R s m args below meth c H locs cells slots Q (F0 m (pc + 1) ls (.int (f i.toNatClampNeg) :: rest))) : W p l e R s m args below meth c H locs cells slots Q (F0 m pc ls (.int i :: .ref a :: rest)) :=
  va_zald hx hb hK (hM.one hA) 0 2 (cA := g.2 2) (n := n) (f := f) (by rw [he]; rfl) rfl hin hdg kk
theorem m_aald (hx : p.tables.exec = Jvm.exec) (hb : c.code = cc) (hK : KK g s) (hM : HD g A M H) (hA : A a) (t0 : Nat) {cA : ClassId} {C : String} {n : Nat} {f : Nat → Option Nat} (he : M a = .inl (cA, n, .inr (.inr (.inr (.inr f))))) (ht : (tysOf g)[t0]? = some (cA, .object C)) {i : Int32} (hin : vp_in i n) {r : Value} (hr : va_rf (f i.toNatClampNeg) = r) (hdg : decode cc pc = .ok (.aaload, 1))
    (kk : W p l e R s m args below meth c H locs cells slots Q (F0 m (pc + 1) ls (r :: rest))) : W p l e R s m args below meth c H locs cells slots Q (F0 m pc ls (.int i :: .ref a :: rest)) := by
  subst hr
  exact va_aldq hx hb hK (hM.one hA) 0 t0 (cA := cA) (n := n) (f := f) (C := C) (by rw [he]; rfl) ht hin hdg kk
theorem m_alen (hx : p.tables.exec = Jvm.exec) (hb : c.code = cc) (hK : KK g s) (hM : HD g A M H) (hA : A a) (t0 : Nat) {cA : ClassId} {x : vp_A} {ty : FieldType} (he : M a = .inl (cA, x)) (ht : (tysOf g)[t0]? = some (cA, ty)) {v : Int32} (hv : Int32.ofNat x.1 = v) (hdg : decode cc pc = .ok (.arraylength, 1))
    (kk : W p l e R s m args below meth c H locs cells slots Q (F0 m (pc + 1) ls (.int v :: rest))) : W p l e R s m args below meth c H locs cells slots Q (F0 m pc ls (.ref a :: rest)) :=
  va_alen hx hb hK (hM.one hA) 0 t0 (cA := cA) (x := x) (by rw [he]; rfl) ht hv hdg kk
theorem m_iast (hx : p.tables.exec = Jvm.exec) (hb : c.code = cc) (hK : KK g s) (hM : HD g A M H) (hS : va_S A H0 H locs) (hA : A a) {n : Nat} {f : Nat → Int32} (he : M a = .inl (g.2 1, n, .inl f)) {i x : Int32} (hin : vp_in i n) (hdg : decode cc pc = .ok (.iastore, 1))
    (kk : ∀ (H1 : Heap) (locs1 : List Loc), HD g A (va_up M a (.inl (g.2 1, n, .inl (upd f i.toNatClampNeg x)))) H1 → va_S A H0 H1 locs1 → W p l e R s m args below meth c H1 locs1 cells slots Q (F0 m (pc + 1) ls rest)) : W p l e R s m args below meth c H locs cells slots Q (F0 m pc ls (.int x :: .int i :: .ref a :: rest)) := by
  have h0 : H[a]? = some (vp_cell (g.2 1) (n, .inl f)) := by
    have := hM a hA
    rw [he] at this
    exact this
  refine W.iast hx hb h0 ((hK.2 1 _ rfl).1 n (fun j => .int (f j))) (fun q => by cases q) (by show ¬ (i < 0 ∨ (arrV _ _ _).slots.size ≤ _); rw [arrV_size]; exact hin) rfl rfl hdg fun H1 e1 z oq => ?_
  refine kk H1 _ (hM.put ?_ oq) (hS.put z oq hA)
  show H1[a]? = some (vp_cell _ _)
  rw [e1]
  rw [vp_cell_i, vp_cell_i, arrV_store]
  congr 2
  funext q
  by_cases hq : q = i.toNatClampNeg
  · subst hq
    simp [updV, upd]
  · simp [updV, upd, hq]
theorem m_zast (hx : p.tables.exec = Jvm.exec) (hb : c.code = cc) (hK : KK g s) (hM : HD g A M H) (hS : va_S A H0 H locs) (hA : A a) {n : Nat} {f : Nat → Int32} (he : M a = .inl (g.2 2, n, .inl f)) {i x : Int32} (hin : vp_in i n) (hdg : decode cc pc = .ok (.bastore, 1))
    (kk : ∀ (H1 : Heap) (locs1 : List Loc), HD g A (va_up M a (.inl (g.2 2, n, .inl (upd f i.toNatClampNeg (vp_nar .boolean x))))) H1 → va_S A H0 H1 locs1 → W p l e R s m args below meth c H1 locs1 cells slots Q (F0 m (pc + 1) ls rest)) : W p l e R s m args below meth c H locs cells slots Q (F0 m pc ls (.int x :: .int i :: .ref a :: rest)) := by
  have h0 : H[a]? = some (vp_cell (g.2 2) (n, .inl f)) := by
    have := hM a hA
    rw [he] at this
    exact this
  refine W.zast hx hb h0 ((hK.2 2 _ rfl).1 n (fun j => .int (f j))) (fun q => by cases q) (by show ¬ (i < 0 ∨ (arrV _ _ _).slots.size ≤ _); rw [arrV_size]; exact hin) rfl rfl hdg fun H1 e1 z oq => ?_
  refine kk H1 _ (hM.put ?_ oq) (hS.put z oq hA)
  show H1[a]? = some (vp_cell _ _)
  rw [e1]
  rw [vp_cell_i, vp_cell_i, arrV_store]
  congr 2
  funext q
  by_cases hq : q = i.toNatClampNeg
  · subst hq
    simp [updV, upd, vp_nar]
    try rfl
  · simp [updV, upd, hq]
theorem m_cast (hx : p.tables.exec = Jvm.exec) (hb : c.code = cc) (hK : KK g s) (hM : HD g A M H) (hS : va_S A H0 H locs) (hA : A a) {n : Nat} {f : Nat → Int32} (he : M a = .inl (g.2 0, n, .inl f)) {i x : Int32} (hin : vp_in i n) (hdg : decode cc pc = .ok (.castore, 1))
    (kk : ∀ (H1 : Heap) (locs1 : List Loc), HD g A (va_up M a (.inl (g.2 0, n, .inl (upd f i.toNatClampNeg (vp_nar .char x))))) H1 → va_S A H0 H1 locs1 → W p l e R s m args below meth c H1 locs1 cells slots Q (F0 m (pc + 1) ls rest)) : W p l e R s m args below meth c H locs cells slots Q (F0 m pc ls (.int x :: .int i :: .ref a :: rest)) := by
  have h0 : H[a]? = some (vp_cell (g.2 0) (n, .inl f)) := by
    have := hM a hA
    rw [he] at this
    exact this
  refine W.cast hx hb h0 ((hK.2 0 _ rfl).1 n (fun j => .int (f j))) (fun q => by cases q) (by show ¬ (i < 0 ∨ (arrV _ _ _).slots.size ≤ _); rw [arrV_size]; exact hin) rfl rfl hdg fun H1 e1 z oq => ?_
  refine kk H1 _ (hM.put ?_ oq) (hS.put z oq hA)
  show H1[a]? = some (vp_cell _ _)
  rw [e1]
  rw [vp_cell_i, vp_cell_i, arrV_store]
  congr 2
  funext q
  by_cases hq : q = i.toNatClampNeg
  · subst hq
    simp [updV, upd, vp_nar]
    try rfl
  · simp [updV, upd, hq]
theorem m_aast (hx : p.tables.exec = Jvm.exec) (hb : c.code = cc) (hK : KK g s) (hM : HD g A M H) (hS : va_S A H0 H locs) (hA : A a) (t0 ci : Nat) {cA : ClassId} {r : vw_C} {n v : Nat} {vs : List Value} {f : Nat → Option Nat} (he : M a = .inl (cA, n, .inr (.inr (.inr (.inr f))))) (ht : (tysOf g)[t0]? = some (cA, .object r.1)) (hAv : A v) (hv : M v = .inr (ci, vs)) (hc : vwCl[ci]? = some r) {i : Int32} (hin : vp_in i n) (hdg : decode cc pc = .ok (.aastore, 1))
    (kk : ∀ (H1 : Heap) (locs1 : List Loc), HD g A (va_up M a (.inl (cA, n, .inr (.inr (.inr (.inr (va_up f i.toNatClampNeg (some v)))))))) H1 → va_S A H0 H1 locs1 → W p l e R s m args below meth c H1 locs1 cells slots Q (F0 m (pc + 1) ls rest)) : W p l e R s m args below meth c H locs cells slots Q (F0 m pc ls (.ref v :: .int i :: .ref a :: rest)) := by
  have hlt : i.toNatClampNeg < n := Nat.not_le.mp fun q => hin (Or.inr q)
  have h0 : ¬ i < 0 := fun q => hin (Or.inl q)
  have ha : H[a]? = some (vp_cell cA (n, .inr (.inr (.inr (.inr f))))) := by
    have := hM a hA
    rw [he] at this
    exact this
  have hva : va_at g.1 vwCl (v, .inr (ci, vs)) H := by rw [← hv]; exact hM v hAv
  obtain ⟨r', hr', cellV, g1, g2, g3, -⟩ := hva
  have hcls := (hK.1 ci r hc).2
  obtain ⟨kA, comp, k1, k2, k3, -⟩ := (hK.2 t0 _ ht).2
  have hcomp : comp = g.1.1 ci := Option.some.inj (k3.symm.trans hcls.1)
  subst hcomp
  obtain ⟨kC, hkC, -⟩ := hcls.2
  refine W.aast hx hb ha (fun q h => by cases h) (fun h => by cases h) k1 k2 rfl hkC ⟨h0, by show _ < (arrV _ _ _).slots.size; rw [arrV_size]; exact hlt⟩ g1 (fun q h => by rw [g3] at h; cases h) (by rw [g2]; exact hkC) (by rw [g2]; exact va_assign hcls) rfl rfl hdg fun H1 e1 z oq => ?_
  refine kk H1 _ (hM.put ?_ oq) (hS.put z oq hA)
  show H1[a]? = some (vp_cell _ _)
  rw [e1]
  rw [vp_cell_q, vp_cell_q, arrV_store]
  congr 2
  funext q
  by_cases hq : q = i.toNatClampNeg
  · subst hq
    simp [updV, va_up, va_rf]
  · simp [updV, va_up, hq]
/-! the ends of a method -/
theorem m_iret {post : Int32 → MM → Prop} {v : Int32} (hx : p.tables.exec = Jvm.exec) (hb : c.code = cc) (hr : meth.sig.returnType = some .int) (hlk : meth.locks = false) (hK : KK g s) (hM : HD g A M H) (hS : va_S A s.heap H locs) (hdg : decode cc pc = .ok (.ireturn, 1)) (hp : post v M) : W p l e R s m args below meth c H locs cells slots (MQ below (PosI post g A) args s cells slots A) (F0 m pc ls [.int v]) :=
  W.iret hx hb hr (fun t ht hW => ⟨⟨v, M, rfl, hp, by rw [ht]; exact hM, KK.moved hW.alike hK⟩, hS.F ht⟩) hS.2.2 hdg hlk
theorem m_zret {post : Int32 → MM → Prop} {v : Int32} {ty : FieldType} (hx : p.tables.exec = Jvm.exec) (hb : c.code = cc) (hr : meth.sig.returnType = some ty) (hn : narrow ty (.int v) = .int v) (hlk : meth.locks = false) (hK : KK g s) (hM : HD g A M H) (hS : va_S A s.heap H locs) (hdg : decode cc pc = .ok (.ireturn, 1)) (hp : post v M) : W p l e R s m args below meth c H locs cells slots (MQ below (PosI post g A) args s cells slots A) (F0 m pc ls [.int v]) :=
  W.zret hx hb hr hn (fun t ht hW => ⟨⟨v, M, rfl, hp, by rw [ht]; exact hM, KK.moved hW.alike hK⟩, hS.F ht⟩) hS.2.2 hdg hlk
theorem m_vret {post : MM → Prop} (hx : p.tables.exec = Jvm.exec) (hb : c.code = cc) (hr : meth.sig.returnType = none) (hlk : meth.locks = false) (hK : KK g s) (hM : HD g A M H) (hS : va_S A s.heap H locs) (hdg : decode cc pc = .ok (.return_, 1)) (hp : post M) : W p l e R s m args below meth c H locs cells slots (MQ below (PosV post g A) args s cells slots A) (F0 m pc ls []) :=
  W.vret hx hb hr (fun t ht hW => ⟨⟨M, rfl, hp, by rw [ht]; exact hM, KK.moved hW.alike hK⟩, hS.F ht⟩) hS.2.2 hdg hlk
theorem m_aret {post : Option Nat → MM → Prop} {r : Option Nat} {v : Value} {n : String} (hv : v = va_rf r) (hx : p.tables.exec = Jvm.exec) (hb : c.code = cc) (hr : meth.sig.returnType = some (.object n)) (hlk : meth.locks = false) (hK : KK g s) (hM : HD g A M H) (hS : va_S A s.heap H locs) (hdg : decode cc pc = .ok (.areturn, 1)) (hp : post r M) : W p l e R s m args below meth c H locs cells slots (MQ below (PosQ post g A) args s cells slots A) (F0 m pc ls [v]) := by
  subst hv
  exact W.aret hx hb hr (Or.inl ⟨n, rfl⟩) (va_rf_or r) (fun t ht hW => ⟨⟨r, M, rfl, hp, by rw [ht]; exact hM, KK.moved hW.alike hK⟩, hS.F ht⟩) hS.2.2 hdg hlk
/-! calls -/
variable {y : MethodName} {bytes : ByteArray} {maxL nL n index ci : Nat} {ret : Option FieldType} {ws : List Cond} {rm : Room} {Ts : List Cond} {own C : String} {As : List Value} {st0 : List Value}
theorem preM_blind {vs : List Value} : FrameBlind (PreM vs g A M) := fun a U f mk q => ⟨q.1, q.2.1, KK.moved (u := U) (U := U.calling f mk a) (Vm.Alike.refl U.vm) q.2.2⟩
theorem m_recv (hK : KK g s) (hM : HD g A M H) (hA : A a) {fs : List Value} {q : vw_C} (he : M a = .inr (ci, fs)) (hc : vwCl[ci]? = some q) : ∃ cell : Cell, H[a]? = some cell ∧ cell.vm.isStatics = false ∧ s.vm.findClass q.1 = some cell.cls :=
  va_recv hK (hM.one hA) hc (q0 := 0) (fs := fs) (by rw [he]; rfl)
theorem m_callI {post : Int32 → MM → Prop} (S : CallFix p m c cc nL s args Ts own) (hMet : Met l y ws rm (PreM (.ref a :: As) g A M) (PosI post g A) 0 0 A) (cw : CallW R s args own C index y bytes maxL ret ws rm 0 0 n) (hK : KK g s) (hM : HD g A M H) (hS : va_S A H0 H locs) (hrc : ∃ cell : Cell, H[a]? = some cell ∧ cell.vm.isStatics = false ∧ s.vm.findClass C = some cell.cls) (hn : As.length = n) (hsz : ls.size = nL) (hst : st0 = As.reverse ++ .ref a :: rest) (hW : (rest.map fun v => v.category).sum ≤ 8) (hdg : decode cc pc = .ok (.invokevirtual index, 3)) (hf : cells ≤ R.cells ∧ slots ≤ R.slots)
    (kk : ∀ (r : Int32) (M1 : MM) (H1 : Heap) (locs1 : List Loc), post r M1 → HD g A M1 H1 → va_S A H0 H1 locs1 → W p l e R s m args below meth c H1 locs1 cells slots Q (F0 m (pc + 3) ls (.int r :: rest))) : W p l e R s m args below meth c H locs cells slots Q (F0 m pc ls st0) :=
  va_calli (va_runV (As := As) (rest := rest) S hMet cw ⟨preM_blind, hrc, fun U hU hWU => ⟨rfl, by rw [hU]; exact hM, KK.moved hWU.alike hK⟩⟩ rfl hn hsz hst (lv_room (pc := pc) (ls := ls) (rest := st0) (m := m) hW) hdg hf) hS (fun _ _ h => h) (fun _ h => h)
    (fun r u t H1 locs1 ht _ hp hB _ _ hS1 => kk r u H1 locs1 hp (by rw [← ht]; exact hB.1) hS1)
theorem m_callV {post : MM → Prop} (S : CallFix p m c cc nL s args Ts own) (hMet : Met l y ws rm (PreM (.ref a :: As) g A M) (PosV post g A) 0 0 A) (cw : CallW R s args own C index y bytes maxL ret ws rm 0 0 n) (hK : KK g s) (hM : HD g A M H) (hS : va_S A H0 H locs) (hrc : ∃ cell : Cell, H[a]? = some cell ∧ cell.vm.isStatics = false ∧ s.vm.findClass C = some cell.cls) (hn : As.length = n) (hsz : ls.size = nL) (hst : st0 = As.reverse ++ .ref a :: rest) (hW : (rest.map fun v => v.category).sum ≤ 8) (hdg : decode cc pc = .ok (.invokevirtual index, 3)) (hf : cells ≤ R.cells ∧ slots ≤ R.slots)
    (kk : ∀ (M1 : MM) (H1 : Heap) (locs1 : List Loc), post M1 → HD g A M1 H1 → va_S A H0 H1 locs1 → W p l e R s m args below meth c H1 locs1 cells slots Q (F0 m (pc + 3) ls rest)) : W p l e R s m args below meth c H locs cells slots Q (F0 m pc ls st0) :=
  va_callv (va_runV (As := As) (rest := rest) S hMet cw ⟨preM_blind, hrc, fun U hU hWU => ⟨rfl, by rw [hU]; exact hM, KK.moved hWU.alike hK⟩⟩ rfl hn hsz hst (lv_room (pc := pc) (ls := ls) (rest := st0) (m := m) hW) hdg hf) hS (fun _ _ h => h) (fun _ h => h)
    (fun u t H1 locs1 ht _ hp hB _ _ hS1 => kk u H1 locs1 hp (by rw [← ht]; exact hB.1) hS1)
theorem m_callQ {post : Option Nat → MM → Prop} (S : CallFix p m c cc nL s args Ts own) (hMet : Met l y ws rm (PreM (.ref a :: As) g A M) (PosQ post g A) 0 0 A) (cw : CallW R s args own C index y bytes maxL ret ws rm 0 0 n) (hK : KK g s) (hM : HD g A M H) (hS : va_S A H0 H locs) (hrc : ∃ cell : Cell, H[a]? = some cell ∧ cell.vm.isStatics = false ∧ s.vm.findClass C = some cell.cls) (hn : As.length = n) (hsz : ls.size = nL) (hst : st0 = As.reverse ++ .ref a :: rest) (hW : (rest.map fun v => v.category).sum ≤ 8) (hdg : decode cc pc = .ok (.invokevirtual index, 3)) (hf : cells ≤ R.cells ∧ slots ≤ R.slots)
    (kk : ∀ (r : Option Nat) (M1 : MM) (H1 : Heap) (locs1 : List Loc), post r M1 → HD g A M1 H1 → va_S A H0 H1 locs1 → W p l e R s m args below meth c H1 locs1 cells slots Q (F0 m (pc + 3) ls (va_rf r :: rest))) : W p l e R s m args below meth c H locs cells slots Q (F0 m pc ls st0) :=
  va_callq (va_runV (As := As) (rest := rest) S hMet cw ⟨preM_blind, hrc, fun U hU hWU => ⟨rfl, by rw [hU]; exact hM, KK.moved hWU.alike hK⟩⟩ rfl hn hsz hst (lv_room (pc := pc) (ls := ls) (rest := st0) (m := m) hW) hdg hf) hS (fun _ _ h => h) (fun _ h => h)
    (fun r u t H1 locs1 ht _ hp hB _ _ hS1 => kk r u H1 locs1 hp (by rw [← ht]; exact hB.1) hS1)
theorem m_callSI {post : Int32 → MM → Prop} (S : CallFix p m c cc nL s args Ts own) (hMet : Met l y ws rm (PreM As g A M) (PosI post g A) 0 0 A) (cw : CallB R s args own index y bytes maxL ret ws rm 0 0 n ∧ (Cond.static y).before args s = true) (hK : KK g s) (hM : HD g A M H) (hS : va_S A H0 H locs) (hn : As.length = n) (hsz : ls.size = nL) (hst : st0 = As.reverse ++ rest) (hW : (rest.map fun v => v.category).sum ≤ 8) (hdg : decode cc pc = .ok (.invokestatic index, 3)) (hf : cells ≤ R.cells ∧ slots ≤ R.slots)
    (kk : ∀ (r : Int32) (M1 : MM) (H1 : Heap) (locs1 : List Loc), post r M1 → HD g A M1 H1 → va_S A H0 H1 locs1 → W p l e R s m args below meth c H1 locs1 cells slots Q (F0 m (pc + 3) ls (.int r :: rest))) : W p l e R s m args below meth c H locs cells slots Q (F0 m pc ls st0) :=
  va_calli (va_runS (As := As) (rest := rest) S hMet cw ⟨preM_blind, fun U hU hWU => ⟨rfl, by rw [hU]; exact hM, KK.moved hWU.alike hK⟩⟩ rfl hn hsz hst (lv_room (pc := pc) (ls := ls) (rest := st0) (m := m) hW) hdg hf) hS (fun _ _ h => h) (fun _ h => h)
    (fun r u t H1 locs1 ht _ hp hB _ _ hS1 => kk r u H1 locs1 hp (by rw [← ht]; exact hB.1) hS1)
end ROWS
/-- a method by its walk -/
theorem mk_Met {l : Launch} {y : MethodName} {ws ws' : List Cond} {rm : Room} {cc : ByteArray} {maxL : Nat} {ret : Option FieldType} {g : GG} {A : Nat → Prop} {M : MM} {vs : List Value} {Qc : Array Value → State → Outcome → State → Prop} {mc ms : Nat} {own : String} (hw : ws = Cond.code y cc maxL ret :: ws') (hy : y.cls = own) (hpl : plainName own = true) (hlen : (lg_sl vs).length ≤ maxL)
    (body : ∀ (p : Program) (e : Env) (s : State) (m : MethodId) (below : List Frame) (meth : Method) (c : Code) (ls : Array Slot) (aa : Array Value) (Q : State → Prop), aa = vs.toArray → Q = MQ below Qc aa s mc ms A → p.tables.exec = Jvm.exec → c.code = cc → meth.sig.returnType = ret → meth.locks = false → c.maxLocals = maxL → s.vm.findClass own = some m.cls → (∀ w ∈ ws, w.before aa s = true) → KK g s → HD g A M s.heap → va_S A s.heap s.heap [] → lv_has ls maxL (lv_args 0 vs) → meth.name = y.name →
      W p l e rm s m aa below meth c s.heap [] 0 0 Q (F0 m 0 ls [])) : Met l y ws rm (PreM vs g A M) Qc mc ms A := by
  subst hy
  refine Met.ofW (cc := cc) (maxL := maxL) (ret := ret) hpl hw ?_
  intro p e s m args below meth c s₁ B hml hv
  obtain ⟨rfl, hM, hK⟩ := hv
  have hl := lv_entry vs (n := maxL) hlen
  have hts := atoms_spec (ws := ws) B.pre
  rw [lg_entry_eq]
  exact body p e s m below meth c _ _ _ rfl rfl B.exec B.bytes B.returns B.notSynchronized hml (findClass_of_methodNamed B.named) hts hK hM va_S.rf hl (name_of_methodNamed B.named B.method).1
end
section
/-! THE VALLEY: 35 cells in a row: the object b, its two arrays b+1, b+2, six gauges with their pages b+3 .. b+14, twenty runners b+15 .. b+34 (the array of runners is permuted by π). Its value: valley fields, gauge fields (page fields are 8..15), runner fields. -/
abbrev VV : Type := (Nat → Int32) × (Nat → Nat → Int32) × (Nat → Nat → Int32)
def up2 (f : Nat → Nat → Int32) (i k : Nat) (x : Int32) : Nat → Nat → Int32 := va_up f i (va_up (f i) k x)
abbrev vW (v : VV) (k : Nat) (x : Int32) : VV := (va_up v.1 k x, v.2.1, v.2.2)
abbrev vG (v : VV) (i k : Nat) (x : Int32) : VV := (v.1, up2 v.2.1 i k x, v.2.2)
abbrev vR (v : VV) (j k : Nat) (x : Int32) : VV := (v.1, v.2.1, up2 v.2.2 j k x)
abbrev gE (b i : Nat) (f : Nat → Int32) : va_E := .inr (0, [.int (f 0), .int (f 1), .int (f 2), .int (f 3), .int (f 4), .int (f 5), .int (f 6), .int (f 7), .ref (b + 4 + 2 * i)])
abbrev pE (f : Nat → Int32) : va_E := .inr (4, [.int (f 8), .int (f 9), .int (f 10), .int (f 11), .int (f 12), .int (f 13), .int (f 14), .int (f 15)])
abbrev rE (f : Nat → Int32) : va_E := .inr (5, [.int (f 0), .int (f 1), .int (f 2), .int (f 3), .int (f 4)])
abbrev wE (b : Nat) (f : Nat → Int32) : va_E := .inr (6, [.int (f 0), .int (f 1), .int (f 2), .int (f 3), .ref (b + 1), .ref (b + 2)])
abbrev gaE (g : GG) (b : Nat) : va_E := .inl (g.2 3, 6, .inr (.inr (.inr (.inr (fun i => some (b + 3 + 2 * i))))))
abbrev raE (g : GG) (b : Nat) (π : Nat → Nat) : va_E := .inl (g.2 4, 20, .inr (.inr (.inr (.inr (fun j => some (b + 15 + π j))))))
def Perm (n : Nat) (π : Nat → Nat) : Prop := (∀ j, j < n → π j < n) ∧ ∀ i j, i < n → j < n → π i = π j → i = j
def RepV (g : GG) (A : Nat → Prop) (M : MM) (b : Nat) (π : Nat → Nat) (v : VV) : Prop :=
  (∀ q, b ≤ q → q < b + 35 → A q) ∧ Perm 20 π ∧ M b = wE b v.1 ∧ M (b + 1) = gaE g b ∧ M (b + 2) = raE g b π ∧
  (∀ i, i < 6 → M (b + 3 + 2 * i) = gE b i (v.2.1 i)) ∧ (∀ i, i < 6 → M (b + 4 + 2 * i) = pE (v.2.1 i)) ∧ ∀ j, j < 20 → M (b + 15 + π j) = rE (v.2.2 j)
def EV (g : GG) (A : Nat → Prop) (M : MM) (b : Nat) (v : VV) : Prop := ∃ π, RepV g A M b π v
def FrV (b : Nat) (M0 M : MM) : Prop := ∀ q, ¬ (b ≤ q ∧ q < b + 35) → M q = M0 q
theorem FrV.rf {b : Nat} {M : MM} : FrV b M M := fun _ _ => rfl
theorem FrV.tr {b : Nat} {M0 M1 M2 : MM} (h1 : FrV b M0 M1) (h2 : FrV b M1 M2) : FrV b M0 M2 := fun q h => (h2 q h).trans (h1 q h)
section
variable {g : GG} {A : Nat → Prop} {M M0 M1 : MM} {b : Nat} {π : Nat → Nat} {v : VV}
theorem RepV.AW (h : RepV g A M b π v) : A b := h.1 b (by omega) (by omega)
theorem RepV.AGA (h : RepV g A M b π v) : A (b + 1) := h.1 _ (by omega) (by omega)
theorem RepV.ARA (h : RepV g A M b π v) : A (b + 2) := h.1 _ (by omega) (by omega)
theorem RepV.AG (h : RepV g A M b π v) {i : Nat} (hi : i < 6) : A (b + 3 + 2 * i) := h.1 _ (by omega) (by omega)
theorem RepV.AP (h : RepV g A M b π v) {i : Nat} (hi : i < 6) : A (b + 4 + 2 * i) := h.1 _ (by omega) (by omega)
theorem RepV.AR (h : RepV g A M b π v) {j : Nat} (hj : j < 20) : A (b + 15 + π j) := h.1 _ (by omega) (by have := h.2.1.1 j hj; omega)
theorem RepV.perm (h : RepV g A M b π v) : Perm 20 π := h.2.1
theorem RepV.W (h : RepV g A M b π v) : M b = wE b v.1 := h.2.2.1
theorem RepV.GA (h : RepV g A M b π v) : M (b + 1) = gaE g b := h.2.2.2.1
theorem RepV.RA (h : RepV g A M b π v) : M (b + 2) = raE g b π := h.2.2.2.2.1
theorem RepV.G (h : RepV g A M b π v) {i : Nat} (hi : i < 6) : M (b + 3 + 2 * i) = gE b i (v.2.1 i) := h.2.2.2.2.2.1 i hi
theorem RepV.P (h : RepV g A M b π v) {i : Nat} (hi : i < 6) : M (b + 4 + 2 * i) = pE (v.2.1 i) := h.2.2.2.2.2.2.1 i hi
theorem RepV.R (h : RepV g A M b π v) {j : Nat} (hj : j < 20) : M (b + 15 + π j) = rE (v.2.2 j) := h.2.2.2.2.2.2.2 j hj
theorem RepV.fr {b' : Nat} (h : RepV g A M0 b π v) (hF : FrV b' M0 M) (hd : b + 35 ≤ b' ∨ b' + 35 ≤ b) : RepV g A M b π v := by
  obtain ⟨h1, h2, h3, h4, h5, h6, h7, h8⟩ := h
  refine ⟨h1, h2, ?_, ?_, ?_, fun i hi => ?_, fun i hi => ?_, fun j hj => ?_⟩
  · rw [hF _ (by omega)]; exact h3
  · rw [hF _ (by omega)]; exact h4
  · rw [hF _ (by omega)]; exact h5
  · rw [hF _ (by omega)]; exact h6 i hi
  · rw [hF _ (by omega)]; exact h7 i hi
  · have := h2.1 j hj
    rw [hF _ (by omega)]; exact h8 j hj
theorem FrV.up (hF : FrV b M0 M) {a : Nat} {e : va_E} (h1 : b ≤ a) (h2 : a < b + 35) : FrV b M0 (va_up M a e) := fun q h => by
  rw [va_up_ne _ _ (by omega)]
  exact hF q h
theorem RepV.setW (h : RepV g A M b π v) {f : Nat → Int32} : RepV g A (va_up M b (wE b f)) b π (f, v.2) := by
  obtain ⟨h1, h2, h3, h4, h5, h6, h7, h8⟩ := h
  refine ⟨h1, h2, va_up_self _ _ _, ?_, ?_, fun i hi => ?_, fun i hi => ?_, fun j hj => ?_⟩
  · rw [va_up_ne _ _ (by omega)]; exact h4
  · rw [va_up_ne _ _ (by omega)]; exact h5
  · rw [va_up_ne _ _ (by omega)]; exact h6 i hi
  · rw [va_up_ne _ _ (by omega)]; exact h7 i hi
  · rw [va_up_ne _ _ (by omega)]; exact h8 j hj
theorem RepV.setRA (h : RepV g A M b π v) {π' : Nat → Nat} {r' : Nat → Nat → Int32} (hp : Perm 20 π') (hr : ∀ j, j < 20 → ∃ k, k < 20 ∧ π' j = π k ∧ r' j = v.2.2 k) : RepV g A (va_up M (b + 2) (raE g b π')) b π' (v.1, v.2.1, r') := by
  obtain ⟨h1, h2, h3, h4, h5, h6, h7, h8⟩ := h
  refine ⟨h1, hp, ?_, ?_, va_up_self _ _ _, fun i hi => ?_, fun i hi => ?_, fun j hj => ?_⟩
  · rw [va_up_ne _ _ (by omega)]; exact h3
  · rw [va_up_ne _ _ (by omega)]; exact h4
  · rw [va_up_ne _ _ (by omega)]; exact h6 i hi
  · rw [va_up_ne _ _ (by omega)]; exact h7 i hi
  · obtain ⟨k, hk, e1, e2⟩ := hr j hj
    rw [va_up_ne _ _ (by omega), e1]
    show M (b + 15 + π k) = rE (r' j)
    rw [e2]; exact h8 k hk
theorem RepV.setG (h : RepV g A M b π v) {i : Nat} (hi : i < 6) {f : Nat → Int32} (hf : ∀ k, ¬ k < 8 → f k = v.2.1 i k) : RepV g A (va_up M (b + 3 + 2 * i) (gE b i f)) b π (v.1, va_up v.2.1 i f, v.2.2) := by
  obtain ⟨h1, h2, h3, h4, h5, h6, h7, h8⟩ := h
  refine ⟨h1, h2, ?_, ?_, ?_, fun i' hi' => ?_, fun i' hi' => ?_, fun j hj => ?_⟩
  · rw [va_up_ne _ _ (by omega)]; exact h3
  · rw [va_up_ne _ _ (by omega)]; exact h4
  · rw [va_up_ne _ _ (by omega)]; exact h5
  · by_cases hq : i' = i
    · subst hq
      rw [va_up_self]
      show _ = gE b i' (va_up v.2.1 i' f i')
      rw [va_up_self]
    · rw [va_up_ne _ _ (by omega)]
      show _ = gE b i' (va_up v.2.1 i f i')
      rw [va_up_ne _ _ hq]
      exact h6 i' hi'
  · rw [va_up_ne _ _ (by omega)]
    show _ = pE (va_up v.2.1 i f i')
    by_cases hq : i' = i
    · subst hq
      rw [va_up_self, h7 i' hi']
      simp only [pE, hf _ (show ¬ 8 < 8 by omega), hf _ (show ¬ 9 < 8 by omega), hf _ (show ¬ 10 < 8 by omega), hf _ (show ¬ 11 < 8 by omega), hf _ (show ¬ 12 < 8 by omega), hf _ (show ¬ 13 < 8 by omega), hf _ (show ¬ 14 < 8 by omega), hf _ (show ¬ 15 < 8 by omega)]
    · rw [va_up_ne _ _ hq]
      exact h7 i' hi'
  · have := h2.1 j hj
    rw [va_up_ne _ _ (by omega)]; exact h8 j hj
theorem RepV.setP (h : RepV g A M b π v) {i : Nat} (hi : i < 6) {f : Nat → Int32} (hf : ∀ k, k < 8 → f k = v.2.1 i k) : RepV g A (va_up M (b + 4 + 2 * i) (pE f)) b π (v.1, va_up v.2.1 i f, v.2.2) := by
  obtain ⟨h1, h2, h3, h4, h5, h6, h7, h8⟩ := h
  refine ⟨h1, h2, ?_, ?_, ?_, fun i' hi' => ?_, fun i' hi' => ?_, fun j hj => ?_⟩
  · rw [va_up_ne _ _ (by omega)]; exact h3
  · rw [va_up_ne _ _ (by omega)]; exact h4
  · rw [va_up_ne _ _ (by omega)]; exact h5
  · rw [va_up_ne _ _ (by omega)]
    show _ = gE b i' (va_up v.2.1 i f i')
    by_cases hq : i' = i
    · subst hq
      rw [va_up_self, h6 i' hi']
      simp only [gE, hf _ (show 0 < 8 by omega), hf _ (show 1 < 8 by omega), hf _ (show 2 < 8 by omega), hf _ (show 3 < 8 by omega), hf _ (show 4 < 8 by omega), hf _ (show 5 < 8 by omega), hf _ (show 6 < 8 by omega), hf _ (show 7 < 8 by omega)]
    · rw [va_up_ne _ _ hq]
      exact h6 i' hi'
  · by_cases hq : i' = i
    · subst hq
      rw [va_up_self]
      show _ = pE (va_up v.2.1 i' f i')
      rw [va_up_self]
    · rw [va_up_ne _ _ (by omega)]
      show _ = pE (va_up v.2.1 i f i')
      rw [va_up_ne _ _ hq]
      exact h7 i' hi'
  · have := h2.1 j hj
    rw [va_up_ne _ _ (by omega)]; exact h8 j hj
theorem RepV.setR (h : RepV g A M b π v) {j : Nat} (hj : j < 20) {f : Nat → Int32} : RepV g A (va_up M (b + 15 + π j) (rE f)) b π (v.1, v.2.1, va_up v.2.2 j f) := by
  obtain ⟨h1, h2, h3, h4, h5, h6, h7, h8⟩ := h
  refine ⟨h1, h2, ?_, ?_, ?_, fun i hi => ?_, fun i hi => ?_, fun j' hj' => ?_⟩
  · rw [va_up_ne _ _ (by omega)]; exact h3
  · rw [va_up_ne _ _ (by omega)]; exact h4
  · rw [va_up_ne _ _ (by omega)]; exact h5
  · rw [va_up_ne _ _ (by omega)]; exact h6 i hi
  · rw [va_up_ne _ _ (by omega)]; exact h7 i hi
  · by_cases hq : j' = j
    · subst hq
      rw [va_up_self]
      show _ = rE (va_up v.2.2 j' f j')
      rw [va_up_self]
    · have hne : π j' ≠ π j := fun z => hq (h2.2 j' j hj' hj z)
      rw [va_up_ne _ _ (by omega)]
      show _ = rE (va_up v.2.2 j f j')
      rw [va_up_ne _ _ hq]
      exact h8 j' hj'
theorem wE_up {f : Nat → Int32} {k : Nat} (hk : k < 4) (x : Int32) : (Sum.inr (6, ([.int (f 0), .int (f 1), .int (f 2), .int (f 3), .ref (b + 1), .ref (b + 2)] : List Value).set k (.int x)) : va_E) = wE b (va_up f k x) := by
  match k, hk with
  | 0, _ => rfl
  | 1, _ => rfl
  | 2, _ => rfl
  | 3, _ => rfl
theorem gE_up {i : Nat} {f : Nat → Int32} {k : Nat} (hk : k < 8) (x : Int32) : (Sum.inr (0, ([.int (f 0), .int (f 1), .int (f 2), .int (f 3), .int (f 4), .int (f 5), .int (f 6), .int (f 7), .ref (b + 4 + 2 * i)] : List Value).set k (.int x)) : va_E) = gE b i (va_up f k x) := by
  match k, hk with
  | 0, _ => rfl
  | 1, _ => rfl
  | 2, _ => rfl
  | 3, _ => rfl
  | 4, _ => rfl
  | 5, _ => rfl
  | 6, _ => rfl
  | 7, _ => rfl
theorem pE_up {f : Nat → Int32} {k : Nat} (hk : k < 8) (x : Int32) : (Sum.inr (4, ([.int (f 8), .int (f 9), .int (f 10), .int (f 11), .int (f 12), .int (f 13), .int (f 14), .int (f 15)] : List Value).set k (.int x)) : va_E) = pE (va_up f (8 + k) x) := by
  match k, hk with
  | 0, _ => rfl
  | 1, _ => rfl
  | 2, _ => rfl
  | 3, _ => rfl
  | 4, _ => rfl
  | 5, _ => rfl
  | 6, _ => rfl
  | 7, _ => rfl
theorem rE_up {f : Nat → Int32} {k : Nat} (hk : k < 5) (x : Int32) : (Sum.inr (5, ([.int (f 0), .int (f 1), .int (f 2), .int (f 3), .int (f 4)] : List Value).set k (.int x)) : va_E) = rE (va_up f k x) := by
  match k, hk with
  | 0, _ => rfl
  | 1, _ => rfl
  | 2, _ => rfl
  | 3, _ => rfl
  | 4, _ => rfl
end
section VROWS
variable {p : Program} {l : Launch} {e : Env} {R : Room} {s : State} {m : MethodId} {args : Array Value} {below : List Frame} {meth : Method} {c : Code} {H H0 : Heap} {locs : List Loc} {cells slots : Nat} {Q : State → Prop} {cc : ByteArray} {pc : Nat} {ls : Array Slot} {rest : List Value} {g : GG} {A : Nat → Prop} {M M0 : MM} {own : String} {index : Nat} {Ts : List Cond} {b : Nat} {π : Nat → Nat} {v : VV}
theorem rv_getW (hx : p.tables.exec = Jvm.exec) (hb : c.code = cc) (hts : ∀ w ∈ Ts, w.before args s = true) (hin : ∀ w ∈ u_ws RX6 TX6 6, w ∈ Ts) (hown : s.vm.findClass own = some m.cls) (hK : KK g s) (hM : HD g A M H) (hR : RepV g A M b π v) (k : Nat) (hk : k < 4) (hlink : (Cond.fieldLink own index (TX6 k).1 (TX6 k).2.1 (TX6 k).2.2.1).before args s = true) (hdg : decode cc pc = .ok (.getfield index, 3)) (kk : W p l e R s m args below meth c H locs cells slots Q (F0 m (pc + 3) ls (.int (v.1 k) :: rest))) : W p l e R s m args below meth c H locs cells slots Q (F0 m pc ls (.ref (b) :: rest)) :=
  m_get (ci := 6) (C := RX6) (T := TX6) (N := 6) hx hb hts hin hown hK hM hR.AW hR.W rfl k (by omega) hlink (by match k, hk with
    | 0, _ => rfl
    | 1, _ => rfl
    | 2, _ => rfl
    | 3, _ => rfl) hdg kk
theorem rv_getG (hx : p.tables.exec = Jvm.exec) (hb : c.code = cc) (hts : ∀ w ∈ Ts, w.before args s = true) (hin : ∀ w ∈ u_ws RX0 TX0 9, w ∈ Ts) (hown : s.vm.findClass own = some m.cls) (hK : KK g s) (hM : HD g A M H) (hR : RepV g A M b π v) {i : Nat} (hi : i < 6) (k : Nat) (hk : k < 8) (hlink : (Cond.fieldLink own index (TX0 k).1 (TX0 k).2.1 (TX0 k).2.2.1).before args s = true) (hdg : decode cc pc = .ok (.getfield index, 3)) (kk : W p l e R s m args below meth c H locs cells slots Q (F0 m (pc + 3) ls (.int (v.2.1 i k) :: rest))) : W p l e R s m args below meth c H locs cells slots Q (F0 m pc ls (.ref (b + 3 + 2 * i) :: rest)) :=
  m_get (ci := 0) (C := RX0) (T := TX0) (N := 9) hx hb hts hin hown hK hM (hR.AG hi) (hR.G hi) rfl k (by omega) hlink (by match k, hk with
    | 0, _ => rfl
    | 1, _ => rfl
    | 2, _ => rfl
    | 3, _ => rfl
    | 4, _ => rfl
    | 5, _ => rfl
    | 6, _ => rfl
    | 7, _ => rfl) hdg kk
theorem rv_getP (hx : p.tables.exec = Jvm.exec) (hb : c.code = cc) (hts : ∀ w ∈ Ts, w.before args s = true) (hin : ∀ w ∈ u_ws RX4 TX4 8, w ∈ Ts) (hown : s.vm.findClass own = some m.cls) (hK : KK g s) (hM : HD g A M H) (hR : RepV g A M b π v) {i : Nat} (hi : i < 6) (k : Nat) (hk : k < 8) (hlink : (Cond.fieldLink own index (TX4 k).1 (TX4 k).2.1 (TX4 k).2.2.1).before args s = true) (hdg : decode cc pc = .ok (.getfield index, 3)) (kk : W p l e R s m args below meth c H locs cells slots Q (F0 m (pc + 3) ls (.int (v.2.1 i (8 + k)) :: rest))) : W p l e R s m args below meth c H locs cells slots Q (F0 m pc ls (.ref (b + 4 + 2 * i) :: rest)) :=
  m_get (ci := 4) (C := RX4) (T := TX4) (N := 8) hx hb hts hin hown hK hM (hR.AP hi) (hR.P hi) rfl k (by omega) hlink (by match k, hk with
    | 0, _ => rfl
    | 1, _ => rfl
    | 2, _ => rfl
    | 3, _ => rfl
    | 4, _ => rfl
    | 5, _ => rfl
    | 6, _ => rfl
    | 7, _ => rfl) hdg kk
theorem rv_getR (hx : p.tables.exec = Jvm.exec) (hb : c.code = cc) (hts : ∀ w ∈ Ts, w.before args s = true) (hin : ∀ w ∈ u_ws RX5 TX5 5, w ∈ Ts) (hown : s.vm.findClass own = some m.cls) (hK : KK g s) (hM : HD g A M H) (hR : RepV g A M b π v) {j : Nat} (hj : j < 20) (k : Nat) (hk : k < 5) (hlink : (Cond.fieldLink own index (TX5 k).1 (TX5 k).2.1 (TX5 k).2.2.1).before args s = true) (hdg : decode cc pc = .ok (.getfield index, 3)) (kk : W p l e R s m args below meth c H locs cells slots Q (F0 m (pc + 3) ls (.int (v.2.2 j k) :: rest))) : W p l e R s m args below meth c H locs cells slots Q (F0 m pc ls (.ref (b + 15 + π j) :: rest)) :=
  m_get (ci := 5) (C := RX5) (T := TX5) (N := 5) hx hb hts hin hown hK hM (hR.AR hj) (hR.R hj) rfl k (by omega) hlink (by match k, hk with
    | 0, _ => rfl
    | 1, _ => rfl
    | 2, _ => rfl
    | 3, _ => rfl
    | 4, _ => rfl) hdg kk
theorem rv_putW (hx : p.tables.exec = Jvm.exec) (hb : c.code = cc) (hts : ∀ w ∈ Ts, w.before args s = true) (hin : ∀ w ∈ u_ws RX6 TX6 6, w ∈ Ts) (hown : s.vm.findClass own = some m.cls) (hK : KK g s) (hM : HD g A M H) (hS : va_S A H0 H locs) (hR : RepV g A M b π v) (hF : FrV b M0 M) (k : Nat) (hk : k < 4) (hlink : (Cond.fieldLink own index (TX6 k).1 (TX6 k).2.1 (TX6 k).2.2.1).before args s = true) {x : Int32} (hdg : decode cc pc = .ok (.putfield index, 3)) (kk : ∀ (M1 : MM) (H1 : Heap) (locs1 : List Loc), HD g A M1 H1 → RepV g A M1 b π (vW v k x) → FrV b M0 M1 → va_S A H0 H1 locs1 → W p l e R s m args below meth c H1 locs1 cells slots Q (F0 m (pc + 3) ls rest)) : W p l e R s m args below meth c H locs cells slots Q (F0 m pc ls (.int x :: .ref (b) :: rest)) := by
  have e1 : (TX6 k).2.2.2 = false ∧ tyX6 k = .int := by
    match k, hk with
    | 0, _ => exact ⟨rfl, rfl⟩
    | 1, _ => exact ⟨rfl, rfl⟩
    | 2, _ => exact ⟨rfl, rfl⟩
    | 3, _ => exact ⟨rfl, rfl⟩
  refine m_put (ci := 6) (C := RX6) (T := TX6) (N := 6) hx hb hts hin tyX6 tyX6_ok nmX6 hown hK hM hS hR.AW hR.W rfl k (by omega) hlink e1.1 (by rw [e1.2]; rfl) (by rw [e1.2]; rfl) (by simp; omega) hdg (fun H1 locs1 hM1 hS1 => ?_)
  rw [wE_up hk x] at hM1
  exact kk _ H1 locs1 hM1 (hR.setW) (hF.up (by omega) (by omega)) hS1
theorem rv_putG (hx : p.tables.exec = Jvm.exec) (hb : c.code = cc) (hts : ∀ w ∈ Ts, w.before args s = true) (hin : ∀ w ∈ u_ws RX0 TX0 9, w ∈ Ts) (hown : s.vm.findClass own = some m.cls) (hK : KK g s) (hM : HD g A M H) (hS : va_S A H0 H locs) (hR : RepV g A M b π v) (hF : FrV b M0 M) {i : Nat} (hi : i < 6) (k : Nat) (hk : k < 8) (hlink : (Cond.fieldLink own index (TX0 k).1 (TX0 k).2.1 (TX0 k).2.2.1).before args s = true) {x : Int32} (hdg : decode cc pc = .ok (.putfield index, 3)) (kk : ∀ (M1 : MM) (H1 : Heap) (locs1 : List Loc), HD g A M1 H1 → RepV g A M1 b π (vG v i k x) → FrV b M0 M1 → va_S A H0 H1 locs1 → W p l e R s m args below meth c H1 locs1 cells slots Q (F0 m (pc + 3) ls rest)) : W p l e R s m args below meth c H locs cells slots Q (F0 m pc ls (.int x :: .ref (b + 3 + 2 * i) :: rest)) := by
  have e1 : (TX0 k).2.2.2 = false ∧ tyX0 k = .int := by
    match k, hk with
    | 0, _ => exact ⟨rfl, rfl⟩
    | 1, _ => exact ⟨rfl, rfl⟩
    | 2, _ => exact ⟨rfl, rfl⟩
    | 3, _ => exact ⟨rfl, rfl⟩
    | 4, _ => exact ⟨rfl, rfl⟩
    | 5, _ => exact ⟨rfl, rfl⟩
    | 6, _ => exact ⟨rfl, rfl⟩
    | 7, _ => exact ⟨rfl, rfl⟩
  refine m_put (ci := 0) (C := RX0) (T := TX0) (N := 9) hx hb hts hin tyX0 tyX0_ok nmX0 hown hK hM hS (hR.AG hi) (hR.G hi) rfl k (by omega) hlink e1.1 (by rw [e1.2]; rfl) (by rw [e1.2]; rfl) (by simp; omega) hdg (fun H1 locs1 hM1 hS1 => ?_)
  rw [gE_up hk x] at hM1
  exact kk _ H1 locs1 hM1 (hR.setG hi (fun q hq => va_up_ne _ _ (by omega))) (hF.up (by omega) (by omega)) hS1
theorem rv_putP (hx : p.tables.exec = Jvm.exec) (hb : c.code = cc) (hts : ∀ w ∈ Ts, w.before args s = true) (hin : ∀ w ∈ u_ws RX4 TX4 8, w ∈ Ts) (hown : s.vm.findClass own = some m.cls) (hK : KK g s) (hM : HD g A M H) (hS : va_S A H0 H locs) (hR : RepV g A M b π v) (hF : FrV b M0 M) {i : Nat} (hi : i < 6) (k : Nat) (hk : k < 8) (hlink : (Cond.fieldLink own index (TX4 k).1 (TX4 k).2.1 (TX4 k).2.2.1).before args s = true) {x : Int32} (hdg : decode cc pc = .ok (.putfield index, 3)) (kk : ∀ (M1 : MM) (H1 : Heap) (locs1 : List Loc), HD g A M1 H1 → RepV g A M1 b π (vG v i (8 + k) x) → FrV b M0 M1 → va_S A H0 H1 locs1 → W p l e R s m args below meth c H1 locs1 cells slots Q (F0 m (pc + 3) ls rest)) : W p l e R s m args below meth c H locs cells slots Q (F0 m pc ls (.int x :: .ref (b + 4 + 2 * i) :: rest)) := by
  have e1 : (TX4 k).2.2.2 = false ∧ tyX4 k = .int := by
    match k, hk with
    | 0, _ => exact ⟨rfl, rfl⟩
    | 1, _ => exact ⟨rfl, rfl⟩
    | 2, _ => exact ⟨rfl, rfl⟩
    | 3, _ => exact ⟨rfl, rfl⟩
    | 4, _ => exact ⟨rfl, rfl⟩
    | 5, _ => exact ⟨rfl, rfl⟩
    | 6, _ => exact ⟨rfl, rfl⟩
    | 7, _ => exact ⟨rfl, rfl⟩
  refine m_put (ci := 4) (C := RX4) (T := TX4) (N := 8) hx hb hts hin tyX4 tyX4_ok nmX4 hown hK hM hS (hR.AP hi) (hR.P hi) rfl k (by omega) hlink e1.1 (by rw [e1.2]; rfl) (by rw [e1.2]; rfl) (by simp; omega) hdg (fun H1 locs1 hM1 hS1 => ?_)
  rw [pE_up hk x] at hM1
  exact kk _ H1 locs1 hM1 (hR.setP hi (fun q hq => va_up_ne _ _ (by omega))) (hF.up (by omega) (by omega)) hS1
theorem rv_putR (hx : p.tables.exec = Jvm.exec) (hb : c.code = cc) (hts : ∀ w ∈ Ts, w.before args s = true) (hin : ∀ w ∈ u_ws RX5 TX5 5, w ∈ Ts) (hown : s.vm.findClass own = some m.cls) (hK : KK g s) (hM : HD g A M H) (hS : va_S A H0 H locs) (hR : RepV g A M b π v) (hF : FrV b M0 M) {j : Nat} (hj : j < 20) (k : Nat) (hk : k < 5) (hlink : (Cond.fieldLink own index (TX5 k).1 (TX5 k).2.1 (TX5 k).2.2.1).before args s = true) {x : Int32} (hdg : decode cc pc = .ok (.putfield index, 3)) (kk : ∀ (M1 : MM) (H1 : Heap) (locs1 : List Loc), HD g A M1 H1 → RepV g A M1 b π (vR v j k x) → FrV b M0 M1 → va_S A H0 H1 locs1 → W p l e R s m args below meth c H1 locs1 cells slots Q (F0 m (pc + 3) ls rest)) : W p l e R s m args below meth c H locs cells slots Q (F0 m pc ls (.int x :: .ref (b + 15 + π j) :: rest)) := by
  have e1 : (TX5 k).2.2.2 = false ∧ tyX5 k = .int := by
    match k, hk with
    | 0, _ => exact ⟨rfl, rfl⟩
    | 1, _ => exact ⟨rfl, rfl⟩
    | 2, _ => exact ⟨rfl, rfl⟩
    | 3, _ => exact ⟨rfl, rfl⟩
    | 4, _ => exact ⟨rfl, rfl⟩
  refine m_put (ci := 5) (C := RX5) (T := TX5) (N := 5) hx hb hts hin tyX5 tyX5_ok nmX5 hown hK hM hS (hR.AR hj) (hR.R hj) rfl k (by omega) hlink e1.1 (by rw [e1.2]; rfl) (by rw [e1.2]; rfl) (by simp; omega) hdg (fun H1 locs1 hM1 hS1 => ?_)
  rw [rE_up hk x] at hM1
  exact kk _ H1 locs1 hM1 (hR.setR hj) (hF.up (by omega) (by have := hR.perm.1 j hj; omega)) hS1
theorem rv_getga (hx : p.tables.exec = Jvm.exec) (hb : c.code = cc) (hts : ∀ w ∈ Ts, w.before args s = true) (hin : ∀ w ∈ u_ws RX6 TX6 6, w ∈ Ts) (hown : s.vm.findClass own = some m.cls) (hK : KK g s) (hM : HD g A M H) (hR : RepV g A M b π v) (hlink : (Cond.fieldLink own index (TX6 4).1 (TX6 4).2.1 (TX6 4).2.2.1).before args s = true) (hdg : decode cc pc = .ok (.getfield index, 3)) (kk : W p l e R s m args below meth c H locs cells slots Q (F0 m (pc + 3) ls (.ref (b + 1) :: rest))) : W p l e R s m args below meth c H locs cells slots Q (F0 m pc ls (.ref b :: rest)) :=
  m_get (ci := 6) (C := RX6) (T := TX6) (N := 6) hx hb hts hin hown hK hM hR.AW hR.W rfl 4 (by omega) hlink rfl hdg kk
theorem rv_getra (hx : p.tables.exec = Jvm.exec) (hb : c.code = cc) (hts : ∀ w ∈ Ts, w.before args s = true) (hin : ∀ w ∈ u_ws RX6 TX6 6, w ∈ Ts) (hown : s.vm.findClass own = some m.cls) (hK : KK g s) (hM : HD g A M H) (hR : RepV g A M b π v) (hlink : (Cond.fieldLink own index (TX6 5).1 (TX6 5).2.1 (TX6 5).2.2.1).before args s = true) (hdg : decode cc pc = .ok (.getfield index, 3)) (kk : W p l e R s m args below meth c H locs cells slots Q (F0 m (pc + 3) ls (.ref (b + 2) :: rest))) : W p l e R s m args below meth c H locs cells slots Q (F0 m pc ls (.ref b :: rest)) :=
  m_get (ci := 6) (C := RX6) (T := TX6) (N := 6) hx hb hts hin hown hK hM hR.AW hR.W rfl 5 (by omega) hlink rfl hdg kk
theorem rv_getpg (hx : p.tables.exec = Jvm.exec) (hb : c.code = cc) (hts : ∀ w ∈ Ts, w.before args s = true) (hin : ∀ w ∈ u_ws RX0 TX0 9, w ∈ Ts) (hown : s.vm.findClass own = some m.cls) (hK : KK g s) (hM : HD g A M H) (hR : RepV g A M b π v) {i : Nat} (hi : i < 6) (hlink : (Cond.fieldLink own index (TX0 8).1 (TX0 8).2.1 (TX0 8).2.2.1).before args s = true) (hdg : decode cc pc = .ok (.getfield index, 3)) (kk : W p l e R s m args below meth c H locs cells slots Q (F0 m (pc + 3) ls (.ref (b + 4 + 2 * i) :: rest))) : W p l e R s m args below meth c H locs cells slots Q (F0 m pc ls (.ref (b + 3 + 2 * i) :: rest)) :=
  m_get (ci := 0) (C := RX0) (T := TX0) (N := 9) hx hb hts hin hown hK hM (hR.AG hi) (hR.G hi) rfl 8 (by omega) hlink rfl hdg kk
theorem ald_ix {f : Nat → Option Nat} {i a : Nat} (hi : i < 2 ^ 31) (h : f i = some a) : va_rf (f (nI i).toNatClampNeg) = .ref a := by
  rw [nI_clamp hi, h]
  rfl
theorem rv_aldG (hx : p.tables.exec = Jvm.exec) (hb : c.code = cc) (hK : KK g s) (hM : HD g A M H) (hR : RepV g A M b π v) {i : Nat} (hi : i < 6) (hdg : decode cc pc = .ok (.aaload, 1)) (kk : W p l e R s m args below meth c H locs cells slots Q (F0 m (pc + 1) ls (.ref (b + 3 + 2 * i) :: rest))) : W p l e R s m args below meth c H locs cells slots Q (F0 m pc ls (.int (nI i) :: .ref (b + 1) :: rest)) :=
  m_aald hx hb hK hM hR.AGA 3 hR.GA rfl (vp_in_nI hi (by omega)) (r := .ref (b + 3 + 2 * i)) (by rw [nI_clamp (by omega)]; rfl) hdg kk
theorem rv_aldR (hx : p.tables.exec = Jvm.exec) (hb : c.code = cc) (hK : KK g s) (hM : HD g A M H) (hR : RepV g A M b π v) {j : Nat} (hj : j < 20) (hdg : decode cc pc = .ok (.aaload, 1)) (kk : W p l e R s m args below meth c H locs cells slots Q (F0 m (pc + 1) ls (.ref (b + 15 + π j) :: rest))) : W p l e R s m args below meth c H locs cells slots Q (F0 m pc ls (.int (nI j) :: .ref (b + 2) :: rest)) :=
  m_aald hx hb hK hM hR.ARA 4 hR.RA rfl (vp_in_nI hj (by omega)) (r := .ref (b + 15 + π j)) (by rw [nI_clamp (by omega)]; rfl) hdg kk
theorem rv_lenG (hx : p.tables.exec = Jvm.exec) (hb : c.code = cc) (hK : KK g s) (hM : HD g A M H) (hR : RepV g A M b π v) (hdg : decode cc pc = .ok (.arraylength, 1)) (kk : W p l e R s m args below meth c H locs cells slots Q (F0 m (pc + 1) ls (.int (nI 6) :: rest))) : W p l e R s m args below meth c H locs cells slots Q (F0 m pc ls (.ref (b + 1) :: rest)) :=
  m_alen hx hb hK hM hR.AGA 3 hR.GA rfl rfl hdg kk
theorem rv_lenR (hx : p.tables.exec = Jvm.exec) (hb : c.code = cc) (hK : KK g s) (hM : HD g A M H) (hR : RepV g A M b π v) (hdg : decode cc pc = .ok (.arraylength, 1)) (kk : W p l e R s m args below meth c H locs cells slots Q (F0 m (pc + 1) ls (.int (nI 20) :: rest))) : W p l e R s m args below meth c H locs cells slots Q (F0 m pc ls (.ref (b + 2) :: rest)) :=
  m_alen hx hb hK hM hR.ARA 4 hR.RA rfl rfl hdg kk
/-! calls by what they do to the valley -/
variable {a : Nat} {y : MethodName} {bytes : ByteArray} {maxL nL n : Nat} {ret : Option FieldType} {ws : List Cond} {rm : Room} {C : String} {As : List Value} {st0 : List Value}
theorem m_callRI {val : Int32} (S : CallFix p m c cc nL s args Ts own) (hMet : Met l y ws rm (PreM (.ref a :: As) g A M) (PosI (fun r M1 => r = val ∧ M1 = M) g A) 0 0 A) (cw : CallW R s args own C index y bytes maxL ret ws rm 0 0 n) (hK : KK g s) (hM : HD g A M H) (hS : va_S A H0 H locs) (hrc : ∃ cell : Cell, H[a]? = some cell ∧ cell.vm.isStatics = false ∧ s.vm.findClass C = some cell.cls) (hn : As.length = n) (hsz : ls.size = nL) (hst : st0 = As.reverse ++ .ref a :: rest) (hW : (rest.map fun v => v.category).sum ≤ 8) (hdg : decode cc pc = .ok (.invokevirtual index, 3)) (hf : cells ≤ R.cells ∧ slots ≤ R.slots)
    (kk : ∀ (H1 : Heap) (locs1 : List Loc), HD g A M H1 → va_S A H0 H1 locs1 → W p l e R s m args below meth c H1 locs1 cells slots Q (F0 m (pc + 3) ls (.int val :: rest))) : W p l e R s m args below meth c H locs cells slots Q (F0 m pc ls st0) :=
  m_callI S hMet cw hK hM hS hrc hn hsz hst hW hdg hf (fun r M1 H1 locs1 hp hM1 hS1 => by
    obtain ⟨h1, h2⟩ := hp
    rw [h1]
    rw [h2] at hM1
    exact kk H1 locs1 hM1 hS1)
theorem m_callRSI {val : Int32} (S : CallFix p m c cc nL s args Ts own) (hMet : Met l y ws rm (PreM As g A M) (PosI (fun r M1 => r = val ∧ M1 = M) g A) 0 0 A) (cw : CallB R s args own index y bytes maxL ret ws rm 0 0 n ∧ (Cond.static y).before args s = true) (hK : KK g s) (hM : HD g A M H) (hS : va_S A H0 H locs) (hn : As.length = n) (hsz : ls.size = nL) (hst : st0 = As.reverse ++ rest) (hW : (rest.map fun v => v.category).sum ≤ 8) (hdg : decode cc pc = .ok (.invokestatic index, 3)) (hf : cells ≤ R.cells ∧ slots ≤ R.slots)
    (kk : ∀ (H1 : Heap) (locs1 : List Loc), HD g A M H1 → va_S A H0 H1 locs1 → W p l e R s m args below meth c H1 locs1 cells slots Q (F0 m (pc + 3) ls (.int val :: rest))) : W p l e R s m args below meth c H locs cells slots Q (F0 m pc ls st0) :=
  m_callSI S hMet cw hK hM hS hn hsz hst hW hdg hf (fun r M1 H1 locs1 hp hM1 hS1 => by
    obtain ⟨h1, h2⟩ := hp
    rw [h1]
    rw [h2] at hM1
    exact kk H1 locs1 hM1 hS1)
theorem m_callRQ {val : Option Nat} {w : Value} (hw : va_rf val = w) (S : CallFix p m c cc nL s args Ts own) (hMet : Met l y ws rm (PreM (.ref a :: As) g A M) (PosQ (fun r M1 => r = val ∧ M1 = M) g A) 0 0 A) (cw : CallW R s args own C index y bytes maxL ret ws rm 0 0 n) (hK : KK g s) (hM : HD g A M H) (hS : va_S A H0 H locs) (hrc : ∃ cell : Cell, H[a]? = some cell ∧ cell.vm.isStatics = false ∧ s.vm.findClass C = some cell.cls) (hn : As.length = n) (hsz : ls.size = nL) (hst : st0 = As.reverse ++ .ref a :: rest) (hW : (rest.map fun v => v.category).sum ≤ 8) (hdg : decode cc pc = .ok (.invokevirtual index, 3)) (hf : cells ≤ R.cells ∧ slots ≤ R.slots)
    (kk : ∀ (H1 : Heap) (locs1 : List Loc), HD g A M H1 → va_S A H0 H1 locs1 → W p l e R s m args below meth c H1 locs1 cells slots Q (F0 m (pc + 3) ls (w :: rest))) : W p l e R s m args below meth c H locs cells slots Q (F0 m pc ls st0) :=
  m_callQ S hMet cw hK hM hS hrc hn hsz hst hW hdg hf (fun r M1 H1 locs1 hp hM1 hS1 => by
    obtain ⟨h1, h2⟩ := hp
    rw [h1, hw]
    rw [h2] at hM1
    exact kk H1 locs1 hM1 hS1)
end VROWS
end
section
/-! answers and values of the gauges' and the valley's methods, as the code has them -/
def gxn (n : Nat) (x : Int32) : Option Nat := if x < 0 ∨ n ≤ x.toNatClampNeg then none else some x.toNatClampNeg
theorem gxn_cases {n : Nat} (hn : n < 2 ^ 31) (x : Int32) : (gxn n x = none ∧ (x < 0 ∨ nI n ≤ x)) ∨ ∃ i, i < n ∧ x = nI i ∧ gxn n x = some i := by
  rcases pk_ix x hn with h | h | ⟨j, hj, rfl⟩
  · exact Or.inl ⟨by unfold gxn; rw [if_pos (Or.inl h)], Or.inl h⟩
  · refine Or.inl ⟨?_, Or.inr h⟩
    unfold gxn
    by_cases h0 : x < 0
    · rw [if_pos (Or.inl h0)]
    · obtain ⟨j, hj, rfl⟩ := nI_of h0
      rw [if_pos (Or.inr ?_)]
      rw [nI_clamp hj]
      exact (nI_leI hn hj).mp h
  · exact Or.inr ⟨j, hj, rfl, by unfold gxn; rw [if_neg (fun q => vp_in_nI hj hn q), nI_clamp (by omega)]⟩
def fellC (v : VV) (i : Nat) (am : Int32) : Int32 := am * v.2.1 i 0 * v.2.1 i 2 / 100
def tipC (v : VV) (i : Nat) (am : Int32) : Int32 := if 0 < v.2.1 i 1 then (v.2.1 i 4 + fellC v i am) / v.2.1 i 1 else 0
def catT (v : VV) (i : Nat) (f t : Int32) : VV :=
  let v1 := vG v i 6 (v.2.1 i 6 + f)
  let v2 := vG v1 i 4 (v1.2.1 i 4 + f)
  let v3 := vG v2 i 4 (v2.2.1 i 4 - t * v2.2.1 i 1)
  let v4 := vG v3 i 7 (v3.2.1 i 7 + t * v3.2.1 i 1)
  vG v4 i 5 (v4.2.1 i 5 + t)
def catC (v : VV) (i : Nat) (am : Int32) : VV := catT v i (fellC v i am) (tipC v i am)
theorem catch_end {g : GG} {A : Nat → Prop} {M0 M1 : MM} {b : Nat} {π : Nat → Nat} {v : VV} {i : Nat} {am f t : Int32} (hf : f = fellC v i am) (ht : t = tipC v i am) (hR : RepV g A M1 b π (catT v i f t)) (hF : FrV b M0 M1) : t = tipC v i am ∧ RepV g A M1 b π (catC v i am) ∧ FrV b M0 M1 := by
  subst hf
  subst ht
  exact ⟨rfl, hR, hF⟩
theorem Int32_nle {x y : Int32} : ¬ x ≤ y ↔ y < x := Int32.not_le
theorem Int32_nlt {x y : Int32} : ¬ x < y ↔ y ≤ x := Int32.not_lt
theorem c_nz {x : Int32} (h : ¬ x ≤ 0) : ¬ x = 0 := fun q => h (by rw [q]; decide)
theorem ite10 {P : Prop} [Decidable P] : ((if P then (1 : Int32) else 0) = 0) ↔ ¬ P := by
  by_cases h : P
  · simp [h]
  · simp [h]
def whC (v : VV) (t : Int32) : Int32 := if 0 < v.1 0 then t - t / v.1 0 * v.1 0 else 0
end
section
set_option maxHeartbeats 4000000 in
set_option maxRecDepth 100000 in
/-- the gap of a gauge -/
theorem k_X0_gap (l : Launch) (g : GG) (A : Nat → Prop) (M0 : MM) (b : Nat) (π : Nat → Nat) (v : VV) (i : Nat) (hR : RepV g A M0 b π v) (hi : i < 6) : Met l yX0_gap (Uw yX0_gap cX0_gap 1 (Option.some ClassFile.FieldType.int)) (rmD 0) (PreM [.ref (b + 3 + 2 * i)] g A M0) (PosI (fun r M1 => r = (v.2.1 i 5 - v.2.1 i 8) ∧ M1 = M0) g A) 0 0 A := by
  refine mk_Met (own := RX0) rfl rfl (by decide) (Nat.le_of_ble_eq_true rfl) ?_
  intro p e s m below meth c ls aa Q haa hQ hx hb hr hlk hml hown hts hK hM hS hl hnm
  obtain ⟨M, hMM⟩ : ∃ M, M = M0 := ⟨_, rfl⟩
  rw [← hMM] at hM hR
  have ht : ∀ w ∈ lw_good, w.before _ s = true := fun w h => hts w (List.mem_cons_of_mem _ h)
  have hF : FrV b M0 M := by rw [hMM]; exact FrV.rf
  have hl : lv_has ls 1 [(0, .ref (b + 3 + 2 * i))] := hl
  refine lv_aload_n hx hb dX0_gap_0 rfl (lv_at hl 0 rfl) ?_
  refine rv_getG hx hb ht ui_X0 hown hK hM hR hi 5 (by decide) (ht _ uw_130) dX0_gap_1 ?_
  refine lv_aload_n hx hb dX0_gap_4 rfl (lv_at hl 0 rfl) ?_
  refine rv_getpg hx hb ht ui_X0 hown hK hM hR hi (ht _ uw_136) dX0_gap_5 ?_
  refine rv_getP hx hb ht ui_X4 hown hK hM hR hi 0 (by decide) (ht _ uw_74) dX0_gap_8 ?_
  refine lv_isub hx hb dX0_gap_11 ?_
  subst hQ
  exact m_zret hx hb hr rfl hlk hK hM hS dX0_gap_12 (⟨rfl, hMM⟩)

set_option maxHeartbeats 4000000 in
set_option maxRecDepth 100000 in
/-- what it went on since the latest telling -/
theorem k_X0_untold (l : Launch) (g : GG) (A : Nat → Prop) (M0 : MM) (b : Nat) (π : Nat → Nat) (v : VV) (i : Nat) (hR : RepV g A M0 b π v) (hi : i < 6) : Met l yX0_untold (Uw yX0_untold cX0_untold 1 (Option.some ClassFile.FieldType.int)) (rmD 0) (PreM [.ref (b + 3 + 2 * i)] g A M0) (PosI (fun r M1 => r = (v.2.1 i 5 - v.2.1 i 10) ∧ M1 = M0) g A) 0 0 A := by
  refine mk_Met (own := RX0) rfl rfl (by decide) (Nat.le_of_ble_eq_true rfl) ?_
  intro p e s m below meth c ls aa Q haa hQ hx hb hr hlk hml hown hts hK hM hS hl hnm
  obtain ⟨M, hMM⟩ : ∃ M, M = M0 := ⟨_, rfl⟩
  rw [← hMM] at hM hR
  have ht : ∀ w ∈ lw_good, w.before _ s = true := fun w h => hts w (List.mem_cons_of_mem _ h)
  have hF : FrV b M0 M := by rw [hMM]; exact FrV.rf
  have hl : lv_has ls 1 [(0, .ref (b + 3 + 2 * i))] := hl
  refine lv_aload_n hx hb dX0_untold_0 rfl (lv_at hl 0 rfl) ?_
  refine rv_getG hx hb ht ui_X0 hown hK hM hR hi 5 (by decide) (ht _ uw_130) dX0_untold_1 ?_
  refine lv_aload_n hx hb dX0_untold_4 rfl (lv_at hl 0 rfl) ?_
  refine rv_getpg hx hb ht ui_X0 hown hK hM hR hi (ht _ uw_136) dX0_untold_5 ?_
  refine rv_getP hx hb ht ui_X4 hown hK hM hR hi 2 (by decide) (ht _ uw_81) dX0_untold_8 ?_
  refine lv_isub hx hb dX0_untold_11 ?_
  subst hQ
  exact m_zret hx hb hr rfl hlk hK hM hS dX0_untold_12 (⟨rfl, hMM⟩)

set_option maxHeartbeats 4000000 in
set_option maxRecDepth 100000 in
/-- an hour of rain for a gauge -/
theorem k_X0_catchRain (l : Launch) (g : GG) (A : Nat → Prop) (M0 : MM) (b : Nat) (π : Nat → Nat) (v : VV) (i : Nat) (am : Int32) (hR : RepV g A M0 b π v) (hi : i < 6) : Met l yX0_catchRain (Uw yX0_catchRain cX0_catchRain 4 (Option.some ClassFile.FieldType.int)) (rmD 0) (PreM [.ref (b + 3 + 2 * i), .int (am)] g A M0) (PosI (fun r M1 => r = tipC v i am ∧ RepV g A M1 b π (catC v i am) ∧ FrV b M0 M1) g A) 0 0 A := by
  refine mk_Met (own := RX0) rfl rfl (by decide) (Nat.le_of_ble_eq_true rfl) ?_
  intro p e s m below meth c ls aa Q haa hQ hx hb hr hlk hml hown hts hK hM hS hl hnm
  obtain ⟨M, hMM⟩ : ∃ M, M = M0 := ⟨_, rfl⟩
  rw [← hMM] at hM hR
  have ht : ∀ w ∈ lw_good, w.before _ s = true := fun w h => hts w (List.mem_cons_of_mem _ h)
  have hF : FrV b M0 M := by rw [hMM]; exact FrV.rf
  have hl : lv_has ls 4 [(0, .ref (b + 3 + 2 * i)), (1, .int (am))] := hl
  refine lv_iload_n hx hb dX0_catchRain_0 rfl (lv_at hl 1 rfl) ?_
  refine lv_aload_n hx hb dX0_catchRain_1 rfl (lv_at hl 0 rfl) ?_
  refine rv_getG hx hb ht ui_X0 hown hK hM hR hi 0 (by decide) (ht _ uw_115) dX0_catchRain_2 ?_
  refine lv_imul hx hb dX0_catchRain_5 ?_
  refine lv_aload_n hx hb dX0_catchRain_6 rfl (lv_at hl 0 rfl) ?_
  refine rv_getG hx hb ht ui_X0 hown hK hM hR hi 2 (by decide) (ht _ uw_121) dX0_catchRain_7 ?_
  refine lv_imul hx hb dX0_catchRain_10 ?_
  refine lv_bipush (v := 100) hx hb dX0_catchRain_11 (by first | rfl | decide) ?_
  refine lv_idiv hx hb dX0_catchRain_13 (by decide) ?_
  refine lv_topi (fun f e_f => ?_)
  refine lv_istore_n (lv' := [(2, .int (f)), (0, .ref (b + 3 + 2 * i)), (1, .int (am))]) hx hb dX0_catchRain_14 rfl hl (by decide) rfl (fun ls hl => ?_)
  refine lv_aload_n hx hb dX0_catchRain_15 rfl (lv_at hl 1 rfl) ?_
  refine lv_dup hx hb dX0_catchRain_16 rfl ?_
  refine rv_getG hx hb ht ui_X0 hown hK hM hR hi 6 (by decide) (ht _ uw_132) dX0_catchRain_17 ?_
  refine lv_iload_n hx hb dX0_catchRain_20 rfl (lv_at hl 0 rfl) ?_
  refine lv_iadd hx hb dX0_catchRain_21 ?_
  refine rv_putG hx hb ht ui_X0 hown hK hM hS hR hF hi 6 (by decide) (ht _ uw_132) dX0_catchRain_22 (fun M H locs hM hR hF hS => ?_)
  refine lv_aload_n hx hb dX0_catchRain_25 rfl (lv_at hl 1 rfl) ?_
  refine lv_dup hx hb dX0_catchRain_26 rfl ?_
  refine rv_getG hx hb ht ui_X0 hown hK hM hR hi 4 (by decide) (ht _ uw_127) dX0_catchRain_27 ?_
  refine lv_iload_n hx hb dX0_catchRain_30 rfl (lv_at hl 0 rfl) ?_
  refine lv_iadd hx hb dX0_catchRain_31 ?_
  refine rv_putG hx hb ht ui_X0 hown hK hM hS hR hF hi 4 (by decide) (ht _ uw_127) dX0_catchRain_32 (fun M H locs hM hR hF hS => ?_)
  refine lv_aload_n hx hb dX0_catchRain_35 rfl (lv_at hl 1 rfl) ?_
  refine rv_getG hx hb ht ui_X0 hown hK hM hR hi 1 (by decide) (ht _ uw_118) dX0_catchRain_36 ?_
  refine lv_if_le (tgt := 54) hx hb dX0_catchRain_39 (by decide) (fun c_39 => ?_) (fun c_39 => ?_)
  · refine lv_iconst (v := 0) hx hb dX0_catchRain_54 (by first | rfl | decide) ?_
    refine lv_topi (fun t e_t => ?_)
    refine lv_istore_n (lv' := [(3, .int (t)), (2, .int (f)), (0, .ref (b + 3 + 2 * i)), (1, .int (am))]) hx hb dX0_catchRain_55 rfl hl (by decide) rfl (fun ls hl => ?_)
    refine lv_aload_n hx hb dX0_catchRain_56 rfl (lv_at hl 2 rfl) ?_
    refine lv_dup hx hb dX0_catchRain_57 rfl ?_
    refine rv_getG hx hb ht ui_X0 hown hK hM hR hi 4 (by decide) (ht _ uw_127) dX0_catchRain_58 ?_
    refine lv_iload_n hx hb dX0_catchRain_61 rfl (lv_at hl 0 rfl) ?_
    refine lv_aload_n hx hb dX0_catchRain_62 rfl (lv_at hl 2 rfl) ?_
    refine rv_getG hx hb ht ui_X0 hown hK hM hR hi 1 (by decide) (ht _ uw_118) dX0_catchRain_63 ?_
    refine lv_imul hx hb dX0_catchRain_66 ?_
    refine lv_isub hx hb dX0_catchRain_67 ?_
    refine rv_putG hx hb ht ui_X0 hown hK hM hS hR hF hi 4 (by decide) (ht _ uw_127) dX0_catchRain_68 (fun M H locs hM hR hF hS => ?_)
    refine lv_aload_n hx hb dX0_catchRain_71 rfl (lv_at hl 2 rfl) ?_
    refine lv_dup hx hb dX0_catchRain_72 rfl ?_
    refine rv_getG hx hb ht ui_X0 hown hK hM hR hi 7 (by decide) (ht _ uw_134) dX0_catchRain_73 ?_
    refine lv_iload_n hx hb dX0_catchRain_76 rfl (lv_at hl 0 rfl) ?_
    refine lv_aload_n hx hb dX0_catchRain_77 rfl (lv_at hl 2 rfl) ?_
    refine rv_getG hx hb ht ui_X0 hown hK hM hR hi 1 (by decide) (ht _ uw_118) dX0_catchRain_78 ?_
    refine lv_imul hx hb dX0_catchRain_81 ?_
    refine lv_iadd hx hb dX0_catchRain_82 ?_
    refine rv_putG hx hb ht ui_X0 hown hK hM hS hR hF hi 7 (by decide) (ht _ uw_134) dX0_catchRain_83 (fun M H locs hM hR hF hS => ?_)
    refine lv_aload_n hx hb dX0_catchRain_86 rfl (lv_at hl 2 rfl) ?_
    refine lv_dup hx hb dX0_catchRain_87 rfl ?_
    refine rv_getG hx hb ht ui_X0 hown hK hM hR hi 5 (by decide) (ht _ uw_130) dX0_catchRain_88 ?_
    refine lv_iload_n hx hb dX0_catchRain_91 rfl (lv_at hl 0 rfl) ?_
    refine lv_iadd hx hb dX0_catchRain_92 ?_
    refine rv_putG hx hb ht ui_X0 hown hK hM hS hR hF hi 5 (by decide) (ht _ uw_130) dX0_catchRain_93 (fun M H locs hM hR hF hS => ?_)
    refine lv_iload_n hx hb dX0_catchRain_96 rfl (lv_at hl 0 rfl) ?_
    subst hQ
    exact m_zret hx hb hr rfl hlk hK hM hS dX0_catchRain_97 (catch_end e_f (e_t.trans (by unfold tipC; rw [if_neg (fun q => absurd q (Int32.not_lt.mpr (by simpa [up2, va_up] using c_39)))])) hR hF)
  · refine lv_aload_n hx hb dX0_catchRain_42 rfl (lv_at hl 1 rfl) ?_
    refine rv_getG hx hb ht ui_X0 hown hK hM hR hi 4 (by decide) (ht _ uw_127) dX0_catchRain_43 ?_
    refine lv_aload_n hx hb dX0_catchRain_46 rfl (lv_at hl 1 rfl) ?_
    refine rv_getG hx hb ht ui_X0 hown hK hM hR hi 1 (by decide) (ht _ uw_118) dX0_catchRain_47 ?_
    refine lv_idiv hx hb dX0_catchRain_50 (c_nz c_39) ?_
    refine lv_goto (tgt := 55) hx hb dX0_catchRain_51 (by decide) ?_
    refine lv_topi (fun t e_t => ?_)
    refine lv_istore_n (lv' := [(3, .int (t)), (2, .int (f)), (0, .ref (b + 3 + 2 * i)), (1, .int (am))]) hx hb dX0_catchRain_55 rfl hl (by decide) rfl (fun ls hl => ?_)
    refine lv_aload_n hx hb dX0_catchRain_56 rfl (lv_at hl 2 rfl) ?_
    refine lv_dup hx hb dX0_catchRain_57 rfl ?_
    refine rv_getG hx hb ht ui_X0 hown hK hM hR hi 4 (by decide) (ht _ uw_127) dX0_catchRain_58 ?_
    refine lv_iload_n hx hb dX0_catchRain_61 rfl (lv_at hl 0 rfl) ?_
    refine lv_aload_n hx hb dX0_catchRain_62 rfl (lv_at hl 2 rfl) ?_
    refine rv_getG hx hb ht ui_X0 hown hK hM hR hi 1 (by decide) (ht _ uw_118) dX0_catchRain_63 ?_
    refine lv_imul hx hb dX0_catchRain_66 ?_
    refine lv_isub hx hb dX0_catchRain_67 ?_
    refine rv_putG hx hb ht ui_X0 hown hK hM hS hR hF hi 4 (by decide) (ht _ uw_127) dX0_catchRain_68 (fun M H locs hM hR hF hS => ?_)
    refine lv_aload_n hx hb dX0_catchRain_71 rfl (lv_at hl 2 rfl) ?_
    refine lv_dup hx hb dX0_catchRain_72 rfl ?_
    refine rv_getG hx hb ht ui_X0 hown hK hM hR hi 7 (by decide) (ht _ uw_134) dX0_catchRain_73 ?_
    refine lv_iload_n hx hb dX0_catchRain_76 rfl (lv_at hl 0 rfl) ?_
    refine lv_aload_n hx hb dX0_catchRain_77 rfl (lv_at hl 2 rfl) ?_
    refine rv_getG hx hb ht ui_X0 hown hK hM hR hi 1 (by decide) (ht _ uw_118) dX0_catchRain_78 ?_
    refine lv_imul hx hb dX0_catchRain_81 ?_
    refine lv_iadd hx hb dX0_catchRain_82 ?_
    refine rv_putG hx hb ht ui_X0 hown hK hM hS hR hF hi 7 (by decide) (ht _ uw_134) dX0_catchRain_83 (fun M H locs hM hR hF hS => ?_)
    refine lv_aload_n hx hb dX0_catchRain_86 rfl (lv_at hl 2 rfl) ?_
    refine lv_dup hx hb dX0_catchRain_87 rfl ?_
    refine rv_getG hx hb ht ui_X0 hown hK hM hR hi 5 (by decide) (ht _ uw_130) dX0_catchRain_88 ?_
    refine lv_iload_n hx hb dX0_catchRain_91 rfl (lv_at hl 0 rfl) ?_
    refine lv_iadd hx hb dX0_catchRain_92 ?_
    refine rv_putG hx hb ht ui_X0 hown hK hM hS hR hF hi 5 (by decide) (ht _ uw_130) dX0_catchRain_93 (fun M H locs hM hR hF hS => ?_)
    refine lv_iload_n hx hb dX0_catchRain_96 rfl (lv_at hl 0 rfl) ?_
    subst hQ
    exact m_zret hx hb hr rfl hlk hK hM hS dX0_catchRain_97 (catch_end e_f (e_t.trans (by unfold tipC; rw [if_pos (Int32.not_le.mp (by simpa [up2, va_up] using c_39)), show fellC v i am = f from e_f.symm]; simp [up2, va_up])) hR hF)

set_option maxHeartbeats 4000000 in
set_option maxRecDepth 100000 in
/-- the gauge of a number -/
theorem k_X6_gaugeAt (l : Launch) (g : GG) (A : Nat → Prop) (M0 : MM) (b : Nat) (π : Nat → Nat) (v : VV) (x : Int32) (o : Option Nat) (hR : RepV g A M0 b π v) (ho : gxn 6 x = o) : Met l yX6_gaugeAt (Uw yX6_gaugeAt cX6_gaugeAt 2 (Option.some (ClassFile.FieldType.object "ToldDrops$Gauge"))) (rmD 0) (PreM [.ref (b), .int (x)] g A M0) (PosQ (fun r M1 => r = o.map (fun i => b + 3 + 2 * i) ∧ M1 = M0) g A) 0 0 A := by
  refine mk_Met (own := RX6) rfl rfl (by decide) (Nat.le_of_ble_eq_true rfl) ?_
  intro p e s m below meth c ls aa Q haa hQ hx hb hr hlk hml hown hts hK hM hS hl hnm
  obtain ⟨M, hMM⟩ : ∃ M, M = M0 := ⟨_, rfl⟩
  rw [← hMM] at hM hR
  have ht : ∀ w ∈ lw_good, w.before _ s = true := fun w h => hts w (List.mem_cons_of_mem _ h)
  have hF : FrV b M0 M := by rw [hMM]; exact FrV.rf
  have hl : lv_has ls 2 [(0, .ref (b)), (1, .int (x))] := hl
  rcases gxn_cases (n := 6) (by decide) x with ⟨e1, h1⟩ | ⟨i, hi, ex, e1⟩
  · refine lv_iload_n hx hb dX6_gaugeAt_0 rfl (lv_at hl 1 rfl) ?_
    refine lv_if_lt (tgt := 22) hx hb dX6_gaugeAt_1 (by decide) (fun c_1 => ?_) (fun c_1 => ?_)
    · refine lv_null hx hb dX6_gaugeAt_22 ?_
      subst hQ
      exact m_aret (r := none) rfl hx hb hr hlk hK hM hS dX6_gaugeAt_23 (⟨by rw [← ho, e1]; rfl, hMM⟩)
    · refine lv_iload_n hx hb dX6_gaugeAt_4 rfl (lv_at hl 1 rfl) ?_
      refine lv_aload_n hx hb dX6_gaugeAt_5 rfl (lv_at hl 0 rfl) ?_
      refine rv_getga hx hb ht ui_X6 hown hK hM hR (ht _ uw_196) dX6_gaugeAt_6 ?_
      refine rv_lenG hx hb hK hM hR dX6_gaugeAt_9 ?_
      refine lv_icmp_ge (tgt := 22) hx hb dX6_gaugeAt_10 (by decide) (fun c_10 => ?_) (fun c_10 => absurd (h1.resolve_left c_1) c_10)
      refine lv_null hx hb dX6_gaugeAt_22 ?_
      subst hQ
      exact m_aret (r := none) rfl hx hb hr hlk hK hM hS dX6_gaugeAt_23 (⟨by rw [← ho, e1]; rfl, hMM⟩)
  · subst ex
    refine lv_iload_n hx hb dX6_gaugeAt_0 rfl (lv_at hl 1 rfl) ?_
    refine lv_if_lt (tgt := 22) hx hb dX6_gaugeAt_1 (by decide) (fun c_1 => absurd c_1 (nI_pos (by omega))) (fun c_1 => ?_)
    refine lv_iload_n hx hb dX6_gaugeAt_4 rfl (lv_at hl 1 rfl) ?_
    refine lv_aload_n hx hb dX6_gaugeAt_5 rfl (lv_at hl 0 rfl) ?_
    refine rv_getga hx hb ht ui_X6 hown hK hM hR (ht _ uw_196) dX6_gaugeAt_6 ?_
    refine rv_lenG hx hb hK hM hR dX6_gaugeAt_9 ?_
    refine lv_icmp_ge (tgt := 22) hx hb dX6_gaugeAt_10 (by decide) (fun c_10 => absurd c_10 (nI_ge hi (by decide))) (fun c_10 => ?_)
    refine lv_aload_n hx hb dX6_gaugeAt_13 rfl (lv_at hl 0 rfl) ?_
    refine rv_getga hx hb ht ui_X6 hown hK hM hR (ht _ uw_196) dX6_gaugeAt_14 ?_
    refine lv_iload_n hx hb dX6_gaugeAt_17 rfl (lv_at hl 1 rfl) ?_
    refine rv_aldG hx hb hK hM hR (hi) dX6_gaugeAt_18 ?_
    refine lv_goto (tgt := 23) hx hb dX6_gaugeAt_19 (by decide) ?_
    subst hQ
    exact m_aret (r := some (b + 3 + 2 * i)) rfl hx hb hr hlk hK hM hS dX6_gaugeAt_23 (⟨by rw [← ho, e1]; rfl, hMM⟩)

set_option maxHeartbeats 4000000 in
set_option maxRecDepth 100000 in
/-- the runner of a number -/
theorem k_X6_runnerAt (l : Launch) (g : GG) (A : Nat → Prop) (M0 : MM) (b : Nat) (π : Nat → Nat) (v : VV) (x : Int32) (o : Option Nat) (hR : RepV g A M0 b π v) (ho : (if v.1 3 ≤ x then none else gxn 20 x) = o) : Met l yX6_runnerAt (Uw yX6_runnerAt cX6_runnerAt 2 (Option.some (ClassFile.FieldType.object "ToldDrops$Runner"))) (rmD 0) (PreM [.ref (b), .int (x)] g A M0) (PosQ (fun r M1 => r = o.map (fun j => b + 15 + π j) ∧ M1 = M0) g A) 0 0 A := by
  refine mk_Met (own := RX6) rfl rfl (by decide) (Nat.le_of_ble_eq_true rfl) ?_
  intro p e s m below meth c ls aa Q haa hQ hx hb hr hlk hml hown hts hK hM hS hl hnm
  obtain ⟨M, hMM⟩ : ∃ M, M = M0 := ⟨_, rfl⟩
  rw [← hMM] at hM hR
  have ht : ∀ w ∈ lw_good, w.before _ s = true := fun w h => hts w (List.mem_cons_of_mem _ h)
  have hF : FrV b M0 M := by rw [hMM]; exact FrV.rf
  have hl : lv_has ls 2 [(0, .ref (b)), (1, .int (x))] := hl
  rcases gxn_cases (n := 20) (by decide) x with ⟨e1, h1⟩ | ⟨j, hj, ex, e1⟩
  · refine lv_iload_n hx hb dX6_runnerAt_0 rfl (lv_at hl 1 rfl) ?_
    refine lv_if_lt (tgt := 30) hx hb dX6_runnerAt_1 (by decide) (fun c_1 => ?_) (fun c_1 => ?_)
    · refine lv_null hx hb dX6_runnerAt_30 ?_
      subst hQ
      exact m_aret (r := none) rfl hx hb hr hlk hK hM hS dX6_runnerAt_31 (⟨by rw [← ho]; first | (rw [if_pos c_9]; rfl) | (rw [if_neg c_9, e1]; rfl) | (rw [e1]; simp), hMM⟩)
    · refine lv_iload_n hx hb dX6_runnerAt_4 rfl (lv_at hl 1 rfl) ?_
      refine lv_aload_n hx hb dX6_runnerAt_5 rfl (lv_at hl 0 rfl) ?_
      refine rv_getW hx hb ht ui_X6 hown hK hM hR 3 (by decide) (ht _ uw_194) dX6_runnerAt_6 ?_
      refine lv_icmp_ge (tgt := 30) hx hb dX6_runnerAt_9 (by decide) (fun c_9 => ?_) (fun c_9 => ?_)
      · refine lv_null hx hb dX6_runnerAt_30 ?_
        subst hQ
        exact m_aret (r := none) rfl hx hb hr hlk hK hM hS dX6_runnerAt_31 (⟨by rw [← ho]; first | (rw [if_pos c_9]; rfl) | (rw [if_neg c_9, e1]; rfl) | (rw [e1]; simp), hMM⟩)
      · refine lv_iload_n hx hb dX6_runnerAt_12 rfl (lv_at hl 1 rfl) ?_
        refine lv_aload_n hx hb dX6_runnerAt_13 rfl (lv_at hl 0 rfl) ?_
        refine rv_getra hx hb ht ui_X6 hown hK hM hR (ht _ uw_198) dX6_runnerAt_14 ?_
        refine rv_lenR hx hb hK hM hR dX6_runnerAt_17 ?_
        refine lv_icmp_ge (tgt := 30) hx hb dX6_runnerAt_18 (by decide) (fun c_18 => ?_) (fun c_18 => absurd (h1.resolve_left c_1) c_18)
        refine lv_null hx hb dX6_runnerAt_30 ?_
        subst hQ
        exact m_aret (r := none) rfl hx hb hr hlk hK hM hS dX6_runnerAt_31 (⟨by rw [← ho]; first | (rw [if_pos c_9]; rfl) | (rw [if_neg c_9, e1]; rfl) | (rw [e1]; simp), hMM⟩)
  · subst ex
    refine lv_iload_n hx hb dX6_runnerAt_0 rfl (lv_at hl 1 rfl) ?_
    refine lv_if_lt (tgt := 30) hx hb dX6_runnerAt_1 (by decide) (fun c_1 => absurd c_1 (nI_pos (by omega))) (fun c_1 => ?_)
    refine lv_iload_n hx hb dX6_runnerAt_4 rfl (lv_at hl 1 rfl) ?_
    refine lv_aload_n hx hb dX6_runnerAt_5 rfl (lv_at hl 0 rfl) ?_
    refine rv_getW hx hb ht ui_X6 hown hK hM hR 3 (by decide) (ht _ uw_194) dX6_runnerAt_6 ?_
    refine lv_icmp_ge (tgt := 30) hx hb dX6_runnerAt_9 (by decide) (fun c_9 => ?_) (fun c_9 => ?_)
    · refine lv_null hx hb dX6_runnerAt_30 ?_
      subst hQ
      exact m_aret (r := none) rfl hx hb hr hlk hK hM hS dX6_runnerAt_31 (⟨by rw [← ho]; first | (rw [if_pos c_9]; rfl) | (rw [if_neg c_9, e1]; rfl) | (rw [e1]; simp), hMM⟩)
    · refine lv_iload_n hx hb dX6_runnerAt_12 rfl (lv_at hl 1 rfl) ?_
      refine lv_aload_n hx hb dX6_runnerAt_13 rfl (lv_at hl 0 rfl) ?_
      refine rv_getra hx hb ht ui_X6 hown hK hM hR (ht _ uw_198) dX6_runnerAt_14 ?_
      refine rv_lenR hx hb hK hM hR dX6_runnerAt_17 ?_
      refine lv_icmp_ge (tgt := 30) hx hb dX6_runnerAt_18 (by decide) (fun c_18 => absurd c_18 (nI_ge hj (by decide))) (fun c_18 => ?_)
      refine lv_aload_n hx hb dX6_runnerAt_21 rfl (lv_at hl 0 rfl) ?_
      refine rv_getra hx hb ht ui_X6 hown hK hM hR (ht _ uw_198) dX6_runnerAt_22 ?_
      refine lv_iload_n hx hb dX6_runnerAt_25 rfl (lv_at hl 1 rfl) ?_
      refine rv_aldR hx hb hK hM hR (hj) dX6_runnerAt_26 ?_
      refine lv_goto (tgt := 31) hx hb dX6_runnerAt_27 (by decide) ?_
      subst hQ
      exact m_aret (r := some (b + 15 + π j)) rfl hx hb hr hlk hK hM hS dX6_runnerAt_31 (⟨by rw [← ho]; first | (rw [if_pos c_9]; rfl) | (rw [if_neg c_9, e1]; rfl) | (rw [e1]; simp), hMM⟩)

set_option maxHeartbeats 4000000 in
set_option maxRecDepth 100000 in
/-- whether nobody more can be on the way -/
theorem k_X6_isFull (l : Launch) (g : GG) (A : Nat → Prop) (M0 : MM) (b : Nat) (π : Nat → Nat) (v : VV) (hR : RepV g A M0 b π v)  : Met l yX6_isFull (Uw yX6_isFull cX6_isFull 1 (Option.some ClassFile.FieldType.boolean)) (rmD 0) (PreM [.ref (b)] g A M0) (PosI (fun r M1 => r = (if nI 20 ≤ v.1 3 then 1 else 0) ∧ M1 = M0) g A) 0 0 A := by
  refine mk_Met (own := RX6) rfl rfl (by decide) (Nat.le_of_ble_eq_true rfl) ?_
  intro p e s m below meth c ls aa Q haa hQ hx hb hr hlk hml hown hts hK hM hS hl hnm
  obtain ⟨M, hMM⟩ : ∃ M, M = M0 := ⟨_, rfl⟩
  rw [← hMM] at hM hR
  have ht : ∀ w ∈ lw_good, w.before _ s = true := fun w h => hts w (List.mem_cons_of_mem _ h)
  have hF : FrV b M0 M := by rw [hMM]; exact FrV.rf
  have hl : lv_has ls 1 [(0, .ref (b))] := hl
  refine lv_aload_n hx hb dX6_isFull_0 rfl (lv_at hl 0 rfl) ?_
  refine rv_getW hx hb ht ui_X6 hown hK hM hR 3 (by decide) (ht _ uw_194) dX6_isFull_1 ?_
  refine lv_aload_n hx hb dX6_isFull_4 rfl (lv_at hl 0 rfl) ?_
  refine rv_getra hx hb ht ui_X6 hown hK hM hR (ht _ uw_198) dX6_isFull_5 ?_
  refine rv_lenR hx hb hK hM hR dX6_isFull_8 ?_
  refine lv_icmp_lt (tgt := 16) hx hb dX6_isFull_9 (by decide) (fun c_9 => ?_) (fun c_9 => ?_)
  · refine lv_iconst (v := 0) hx hb dX6_isFull_16 (by first | rfl | decide) ?_
    subst hQ
    exact m_zret hx hb hr rfl hlk hK hM hS dX6_isFull_17 (⟨by first | rw [if_pos (Int32.not_lt.mp c_9)] | rw [if_neg (Int32.not_le.mpr c_9)], hMM⟩)
  · refine lv_iconst (v := 1) hx hb dX6_isFull_12 (by first | rfl | decide) ?_
    refine lv_goto (tgt := 17) hx hb dX6_isFull_13 (by decide) ?_
    subst hQ
    exact m_zret hx hb hr rfl hlk hK hM hS dX6_isFull_17 (⟨by first | rw [if_pos (Int32.not_lt.mp c_9)] | rw [if_neg (Int32.not_le.mpr c_9)], hMM⟩)

set_option maxHeartbeats 4000000 in
set_option maxRecDepth 100000 in
/-- whether so many more hours can pass -/
theorem k_X6_hasTimeFor (l : Launch) (g : GG) (A : Nat → Prop) (M0 : MM) (b : Nat) (π : Nat → Nat) (v : VV) (x : Int32) (hR : RepV g A M0 b π v)  : Met l yX6_hasTimeFor (Uw yX6_hasTimeFor cX6_hasTimeFor 2 (Option.some ClassFile.FieldType.boolean)) (rmD 0) (PreM [.ref (b), .int (x)] g A M0) (PosI (fun r M1 => r = (if v.1 2 + x ≤ 9999 then 1 else 0) ∧ M1 = M0) g A) 0 0 A := by
  refine mk_Met (own := RX6) rfl rfl (by decide) (Nat.le_of_ble_eq_true rfl) ?_
  intro p e s m below meth c ls aa Q haa hQ hx hb hr hlk hml hown hts hK hM hS hl hnm
  obtain ⟨M, hMM⟩ : ∃ M, M = M0 := ⟨_, rfl⟩
  rw [← hMM] at hM hR
  have ht : ∀ w ∈ lw_good, w.before _ s = true := fun w h => hts w (List.mem_cons_of_mem _ h)
  have hF : FrV b M0 M := by rw [hMM]; exact FrV.rf
  have hl : lv_has ls 2 [(0, .ref (b)), (1, .int (x))] := hl
  refine lv_aload_n hx hb dX6_hasTimeFor_0 rfl (lv_at hl 0 rfl) ?_
  refine rv_getW hx hb ht ui_X6 hown hK hM hR 2 (by decide) (ht _ uw_192) dX6_hasTimeFor_1 ?_
  refine lv_iload_n hx hb dX6_hasTimeFor_4 rfl (lv_at hl 1 rfl) ?_
  refine lv_iadd hx hb dX6_hasTimeFor_5 ?_
  refine lv_sipush (v := 9999) hx hb dX6_hasTimeFor_6 (by first | rfl | decide) ?_
  refine lv_icmp_gt (tgt := 16) hx hb dX6_hasTimeFor_9 (by decide) (fun c_9 => ?_) (fun c_9 => ?_)
  · refine lv_iconst (v := 0) hx hb dX6_hasTimeFor_16 (by first | rfl | decide) ?_
    subst hQ
    exact m_zret hx hb hr rfl hlk hK hM hS dX6_hasTimeFor_17 (⟨by first | rw [if_pos (Int32.not_lt.mp c_9)] | rw [if_neg (Int32.not_le.mpr c_9)], hMM⟩)
  · refine lv_iconst (v := 1) hx hb dX6_hasTimeFor_12 (by first | rfl | decide) ?_
    refine lv_goto (tgt := 17) hx hb dX6_hasTimeFor_13 (by decide) ?_
    subst hQ
    exact m_zret hx hb hr rfl hlk hK hM hS dX6_hasTimeFor_17 (⟨by first | rw [if_pos (Int32.not_lt.mp c_9)] | rw [if_neg (Int32.not_le.mpr c_9)], hMM⟩)

set_option maxHeartbeats 4000000 in
set_option maxRecDepth 100000 in
/-- where a wheel stands -/
theorem k_X6_wheelAt (l : Launch) (g : GG) (A : Nat → Prop) (M0 : MM) (b : Nat) (π : Nat → Nat) (v : VV) (x : Int32) (hR : RepV g A M0 b π v)  : Met l yX6_wheelAt (Uw yX6_wheelAt cX6_wheelAt 2 (Option.some ClassFile.FieldType.int)) (rmD 0) (PreM [.ref (b), .int (x)] g A M0) (PosI (fun r M1 => r = (whC v x) ∧ M1 = M0) g A) 0 0 A := by
  refine mk_Met (own := RX6) rfl rfl (by decide) (Nat.le_of_ble_eq_true rfl) ?_
  intro p e s m below meth c ls aa Q haa hQ hx hb hr hlk hml hown hts hK hM hS hl hnm
  obtain ⟨M, hMM⟩ : ∃ M, M = M0 := ⟨_, rfl⟩
  rw [← hMM] at hM hR
  have ht : ∀ w ∈ lw_good, w.before _ s = true := fun w h => hts w (List.mem_cons_of_mem _ h)
  have hF : FrV b M0 M := by rw [hMM]; exact FrV.rf
  have hl : lv_has ls 2 [(0, .ref (b)), (1, .int (x))] := hl
  refine lv_aload_n hx hb dX6_wheelAt_0 rfl (lv_at hl 0 rfl) ?_
  refine rv_getW hx hb ht ui_X6 hown hK hM hR 0 (by decide) (ht _ uw_188) dX6_wheelAt_1 ?_
  refine lv_if_le (tgt := 16) hx hb dX6_wheelAt_4 (by decide) (fun c_4 => ?_) (fun c_4 => ?_)
  · refine lv_iconst (v := 0) hx hb dX6_wheelAt_16 (by first | rfl | decide) ?_
    subst hQ
    exact m_zret hx hb hr rfl hlk hK hM hS dX6_wheelAt_17 (⟨by unfold whC; first | rw [if_pos (Int32.not_le.mp c_4)] | rw [if_neg (Int32.not_lt.mpr c_4)], hMM⟩)
  · refine lv_iload_n hx hb dX6_wheelAt_7 rfl (lv_at hl 1 rfl) ?_
    refine lv_aload_n hx hb dX6_wheelAt_8 rfl (lv_at hl 0 rfl) ?_
    refine rv_getW hx hb ht ui_X6 hown hK hM hR 0 (by decide) (ht _ uw_188) dX6_wheelAt_9 ?_
    refine lv_irem hx hb dX6_wheelAt_12 (c_nz c_4) ?_
    refine lv_goto (tgt := 17) hx hb dX6_wheelAt_13 (by decide) ?_
    subst hQ
    exact m_zret hx hb hr rfl hlk hK hM hS dX6_wheelAt_17 (⟨by unfold whC; first | rw [if_pos (Int32.not_le.mp c_4)] | rw [if_neg (Int32.not_lt.mpr c_4)], hMM⟩)
end
section
/-! values of the valley's methods, as the code has them -/
def expC (v : VV) (i j : Nat) : Int32 := if v.2.1 0 0 ≤ 0 ∨ v.2.1 i 1 ≤ 0 then 0 else (v.2.2 j 3 - v.2.1 i 11) * v.2.1 i 0 / v.2.1 0 0 / v.2.1 i 1
def rouC (v : VV) (m : Int32) : Int32 := if m ≤ 0 ∨ v.1 0 ≤ 0 then 0 else (2 * m + v.1 0 - 1) / (2 * v.1 0)
theorem two_nz {w : Int32} (h : ¬ w ≤ 0) : ¬ 2 * w = 0 := by
  intro q
  have h1 : 0 < w.toInt := by
    have := Int32.lt_iff_toInt_lt.mp (Int32.not_le.mp h)
    simpa using this
  have h2 : w.toInt < 2 ^ 31 := Int32.toInt_lt w
  have h3 := congrArg Int32.toInt q
  rw [Int32.toInt_mul] at h3
  have e2 : (2 : Int32).toInt = 2 := rfl
  have e0 : (0 : Int32).toInt = 0 := rfl
  rw [e2, e0] at h3
  simp only [Int.bmod] at h3
  split at h3 <;> omega
def wen1 (v : VV) (i j : Nat) : Int32 := whC v (v.2.2 j 1) - whC v (v.2.1 i 10)
def wen2 (v : VV) (i j : Nat) : Int32 := if wen1 v i j < 0 then wen1 v i j + v.1 0 else wen1 v i j
def wenC (v : VV) (i j : Nat) : Int32 := if v.1 1 = 1 then wen2 v i j + v.1 0 * rouC v (expC v i j - wen2 v i j) else wen2 v i j
def takC (v : VV) (i j : Nat) : VV :=
  let v1 := vG v i 8 (v.2.1 i 8 + wenC v i j)
  let v2 := vG v1 i 12 (v1.2.1 i 12 + 1)
  let v3 := vG v2 i 9 (v2.2.2 j 2)
  let v4 := vG v3 i 10 (v3.2.2 j 1)
  vG v4 i 11 (v4.2.2 j 3)
def heaT (v : VV) (i j : Nat) : VV :=
  if v.2.2 j 2 < v.2.1 i 9 then vG v i 13 (v.2.1 i 13 + 1)
  else if 0 < v.2.1 i 12 ∧ v.2.2 j 2 = v.2.1 i 9 ∧ whC v (v.2.2 j 1) = whC v (v.2.1 i 10) then vG v i 14 (v.2.1 i 14 + 1)
  else takC v i j
def heaC (v : VV) (j : Nat) : VV := match gxn 6 (v.2.2 j 0) with
  | none => v
  | some i => heaT v i j
def cosC (v : VV) (j : Nat) : VV := match gxn 6 (v.2.2 j 0) with
  | none => v
  | some i => vG v i 15 (v.2.1 i 15 + 1)
def cosL (v : VV) : Nat → VV
  | 0 => v
  | k + 1 => cosC (cosL v k) k
theorem cosC_1 (v : VV) (j : Nat) : (cosC v j).1 = v.1 := by unfold cosC; split <;> rfl
theorem cosC_2 (v : VV) (j : Nat) : (cosC v j).2.2 = v.2.2 := by unfold cosC; split <;> rfl
theorem cosL_1 (v : VV) (k : Nat) : (cosL v k).1 = v.1 := by
  induction k with
  | zero => rfl
  | succ k ih => exact (cosC_1 _ _).trans ih
theorem heaT_1 (v : VV) (i j : Nat) : (heaT v i j).1 = v.1 := by unfold heaT takC; split; rfl; split <;> rfl
theorem heaT_2 (v : VV) (i j : Nat) : (heaT v i j).2.2 = v.2.2 := by unfold heaT takC; split; rfl; split <;> rfl
theorem heaC_1 (v : VV) (j : Nat) : (heaC v j).1 = v.1 := by unfold heaC; split; rfl; exact heaT_1 _ _ _
theorem heaC_2 (v : VV) (j : Nat) : (heaC v j).2.2 = v.2.2 := by unfold heaC; split; rfl; exact heaT_2 _ _ _
/-- rows k .. of a list of n: the row k is taken out, and kept behind the last one -/
def rotN {α : Type} (k n : Nat) (f : Nat → α) : Nat → α := fun j => if j + 1 = n then f k else if k ≤ j ∧ j + 1 < n then f (j + 1) else f j
def rmvC (v : VV) (k n : Nat) : VV := (va_up v.1 3 (nI (n - 1)), v.2.1, rotN k n v.2.2)
theorem rmvC_3 (v : VV) (k n : Nat) : (rmvC v k n).1 3 = nI (n - 1) := by simp [rmvC, va_up]
/-- the array in the midst of it -/
def rhoN {α : Type} (k i : Nat) (f : Nat → α) : Nat → α := fun j => if k ≤ j ∧ j < i then f (j + 1) else f j
theorem rho_0 {α : Type} (k : Nat) (f : Nat → α) : rhoN k k f = f := by
  funext j
  unfold rhoN
  rw [if_neg (by omega)]
theorem rho_up (k i : Nat) (hk : k ≤ i) (π : Nat → Nat) (b : Nat) : va_up (fun j => some (b + 15 + rhoN k i π j)) i (some (b + 15 + π (i + 1))) = fun j => some (b + 15 + rhoN k (i + 1) π j) := by
  funext j
  unfold va_up rhoN
  dsimp only
  by_cases h : j = i
  · subst h
    rw [if_pos rfl, if_pos (by omega)]
  · rw [if_neg h]
    by_cases h2 : k ≤ j ∧ j < i
    · rw [if_pos h2, if_pos (by omega)]
    · rw [if_neg h2, if_neg (by omega)]
theorem rho_end (k n : Nat) (hk : k < n) (π : Nat → Nat) (b : Nat) : va_up (fun j => some (b + 15 + rhoN k (n - 1) π j)) (n - 1) (some (b + 15 + π k)) = fun j => some (b + 15 + rotN k n π j) := by
  funext j
  unfold va_up rhoN rotN
  dsimp only
  by_cases h : j + 1 = n
  · rw [if_pos (by omega), if_pos h]
  · rw [if_neg (by omega), if_neg h]
    by_cases h2 : k ≤ j ∧ j < n - 1
    · rw [if_pos h2, if_pos (by omega)]
    · rw [if_neg h2, if_neg (by omega)]
def rotI (k n j : Nat) : Nat := if j + 1 = n then k else if k ≤ j ∧ j + 1 < n then j + 1 else j
theorem rot_I {α : Type} (k n : Nat) (f : Nat → α) (j : Nat) : rotN k n f j = f (rotI k n j) := by
  unfold rotN rotI
  by_cases h : j + 1 = n
  · rw [if_pos h, if_pos h]
  · rw [if_neg h, if_neg h]
    by_cases h2 : k ≤ j ∧ j + 1 < n
    · rw [if_pos h2, if_pos h2]
    · rw [if_neg h2, if_neg h2]
theorem rotI_lt {k n j : Nat} (hk : k < n) (hn : n ≤ 20) (hj : j < 20) : rotI k n j < 20 := by
  unfold rotI
  by_cases h : j + 1 = n
  · rw [if_pos h]; omega
  · rw [if_neg h]
    by_cases h2 : k ≤ j ∧ j + 1 < n
    · rw [if_pos h2]; omega
    · rw [if_neg h2]; omega
theorem rotI_inj {k n i j : Nat} (hk : k < n) (h : rotI k n i = rotI k n j) : i = j := by
  unfold rotI at h
  by_cases h1 : i + 1 = n
  · rw [if_pos h1] at h
    by_cases h2 : j + 1 = n
    · omega
    · rw [if_neg h2] at h
      by_cases h3 : k ≤ j ∧ j + 1 < n
      · rw [if_pos h3] at h; omega
      · rw [if_neg h3] at h; omega
  · rw [if_neg h1] at h
    by_cases h2 : j + 1 = n
    · rw [if_pos h2] at h
      by_cases h3 : k ≤ i ∧ i + 1 < n
      · rw [if_pos h3] at h; omega
      · rw [if_neg h3] at h; omega
    · rw [if_neg h2] at h
      by_cases h3 : k ≤ i ∧ i + 1 < n
      · rw [if_pos h3] at h
        by_cases h4 : k ≤ j ∧ j + 1 < n
        · rw [if_pos h4] at h; omega
        · rw [if_neg h4] at h; omega
      · rw [if_neg h3] at h
        by_cases h4 : k ≤ j ∧ j + 1 < n
        · rw [if_pos h4] at h; omega
        · rw [if_neg h4] at h; omega
theorem rot_perm {k n : Nat} (hk : k < n) (hn : n ≤ 20) {π : Nat → Nat} (hp : Perm 20 π) : Perm 20 (rotN k n π) := by
  refine ⟨fun j hj => ?_, fun i j hi hj h => ?_⟩
  · rw [rot_I]; exact hp.1 _ (rotI_lt hk hn hj)
  · rw [rot_I, rot_I] at h
    exact rotI_inj hk (hp.2 _ _ (rotI_lt hk hn hi) (rotI_lt hk hn hj) h)
theorem rot_rows {k n : Nat} (hk : k < n) (hn : n ≤ 20) {π : Nat → Nat} {r : Nat → Nat → Int32} : ∀ j, j < 20 → ∃ i, i < 20 ∧ rotN k n π j = π i ∧ rotN k n r j = r i := by
  intro j hj
  unfold rotN
  split
  · exact ⟨k, by omega, rfl, rfl⟩
  · split
    · exact ⟨j + 1, by omega, rfl, rfl⟩
    · exact ⟨j, hj, rfl, rfl⟩
/-- all runners an hour nearer: u of them from the number k on -/
def movC : Nat → Nat → VV → VV
  | 0, _, v => v
  | u + 1, k, v => if v.2.2 k 4 - 1 ≤ 0 then movC u k (rmvC (heaC (vR v k 4 (v.2.2 k 4 - 1)) k) k (k + u + 1)) else movC u (k + 1) (vR v k 4 (v.2.2 k 4 - 1))
theorem movC_n : ∀ (u k : Nat) (v : VV), v.1 3 = nI (k + u) → ∃ n, n ≤ k + u ∧ (movC u k v).1 3 = nI n := by
  intro u
  induction u with
  | zero => intro k v h; exact ⟨k, by omega, h⟩
  | succ u ih =>
    intro k v h
    unfold movC
    split
    · obtain ⟨n, h1, h2⟩ := ih k (rmvC (heaC (vR v k 4 (v.2.2 k 4 - 1)) k) k (k + u + 1)) (by rw [rmvC_3]; rfl)
      exact ⟨n, by omega, h2⟩
    · obtain ⟨n, h1, h2⟩ := ih (k + 1) (vR v k 4 (v.2.2 k 4 - 1)) (by show v.1 3 = _; rw [h]; congr 1; omega)
      exact ⟨n, by omega, h2⟩
def catL (am : Int32) (v : VV) : Nat → VV
  | 0 => v
  | i + 1 => catC (catL am v i) i am
def tisL (am : Int32) (v : VV) (t : Int32) : Nat → Int32
  | 0 => t
  | i + 1 => tisL am v t i + tipC (catL am v i) i am
theorem catL_1 (am : Int32) (v : VV) (k : Nat) : (catL am v k).1 = v.1 := by
  induction k with
  | zero => rfl
  | succ k ih => exact ih
theorem catL_2 (am : Int32) (v : VV) (k : Nat) : (catL am v k).2.2 = v.2.2 := by
  induction k with
  | zero => rfl
  | succ k ih => exact ih
def ho1C (am : Int32) (v : VV) : VV := vW (catL am v 6) 2 ((catL am v 6).1 2 + 1)
theorem ho1C_3 (am : Int32) (v : VV) : (ho1C am v).1 3 = v.1 3 := by simp [ho1C, va_up, catL_1]
def houC (am : Int32) (v : VV) : VV := movC (v.1 3).toNatClampNeg 0 (ho1C am v)
def pasC (am : Int32) (v : VV) : Nat → VV
  | 0 => v
  | q + 1 => houC am (pasC am v q)
def pasT (am : Int32) (v : VV) : Nat → Int32
  | 0 => 0
  | q + 1 => tisL am (pasC am v q) (pasT am v q) 6
def OnW (v : VV) : Prop := ∃ n, n ≤ 20 ∧ v.1 3 = nI n
theorem houC_on {am : Int32} {v : VV} (h : OnW v) : OnW (houC am v) := by
  obtain ⟨n, hn, e⟩ := h
  have e1 : (v.1 3).toNatClampNeg = n := by rw [e]; exact nI_clamp (by omega)
  obtain ⟨k, hk, e2⟩ := movC_n n 0 (ho1C am v) (by rw [ho1C_3, e]; congr 1; omega)
  exact ⟨k, by omega, by unfold houC; rw [e1]; exact e2⟩
theorem pasC_on {am : Int32} {v : VV} (h : OnW v) (q : Nat) : OnW (pasC am v q) := by
  induction q with
  | zero => exact h
  | succ q ih => exact houC_on ih
/-- the row of one who is sent -/
def seR (v : VV) (i n : Nat) : VV :=
  let v0 := vW v 3 (nI n + 1)
  let v1 := vR v0 n 0 (nI i)
  let v2 := vR v1 n 1 (v1.2.1 i 5)
  let v3 := vR v2 n 2 (v2.1 2)
  let v4 := vR v3 n 3 (v3.2.1 0 6)
  vR v4 n 4 (v4.2.1 i 3)
def senC (v : VV) (i n : Nat) : VV := if (seR v i n).2.2 n 4 = 0 then rmvC (heaC (seR v i n) n) n (n + 1) else seR v i n
def twiC (v : VV) (j n : Nat) : VV :=
  let v0 := vW v 3 (nI n + 1)
  let v1 := vR v0 n 0 (v0.2.2 j 0)
  let v2 := vR v1 n 1 (v1.2.2 j 1)
  let v3 := vR v2 n 2 (v2.2.2 j 2)
  let v4 := vR v3 n 3 (v3.2.2 j 3)
  let v5 := vR v4 n 4 (v4.2.2 j 4)
  vR v5 n 4 (v5.2.2 n 4 + 1)
def lonC (v : VV) : Nat → Int32
  | 0 => 0
  | j + 1 => if lonC v j < v.2.2 j 4 then v.2.2 j 4 else lonC v j
def facC (v : VV) (i : Nat) (w : Int32) : Int32 :=
  if w = 0 then v.2.1 i 0 else if w = 1 then v.2.1 i 1 else if w = 2 then v.2.1 i 2 else if w = 3 then v.2.1 i 3 else if w = 4 then v.2.1 i 4 else if w = 5 then v.2.1 i 5 else if w = 6 then whC v (v.2.1 i 5) else if w = 7 then v.2.1 i 6 else if w = 8 then v.2.1 i 7 else (-1000002)
def sumN (f : Nat → Int32) : Nat → Int32
  | 0 => 0
  | i + 1 => sumN f i + f i
def gapN (v : VV) : Nat → Int32
  | 0 => 0
  | i + 1 => if v.2.1 i 5 - v.2.1 i 8 = 0 then gapN v i else gapN v i + 1
/-- the copy: rows beyond those on the way stay -/
def cpG (f h : Nat → Int32) : Nat → Int32 := fun k => if k < 16 then h k else f k
def cpR (f h : Nat → Int32) : Nat → Int32 := fun k => if k < 5 then h k else f k
def cpW (f h : Nat → Int32) : Nat → Int32 := fun k => if k < 4 then h k else f k
def mixN {α β : Type} (F : α → β → α) (k : Nat) (f : Nat → α) (h : Nat → β) : Nat → α := fun i => if i < k then F (f i) (h i) else f i
theorem mixN_up {α β : Type} (F : α → β → α) (k : Nat) (f : Nat → α) (h : Nat → β) : mixN F (k + 1) f h = va_up (mixN F k f h) k (F (mixN F k f h k) (h k)) := by
  funext i
  unfold mixN va_up
  dsimp only
  by_cases h1 : i = k
  · subst h1
    rw [if_pos (by omega), if_pos rfl, if_neg (by omega)]
  · rw [if_neg h1]
    by_cases h2 : i < k
    · rw [if_pos h2, if_pos (by omega)]
    · rw [if_neg h2, if_neg (by omega)]
theorem mixN_0 {α β : Type} (F : α → β → α) (f : Nat → α) (h : Nat → β) : mixN F 0 f h = f := by
  funext i
  exact if_neg (by omega)
theorem cpW_eq (f h : Nat → Int32) : cpW f h = va_up (va_up (va_up (va_up f 0 (h 0)) 1 (h 1)) 2 (h 2)) 3 (h 3) := by
  funext k
  unfold cpW va_up
  by_cases h0 : k < 4
  · rw [if_pos h0]
    rcases (by omega : k = 0 ∨ k = 1 ∨ k = 2 ∨ k = 3) with rfl | rfl | rfl | rfl <;> simp
  · rw [if_neg h0]
    simp only [show ¬ k = 0 by omega, show ¬ k = 1 by omega, show ¬ k = 2 by omega, show ¬ k = 3 by omega, if_false]
def cpyC (v w : VV) (n : Nat) : VV := (cpW v.1 w.1, mixN cpG 6 v.2.1 w.2.1, mixN cpR n v.2.2 w.2.2)
def chgC (v : VV) (n : Nat) (x : Int32) : VV := vW (vW (cosL v n) 3 (nI 0)) 0 x
theorem nI_lt_of {a b : Nat} (ha : a < 2 ^ 31) (hb : b < 2 ^ 31) (h : ¬ nI b ≤ nI a) : a < b := Nat.lt_of_not_le (fun q => h ((nI_leI hb ha).mpr q))
theorem nI_le_of {a b : Nat} (ha : a < 2 ^ 31) (hb : b < 2 ^ 31) (h : nI b ≤ nI a) : b ≤ a := (nI_leI hb ha).mp h
theorem facC_out {v : VV} {i : Nat} {w : Int32} (h : w.toInt < 0 ∨ 8 < w.toInt) : facC v i w = -1000002 := by
  have hne : ∀ k : Int32, 0 ≤ k.toInt → k.toInt ≤ 8 → ¬ w = k := fun k h1 h2 q => by subst q; omega
  unfold facC
  rw [if_neg (hne 0 (by decide) (by decide)), if_neg (hne 1 (by decide) (by decide)), if_neg (hne 2 (by decide) (by decide)), if_neg (hne 3 (by decide) (by decide)), if_neg (hne 4 (by decide) (by decide)), if_neg (hne 5 (by decide) (by decide)), if_neg (hne 6 (by decide) (by decide)), if_neg (hne 7 (by decide) (by decide)), if_neg (hne 8 (by decide) (by decide))]
theorem sw_ix (lo hi : Int) {x : Int32} (h : ¬ (x.toInt < lo ∨ hi < x.toInt)) : lo ≤ x.toInt ∧ x.toInt ≤ hi := by omega
end
section
theorem RepV.eq {g : GG} {A : Nat → Prop} {M : MM} {b : Nat} {π : Nat → Nat} {v w : VV} (h : RepV g A M b π v) (e : w = v) : RepV g A M b π w := by rw [e]; exact h
def cp2 (P : Nat → Prop) [DecidablePred P] (v w : VV) (i : Nat) : VV := (v.1, va_up v.2.1 i (fun k => if P k then w.2.1 i k else v.2.1 i k), v.2.2)
theorem cp2_page (f : Nat → Nat → Int32) (h : Nat → Int32) (i : Nat) : va_up f i (fun k => if 8 ≤ k ∧ k < 16 then h k else f i k) = up2 (up2 (up2 (up2 (up2 (up2 (up2 (up2 f i 8 (h 8)) i 9 (h 9)) i 10 (h 10)) i 11 (h 11)) i 12 (h 12)) i 13 (h 13)) i 14 (h 14)) i 15 (h 15) := by
  funext a k
  by_cases ha : a = i
  · subst ha
    simp only [up2, va_up, if_true]
    by_cases h0 : 8 ≤ k ∧ k < 16
    · rw [if_pos h0]
      rcases (by omega : k = 8 ∨ k = 9 ∨ k = 10 ∨ k = 11 ∨ k = 12 ∨ k = 13 ∨ k = 14 ∨ k = 15) with rfl | rfl | rfl | rfl | rfl | rfl | rfl | rfl <;> simp
    · rw [if_neg h0]
      simp only [show ¬ k = 8 by omega, show ¬ k = 9 by omega, show ¬ k = 10 by omega, show ¬ k = 11 by omega, show ¬ k = 12 by omega, show ¬ k = 13 by omega, show ¬ k = 14 by omega, show ¬ k = 15 by omega, if_false]
  · simp only [up2, va_up, if_neg ha]
theorem cp_row (f : Nat → Nat → Int32) (h : Nat → Int32) (i : Nat) : va_up f i (cpR (f i) h) = up2 (up2 (up2 (up2 (up2 f i 0 (h 0)) i 1 (h 1)) i 2 (h 2)) i 3 (h 3)) i 4 (h 4) := by
  funext a k
  by_cases ha : a = i
  · subst ha
    simp only [up2, va_up, cpR, if_true]
    by_cases h0 : k < 5
    · rw [if_pos h0]
      rcases (by omega : k = 0 ∨ k = 1 ∨ k = 2 ∨ k = 3 ∨ k = 4) with rfl | rfl | rfl | rfl | rfl <;> simp
    · rw [if_neg h0]
      simp only [show ¬ k = 0 by omega, show ¬ k = 1 by omega, show ¬ k = 2 by omega, show ¬ k = 3 by omega, show ¬ k = 4 by omega, if_false]
  · simp only [up2, va_up, if_neg ha]
theorem cp_gauge (f : Nat → Nat → Int32) (h : Nat → Int32) (i : Nat) : va_up f i (cpG (f i) h) = va_up (up2 (up2 (up2 (up2 (up2 (up2 (up2 (up2 f i 0 (h 0)) i 1 (h 1)) i 2 (h 2)) i 3 (h 3)) i 4 (h 4)) i 5 (h 5)) i 6 (h 6)) i 7 (h 7)) i (fun k => if 8 ≤ k ∧ k < 16 then h k else (up2 (up2 (up2 (up2 (up2 (up2 (up2 (up2 f i 0 (h 0)) i 1 (h 1)) i 2 (h 2)) i 3 (h 3)) i 4 (h 4)) i 5 (h 5)) i 6 (h 6)) i 7 (h 7)) i k) := by
  funext a k
  by_cases ha : a = i
  · subst ha
    simp only [up2, va_up, cpG, if_true]
    by_cases h0 : k < 16
    · rw [if_pos h0]
      by_cases h1 : 8 ≤ k
      · rw [if_pos ⟨h1, h0⟩]
      · rw [if_neg (by omega)]
        rcases (by omega : k = 0 ∨ k = 1 ∨ k = 2 ∨ k = 3 ∨ k = 4 ∨ k = 5 ∨ k = 6 ∨ k = 7) with rfl | rfl | rfl | rfl | rfl | rfl | rfl | rfl <;> simp
    · rw [if_neg h0, if_neg (by omega)]
      simp only [show ¬ k = 0 by omega, show ¬ k = 1 by omega, show ¬ k = 2 by omega, show ¬ k = 3 by omega, show ¬ k = 4 by omega, show ¬ k = 5 by omega, show ¬ k = 6 by omega, show ¬ k = 7 by omega, if_false]
  · simp only [up2, va_up, if_neg ha]
def cprC (v : VV) (n j : Nat) : VV :=
  let v1 := vR v n 0 (v.2.2 j 0)
  let v2 := vR v1 n 1 (v1.2.2 j 1)
  let v3 := vR v2 n 2 (v2.2.2 j 2)
  let v4 := vR v3 n 3 (v3.2.2 j 3)
  vR v4 n 4 (v4.2.2 j 4)
theorem wen_a {v : VV} {i j : Nat} {n1 : Int32} (e : n1 = wen1 v i j) (c : 0 ≤ n1) (d : ¬ v.1 1 = 1) : n1 = wenC v i j := by
  unfold wenC wen2
  rw [if_neg d, ← e, if_neg (Int32.not_lt.mpr c)]
theorem wen_b {v : VV} {i j : Nat} {n1 : Int32} (e : n1 = wen1 v i j) (c : 0 ≤ n1) (d : v.1 1 = 1) : n1 + v.1 0 * rouC v (expC v i j - n1) = wenC v i j := by
  unfold wenC wen2
  rw [if_pos d, ← e, if_neg (Int32.not_lt.mpr c)]
theorem wen_c {v : VV} {i j : Nat} {n1 n2 : Int32} (e : n1 = wen1 v i j) (c : ¬ 0 ≤ n1) (e2 : n2 = n1 + v.1 0) (d : ¬ v.1 1 = 1) : n2 = wenC v i j := by
  unfold wenC wen2
  rw [if_neg d, ← e, if_pos (Int32.not_le.mp c), e2]
theorem wen_d {v : VV} {i j : Nat} {n1 n2 : Int32} (e : n1 = wen1 v i j) (c : ¬ 0 ≤ n1) (e2 : n2 = n1 + v.1 0) (d : v.1 1 = 1) : n2 + v.1 0 * rouC v (expC v i j - n2) = wenC v i j := by
  unfold wenC wen2
  rw [if_pos d, ← e, if_pos (Int32.not_le.mp c), e2]
section
variable {v : VV} {i j : Nat}
theorem hea_late (e : gxn 6 (v.2.2 j 0) = some i) (h : v.2.2 j 2 < v.2.1 i 9) : heaC v j = vG v i 13 (v.2.1 i 13 + 1) := by
  unfold heaC heaT
  rw [e]
  exact if_pos h
theorem hea_twice (e : gxn 6 (v.2.2 j 0) = some i) (h : v.2.1 i 9 ≤ v.2.2 j 2) (h2 : 0 < v.2.1 i 12) (h3 : v.2.2 j 2 = v.2.1 i 9) (h4 : whC v (v.2.2 j 1) = whC v (v.2.1 i 10)) : heaC v j = vG v i 14 (v.2.1 i 14 + 1) := by
  unfold heaC heaT
  rw [e]
  exact (if_neg (Int32.not_lt.mpr h)).trans (if_pos ⟨h2, h3, h4⟩)
theorem hea_take (e : gxn 6 (v.2.2 j 0) = some i) (h : v.2.1 i 9 ≤ v.2.2 j 2) (h2 : ¬ (0 < v.2.1 i 12 ∧ v.2.2 j 2 = v.2.1 i 9 ∧ whC v (v.2.2 j 1) = whC v (v.2.1 i 10))) : heaC v j = takC v i j := by
  unfold heaC heaT
  rw [e]
  exact (if_neg (Int32.not_lt.mpr h)).trans (if_neg h2)
theorem hea_take1 (e : gxn 6 (v.2.2 j 0) = some i) (h : v.2.1 i 9 ≤ v.2.2 j 2) (h2 : v.2.1 i 12 ≤ 0) : heaC v j = takC v i j := hea_take e h (fun q => Int32.not_lt.mpr h2 q.1)
theorem hea_take2 (e : gxn 6 (v.2.2 j 0) = some i) (h : v.2.1 i 9 ≤ v.2.2 j 2) (h2 : ¬ v.2.2 j 2 = v.2.1 i 9) : heaC v j = takC v i j := hea_take e h (fun q => h2 q.2.1)
theorem hea_take3 (e : gxn 6 (v.2.2 j 0) = some i) (h : v.2.1 i 9 ≤ v.2.2 j 2) (h2 : ¬ whC v (v.2.2 j 1) = whC v (v.2.1 i 10)) : heaC v j = takC v i j := hea_take e h (fun q => h2 q.2.2)
end
set_option maxHeartbeats 4000000 in
set_option maxRecDepth 100000 in
/-- a page takes over another valley's -/
theorem k_X4_copyFrom (l : Launch) (g : GG) (A : Nat → Prop) (M0 : MM) (b : Nat) (π : Nat → Nat) (v : VV) (i : Nat) (b2 : Nat) (π2 : Nat → Nat) (v2 : VV) (hR : RepV g A M0 b π v) (hO : RepV g A M0 b2 π2 v2) (hd : b2 + 35 ≤ b ∨ b + 35 ≤ b2) (hi : i < 6) : Met l yX4_copyFrom (Uw yX4_copyFrom cX4_copyFrom 2 (Option.none : Option ClassFile.FieldType)) (rmD 0) (PreM [.ref (b + 4 + 2 * i), .ref (b2 + 4 + 2 * i)] g A M0) (PosV (fun M1 => RepV g A M1 b π (cp2 (fun k => 8 ≤ k ∧ k < 16) v v2 i) ∧ FrV b M0 M1) g A) 0 0 A := by
  refine mk_Met (own := RX4) rfl rfl (by decide) (Nat.le_of_ble_eq_true rfl) ?_
  intro p e s m below meth c ls aa Q haa hQ hx hb hr hlk hml hown hts hK hM hS hl hnm
  obtain ⟨M, hMM⟩ : ∃ M, M = M0 := ⟨_, rfl⟩
  rw [← hMM] at hM hR
  have ht : ∀ w ∈ lw_good, w.before _ s = true := fun w h => hts w (List.mem_cons_of_mem _ h)
  have hF : FrV b M0 M := by rw [hMM]; exact FrV.rf
  have hl : lv_has ls 2 [(0, .ref (b + 4 + 2 * i)), (1, .ref (b2 + 4 + 2 * i))] := hl
  refine lv_aload_n hx hb dX4_copyFrom_0 rfl (lv_at hl 0 rfl) ?_
  refine lv_aload_n hx hb dX4_copyFrom_1 rfl (lv_at hl 1 rfl) ?_
  refine rv_getP hx hb ht ui_X4 hown hK hM (hO.fr hF hd) hi 0 (by decide) (ht _ uw_73) dX4_copyFrom_2 ?_
  refine rv_putP hx hb ht ui_X4 hown hK hM hS hR hF hi 0 (by decide) (ht _ uw_73) dX4_copyFrom_5 (fun M H locs hM hR hF hS => ?_)
  refine lv_aload_n hx hb dX4_copyFrom_8 rfl (lv_at hl 0 rfl) ?_
  refine lv_aload_n hx hb dX4_copyFrom_9 rfl (lv_at hl 1 rfl) ?_
  refine rv_getP hx hb ht ui_X4 hown hK hM (hO.fr hF hd) hi 1 (by decide) (ht _ uw_77) dX4_copyFrom_10 ?_
  refine rv_putP hx hb ht ui_X4 hown hK hM hS hR hF hi 1 (by decide) (ht _ uw_77) dX4_copyFrom_13 (fun M H locs hM hR hF hS => ?_)
  refine lv_aload_n hx hb dX4_copyFrom_16 rfl (lv_at hl 0 rfl) ?_
  refine lv_aload_n hx hb dX4_copyFrom_17 rfl (lv_at hl 1 rfl) ?_
  refine rv_getP hx hb ht ui_X4 hown hK hM (hO.fr hF hd) hi 2 (by decide) (ht _ uw_80) dX4_copyFrom_18 ?_
  refine rv_putP hx hb ht ui_X4 hown hK hM hS hR hF hi 2 (by decide) (ht _ uw_80) dX4_copyFrom_21 (fun M H locs hM hR hF hS => ?_)
  refine lv_aload_n hx hb dX4_copyFrom_24 rfl (lv_at hl 0 rfl) ?_
  refine lv_aload_n hx hb dX4_copyFrom_25 rfl (lv_at hl 1 rfl) ?_
  refine rv_getP hx hb ht ui_X4 hown hK hM (hO.fr hF hd) hi 3 (by decide) (ht _ uw_84) dX4_copyFrom_26 ?_
  refine rv_putP hx hb ht ui_X4 hown hK hM hS hR hF hi 3 (by decide) (ht _ uw_84) dX4_copyFrom_29 (fun M H locs hM hR hF hS => ?_)
  refine lv_aload_n hx hb dX4_copyFrom_32 rfl (lv_at hl 0 rfl) ?_
  refine lv_aload_n hx hb dX4_copyFrom_33 rfl (lv_at hl 1 rfl) ?_
  refine rv_getP hx hb ht ui_X4 hown hK hM (hO.fr hF hd) hi 4 (by decide) (ht _ uw_86) dX4_copyFrom_34 ?_
  refine rv_putP hx hb ht ui_X4 hown hK hM hS hR hF hi 4 (by decide) (ht _ uw_86) dX4_copyFrom_37 (fun M H locs hM hR hF hS => ?_)
  refine lv_aload_n hx hb dX4_copyFrom_40 rfl (lv_at hl 0 rfl) ?_
  refine lv_aload_n hx hb dX4_copyFrom_41 rfl (lv_at hl 1 rfl) ?_
  refine rv_getP hx hb ht ui_X4 hown hK hM (hO.fr hF hd) hi 5 (by decide) (ht _ uw_89) dX4_copyFrom_42 ?_
  refine rv_putP hx hb ht ui_X4 hown hK hM hS hR hF hi 5 (by decide) (ht _ uw_89) dX4_copyFrom_45 (fun M H locs hM hR hF hS => ?_)
  refine lv_aload_n hx hb dX4_copyFrom_48 rfl (lv_at hl 0 rfl) ?_
  refine lv_aload_n hx hb dX4_copyFrom_49 rfl (lv_at hl 1 rfl) ?_
  refine rv_getP hx hb ht ui_X4 hown hK hM (hO.fr hF hd) hi 6 (by decide) (ht _ uw_92) dX4_copyFrom_50 ?_
  refine rv_putP hx hb ht ui_X4 hown hK hM hS hR hF hi 6 (by decide) (ht _ uw_92) dX4_copyFrom_53 (fun M H locs hM hR hF hS => ?_)
  refine lv_aload_n hx hb dX4_copyFrom_56 rfl (lv_at hl 0 rfl) ?_
  refine lv_aload_n hx hb dX4_copyFrom_57 rfl (lv_at hl 1 rfl) ?_
  refine rv_getP hx hb ht ui_X4 hown hK hM (hO.fr hF hd) hi 7 (by decide) (ht _ uw_95) dX4_copyFrom_58 ?_
  refine rv_putP hx hb ht ui_X4 hown hK hM hS hR hF hi 7 (by decide) (ht _ uw_95) dX4_copyFrom_61 (fun M H locs hM hR hF hS => ?_)
  subst hQ
  exact m_vret hx hb hr hlk hK hM hS dX4_copyFrom_64 (⟨RepV.eq hR (by simp only [cp2]; refine Prod.ext rfl (Prod.ext ?_ rfl); exact cp2_page _ _ _), hF⟩)

set_option maxHeartbeats 4000000 in
set_option maxRecDepth 100000 in
/-- a runner's row takes over another valley's -/
theorem k_X5_copyFrom (l : Launch) (g : GG) (A : Nat → Prop) (M0 : MM) (b : Nat) (π : Nat → Nat) (v : VV) (j : Nat) (b2 : Nat) (π2 : Nat → Nat) (v2 : VV) (hR : RepV g A M0 b π v) (hO : RepV g A M0 b2 π2 v2) (hd : b2 + 35 ≤ b ∨ b + 35 ≤ b2) (hj : j < 20) : Met l yX5_copyFrom (Uw yX5_copyFrom cX5_copyFrom 2 (Option.none : Option ClassFile.FieldType)) (rmD 0) (PreM [.ref (b + 15 + π j), .ref (b2 + 15 + π2 j)] g A M0) (PosV (fun M1 => RepV g A M1 b π (v.1, v.2.1, va_up v.2.2 j (cpR (v.2.2 j) (v2.2.2 j))) ∧ FrV b M0 M1) g A) 0 0 A := by
  refine mk_Met (own := RX5) rfl rfl (by decide) (Nat.le_of_ble_eq_true rfl) ?_
  intro p e s m below meth c ls aa Q haa hQ hx hb hr hlk hml hown hts hK hM hS hl hnm
  obtain ⟨M, hMM⟩ : ∃ M, M = M0 := ⟨_, rfl⟩
  rw [← hMM] at hM hR
  have ht : ∀ w ∈ lw_good, w.before _ s = true := fun w h => hts w (List.mem_cons_of_mem _ h)
  have hF : FrV b M0 M := by rw [hMM]; exact FrV.rf
  have hl : lv_has ls 2 [(0, .ref (b + 15 + π j)), (1, .ref (b2 + 15 + π2 j))] := hl
  refine lv_aload_n hx hb dX5_copyFrom_0 rfl (lv_at hl 0 rfl) ?_
  refine lv_aload_n hx hb dX5_copyFrom_1 rfl (lv_at hl 1 rfl) ?_
  refine rv_getR hx hb ht ui_X5 hown hK hM (hO.fr hF hd) hj 0 (by decide) (ht _ uw_163) dX5_copyFrom_2 ?_
  refine rv_putR hx hb ht ui_X5 hown hK hM hS hR hF hj 0 (by decide) (ht _ uw_163) dX5_copyFrom_5 (fun M H locs hM hR hF hS => ?_)
  refine lv_aload_n hx hb dX5_copyFrom_8 rfl (lv_at hl 0 rfl) ?_
  refine lv_aload_n hx hb dX5_copyFrom_9 rfl (lv_at hl 1 rfl) ?_
  refine rv_getR hx hb ht ui_X5 hown hK hM (hO.fr hF hd) hj 1 (by decide) (ht _ uw_166) dX5_copyFrom_10 ?_
  refine rv_putR hx hb ht ui_X5 hown hK hM hS hR hF hj 1 (by decide) (ht _ uw_166) dX5_copyFrom_13 (fun M H locs hM hR hF hS => ?_)
  refine lv_aload_n hx hb dX5_copyFrom_16 rfl (lv_at hl 0 rfl) ?_
  refine lv_aload_n hx hb dX5_copyFrom_17 rfl (lv_at hl 1 rfl) ?_
  refine rv_getR hx hb ht ui_X5 hown hK hM (hO.fr hF hd) hj 2 (by decide) (ht _ uw_169) dX5_copyFrom_18 ?_
  refine rv_putR hx hb ht ui_X5 hown hK hM hS hR hF hj 2 (by decide) (ht _ uw_169) dX5_copyFrom_21 (fun M H locs hM hR hF hS => ?_)
  refine lv_aload_n hx hb dX5_copyFrom_24 rfl (lv_at hl 0 rfl) ?_
  refine lv_aload_n hx hb dX5_copyFrom_25 rfl (lv_at hl 1 rfl) ?_
  refine rv_getR hx hb ht ui_X5 hown hK hM (hO.fr hF hd) hj 3 (by decide) (ht _ uw_172) dX5_copyFrom_26 ?_
  refine rv_putR hx hb ht ui_X5 hown hK hM hS hR hF hj 3 (by decide) (ht _ uw_172) dX5_copyFrom_29 (fun M H locs hM hR hF hS => ?_)
  refine lv_aload_n hx hb dX5_copyFrom_32 rfl (lv_at hl 0 rfl) ?_
  refine lv_aload_n hx hb dX5_copyFrom_33 rfl (lv_at hl 1 rfl) ?_
  refine rv_getR hx hb ht ui_X5 hown hK hM (hO.fr hF hd) hj 4 (by decide) (ht _ uw_174) dX5_copyFrom_34 ?_
  refine rv_putR hx hb ht ui_X5 hown hK hM hS hR hF hj 4 (by decide) (ht _ uw_174) dX5_copyFrom_37 (fun M H locs hM hR hF hS => ?_)
  subst hQ
  exact m_vret hx hb hr hlk hK hM hS dX5_copyFrom_40 (⟨RepV.eq hR (by refine Prod.ext rfl (Prod.ext rfl ?_); exact cp_row _ _ _), hF⟩)

set_option maxHeartbeats 4000000 in
set_option maxRecDepth 100000 in
/-- a runner's row takes over another of the same valley -/
theorem k_X5_copyFrom_2 (l : Launch) (g : GG) (A : Nat → Prop) (M0 : MM) (b : Nat) (π : Nat → Nat) (v : VV) (n j : Nat) (hR : RepV g A M0 b π v) (hn : n < 20) (hj : j < 20) : Met l yX5_copyFrom (Uw yX5_copyFrom cX5_copyFrom 2 (Option.none : Option ClassFile.FieldType)) (rmD 0) (PreM [.ref (b + 15 + π n), .ref (b + 15 + π j)] g A M0) (PosV (fun M1 => RepV g A M1 b π (cprC v n j) ∧ FrV b M0 M1) g A) 0 0 A := by
  refine mk_Met (own := RX5) rfl rfl (by decide) (Nat.le_of_ble_eq_true rfl) ?_
  intro p e s m below meth c ls aa Q haa hQ hx hb hr hlk hml hown hts hK hM hS hl hnm
  obtain ⟨M, hMM⟩ : ∃ M, M = M0 := ⟨_, rfl⟩
  rw [← hMM] at hM hR
  have ht : ∀ w ∈ lw_good, w.before _ s = true := fun w h => hts w (List.mem_cons_of_mem _ h)
  have hF : FrV b M0 M := by rw [hMM]; exact FrV.rf
  have hl : lv_has ls 2 [(0, .ref (b + 15 + π n)), (1, .ref (b + 15 + π j))] := hl
  refine lv_aload_n hx hb dX5_copyFrom_0 rfl (lv_at hl 0 rfl) ?_
  refine lv_aload_n hx hb dX5_copyFrom_1 rfl (lv_at hl 1 rfl) ?_
  refine rv_getR hx hb ht ui_X5 hown hK hM hR hj 0 (by decide) (ht _ uw_163) dX5_copyFrom_2 ?_
  refine rv_putR hx hb ht ui_X5 hown hK hM hS hR hF hn 0 (by decide) (ht _ uw_163) dX5_copyFrom_5 (fun M H locs hM hR hF hS => ?_)
  refine lv_aload_n hx hb dX5_copyFrom_8 rfl (lv_at hl 0 rfl) ?_
  refine lv_aload_n hx hb dX5_copyFrom_9 rfl (lv_at hl 1 rfl) ?_
  refine rv_getR hx hb ht ui_X5 hown hK hM hR hj 1 (by decide) (ht _ uw_166) dX5_copyFrom_10 ?_
  refine rv_putR hx hb ht ui_X5 hown hK hM hS hR hF hn 1 (by decide) (ht _ uw_166) dX5_copyFrom_13 (fun M H locs hM hR hF hS => ?_)
  refine lv_aload_n hx hb dX5_copyFrom_16 rfl (lv_at hl 0 rfl) ?_
  refine lv_aload_n hx hb dX5_copyFrom_17 rfl (lv_at hl 1 rfl) ?_
  refine rv_getR hx hb ht ui_X5 hown hK hM hR hj 2 (by decide) (ht _ uw_169) dX5_copyFrom_18 ?_
  refine rv_putR hx hb ht ui_X5 hown hK hM hS hR hF hn 2 (by decide) (ht _ uw_169) dX5_copyFrom_21 (fun M H locs hM hR hF hS => ?_)
  refine lv_aload_n hx hb dX5_copyFrom_24 rfl (lv_at hl 0 rfl) ?_
  refine lv_aload_n hx hb dX5_copyFrom_25 rfl (lv_at hl 1 rfl) ?_
  refine rv_getR hx hb ht ui_X5 hown hK hM hR hj 3 (by decide) (ht _ uw_172) dX5_copyFrom_26 ?_
  refine rv_putR hx hb ht ui_X5 hown hK hM hS hR hF hn 3 (by decide) (ht _ uw_172) dX5_copyFrom_29 (fun M H locs hM hR hF hS => ?_)
  refine lv_aload_n hx hb dX5_copyFrom_32 rfl (lv_at hl 0 rfl) ?_
  refine lv_aload_n hx hb dX5_copyFrom_33 rfl (lv_at hl 1 rfl) ?_
  refine rv_getR hx hb ht ui_X5 hown hK hM hR hj 4 (by decide) (ht _ uw_174) dX5_copyFrom_34 ?_
  refine rv_putR hx hb ht ui_X5 hown hK hM hS hR hF hn 4 (by decide) (ht _ uw_174) dX5_copyFrom_37 (fun M H locs hM hR hF hS => ?_)
  subst hQ
  exact m_vret hx hb hr hlk hK hM hS dX5_copyFrom_40 (⟨hR, hF⟩)

set_option maxHeartbeats 4000000 in
set_option maxRecDepth 100000 in
/-- a gauge takes over another valley's -/
theorem k_X0_copyFrom (l : Launch) (g : GG) (A : Nat → Prop) (M0 : MM) (b : Nat) (π : Nat → Nat) (v : VV) (i : Nat) (b2 : Nat) (π2 : Nat → Nat) (v2 : VV) (hR : RepV g A M0 b π v) (hO : RepV g A M0 b2 π2 v2) (hd : b2 + 35 ≤ b ∨ b + 35 ≤ b2) (hi : i < 6) : Met l yX0_copyFrom (Uw yX0_copyFrom cX0_copyFrom 2 (Option.none : Option ClassFile.FieldType)) (rmD 1) (PreM [.ref (b + 3 + 2 * i), .ref (b2 + 3 + 2 * i)] g A M0) (PosV (fun M1 => RepV g A M1 b π ((v.1, va_up v.2.1 i (cpG (v.2.1 i) (v2.2.1 i)), v.2.2)) ∧ FrV b M0 M1) g A) 0 0 A := by
  refine mk_Met (own := RX0) rfl rfl (by decide) (Nat.le_of_ble_eq_true rfl) ?_
  intro p e s m below meth c ls aa Q haa hQ hx hb hr hlk hml hown hts hK hM hS hl hnm
  obtain ⟨M, hMM⟩ : ∃ M, M = M0 := ⟨_, rfl⟩
  rw [← hMM] at hM hR
  have ht : ∀ w ∈ lw_good, w.before _ s = true := fun w h => hts w (List.mem_cons_of_mem _ h)
  have hF : FrV b M0 M := by rw [hMM]; exact FrV.rf
  have hl : lv_has ls 2 [(0, .ref (b + 3 + 2 * i)), (1, .ref (b2 + 3 + 2 * i))] := hl
  refine lv_aload_n hx hb dX0_copyFrom_0 rfl (lv_at hl 0 rfl) ?_
  refine lv_aload_n hx hb dX0_copyFrom_1 rfl (lv_at hl 1 rfl) ?_
  refine rv_getG hx hb ht ui_X0 hown hK hM (hO.fr hF hd) hi 0 (by decide) (ht _ uw_115) dX0_copyFrom_2 ?_
  refine rv_putG hx hb ht ui_X0 hown hK hM hS hR hF hi 0 (by decide) (ht _ uw_115) dX0_copyFrom_5 (fun M H locs hM hR hF hS => ?_)
  refine lv_aload_n hx hb dX0_copyFrom_8 rfl (lv_at hl 0 rfl) ?_
  refine lv_aload_n hx hb dX0_copyFrom_9 rfl (lv_at hl 1 rfl) ?_
  refine rv_getG hx hb ht ui_X0 hown hK hM (hO.fr hF hd) hi 1 (by decide) (ht _ uw_118) dX0_copyFrom_10 ?_
  refine rv_putG hx hb ht ui_X0 hown hK hM hS hR hF hi 1 (by decide) (ht _ uw_118) dX0_copyFrom_13 (fun M H locs hM hR hF hS => ?_)
  refine lv_aload_n hx hb dX0_copyFrom_16 rfl (lv_at hl 0 rfl) ?_
  refine lv_aload_n hx hb dX0_copyFrom_17 rfl (lv_at hl 1 rfl) ?_
  refine rv_getG hx hb ht ui_X0 hown hK hM (hO.fr hF hd) hi 2 (by decide) (ht _ uw_121) dX0_copyFrom_18 ?_
  refine rv_putG hx hb ht ui_X0 hown hK hM hS hR hF hi 2 (by decide) (ht _ uw_121) dX0_copyFrom_21 (fun M H locs hM hR hF hS => ?_)
  refine lv_aload_n hx hb dX0_copyFrom_24 rfl (lv_at hl 0 rfl) ?_
  refine lv_aload_n hx hb dX0_copyFrom_25 rfl (lv_at hl 1 rfl) ?_
  refine rv_getG hx hb ht ui_X0 hown hK hM (hO.fr hF hd) hi 3 (by decide) (ht _ uw_124) dX0_copyFrom_26 ?_
  refine rv_putG hx hb ht ui_X0 hown hK hM hS hR hF hi 3 (by decide) (ht _ uw_124) dX0_copyFrom_29 (fun M H locs hM hR hF hS => ?_)
  refine lv_aload_n hx hb dX0_copyFrom_32 rfl (lv_at hl 0 rfl) ?_
  refine lv_aload_n hx hb dX0_copyFrom_33 rfl (lv_at hl 1 rfl) ?_
  refine rv_getG hx hb ht ui_X0 hown hK hM (hO.fr hF hd) hi 4 (by decide) (ht _ uw_127) dX0_copyFrom_34 ?_
  refine rv_putG hx hb ht ui_X0 hown hK hM hS hR hF hi 4 (by decide) (ht _ uw_127) dX0_copyFrom_37 (fun M H locs hM hR hF hS => ?_)
  refine lv_aload_n hx hb dX0_copyFrom_40 rfl (lv_at hl 0 rfl) ?_
  refine lv_aload_n hx hb dX0_copyFrom_41 rfl (lv_at hl 1 rfl) ?_
  refine rv_getG hx hb ht ui_X0 hown hK hM (hO.fr hF hd) hi 5 (by decide) (ht _ uw_130) dX0_copyFrom_42 ?_
  refine rv_putG hx hb ht ui_X0 hown hK hM hS hR hF hi 5 (by decide) (ht _ uw_130) dX0_copyFrom_45 (fun M H locs hM hR hF hS => ?_)
  refine lv_aload_n hx hb dX0_copyFrom_48 rfl (lv_at hl 0 rfl) ?_
  refine lv_aload_n hx hb dX0_copyFrom_49 rfl (lv_at hl 1 rfl) ?_
  refine rv_getG hx hb ht ui_X0 hown hK hM (hO.fr hF hd) hi 6 (by decide) (ht _ uw_132) dX0_copyFrom_50 ?_
  refine rv_putG hx hb ht ui_X0 hown hK hM hS hR hF hi 6 (by decide) (ht _ uw_132) dX0_copyFrom_53 (fun M H locs hM hR hF hS => ?_)
  refine lv_aload_n hx hb dX0_copyFrom_56 rfl (lv_at hl 0 rfl) ?_
  refine lv_aload_n hx hb dX0_copyFrom_57 rfl (lv_at hl 1 rfl) ?_
  refine rv_getG hx hb ht ui_X0 hown hK hM (hO.fr hF hd) hi 7 (by decide) (ht _ uw_134) dX0_copyFrom_58 ?_
  refine rv_putG hx hb ht ui_X0 hown hK hM hS hR hF hi 7 (by decide) (ht _ uw_134) dX0_copyFrom_61 (fun M H locs hM hR hF hS => ?_)
  refine lv_aload_n hx hb dX0_copyFrom_64 rfl (lv_at hl 0 rfl) ?_
  refine rv_getpg hx hb ht ui_X0 hown hK hM hR hi (ht _ uw_136) dX0_copyFrom_65 ?_
  refine lv_aload_n hx hb dX0_copyFrom_68 rfl (lv_at hl 1 rfl) ?_
  refine rv_getpg hx hb ht ui_X0 hown hK hM (hO.fr hF hd) hi (ht _ uw_136) dX0_copyFrom_69 ?_
  refine m_callV (As := [.ref (b2 + 4 + 2 * i)]) (rest := []) ⟨hx, hb, hml, hown, ht⟩ (k_X4_copyFrom l g A M b π (vG (vG (vG (vG (vG (vG (vG (vG v i 0 (v2.2.1 i 0)) i 1 (v2.2.1 i 1)) i 2 (v2.2.1 i 2)) i 3 (v2.2.1 i 3)) i 4 (v2.2.1 i 4)) i 5 (v2.2.1 i 5)) i 6 (v2.2.1 i 6)) i 7 (v2.2.1 i 7)) i b2 π2 v2 hR (hO.fr hF hd) hd hi) (cwV 1 ht (gU uw_320 uw_321 uw_322 uw_37 uw_323) rfl rfl rfl (by decide +kernel) ⟨by decide, by decide⟩) hK hM hS (m_recv hK hM (hR.AP hi) (hR.P hi) rfl) rfl hl.1 rfl (Nat.le_of_ble_eq_true rfl) dX0_copyFrom_72 ⟨by decide, by decide⟩ (fun M H locs hp hM hS => ?_)
  obtain ⟨hR, hF1⟩ := hp
  have hF := hF.tr hF1
  subst hQ
  exact m_vret hx hb hr hlk hK hM hS dX0_copyFrom_75 (⟨RepV.eq hR (by refine Prod.ext rfl (Prod.ext ?_ rfl); exact cp_gauge _ _ _), hF⟩)

set_option maxHeartbeats 4000000 in
set_option maxRecDepth 100000 in
/-- a runner counts as lost -/
theorem k_X6_countAsLost (l : Launch) (g : GG) (A : Nat → Prop) (M0 : MM) (b : Nat) (π : Nat → Nat) (v : VV) (j : Nat) (hR : RepV g A M0 b π v) (hj : j < 20) : Met l yX6_countAsLost (Uw yX6_countAsLost cX6_countAsLost 3 (Option.none : Option ClassFile.FieldType)) (rmD 1) (PreM [.ref (b), .ref (b + 15 + π j)] g A M0) (PosV (fun M1 => RepV g A M1 b π (cosC v j) ∧ FrV b M0 M1) g A) 0 0 A := by
  refine mk_Met (own := RX6) rfl rfl (by decide) (Nat.le_of_ble_eq_true rfl) ?_
  intro p e s m below meth c ls aa Q haa hQ hx hb hr hlk hml hown hts hK hM hS hl hnm
  obtain ⟨M, hMM⟩ : ∃ M, M = M0 := ⟨_, rfl⟩
  rw [← hMM] at hM hR
  have ht : ∀ w ∈ lw_good, w.before _ s = true := fun w h => hts w (List.mem_cons_of_mem _ h)
  have hF : FrV b M0 M := by rw [hMM]; exact FrV.rf
  have hl : lv_has ls 3 [(0, .ref (b)), (1, .ref (b + 15 + π j))] := hl
  rcases gxn_cases (n := 6) (by decide) (v.2.2 j 0) with ⟨e1, h1⟩ | ⟨i, hi, ex, e1⟩
  · refine lv_aload_n hx hb dX6_countAsLost_0 rfl (lv_at hl 0 rfl) ?_
    refine lv_aload_n hx hb dX6_countAsLost_1 rfl (lv_at hl 1 rfl) ?_
    refine rv_getR hx hb ht ui_X5 hown hK hM hR hj 0 (by decide) (ht _ uw_165) dX6_countAsLost_2 ?_
    refine m_callRQ (val := none) (w := .null) (rfl) (As := [.int (v.2.2 j 0)]) (rest := []) ⟨hx, hb, hml, hown, ht⟩ (k_X6_gaugeAt l g A M b π v (v.2.2 j 0) none hR e1) (cwV 1 ht (gU uw_336 uw_337 uw_338 uw_35 uw_339) rfl rfl rfl (by decide +kernel) ⟨by decide, by decide⟩) hK hM hS (m_recv hK hM hR.AW hR.W rfl) rfl hl.1 rfl (Nat.le_of_ble_eq_true rfl) dX6_countAsLost_5 ⟨by decide, by decide⟩ (fun H locs hM hS => ?_)
    refine lv_astore_nN (lv' := [(2, .null), (0, .ref (b)), (1, .ref (b + 15 + π j))]) hx hb dX6_countAsLost_8 rfl hl (by decide) rfl (fun ls hl => ?_)
    refine lv_aload_nN hx hb dX6_countAsLost_9 rfl (lv_at hl 0 rfl) ?_
    refine lv_ifnullN (tgt := 26) hx hb dX6_countAsLost_10 (by decide) ?_
    subst hQ
    exact m_vret hx hb hr hlk hK hM hS dX6_countAsLost_26 (⟨RepV.eq hR (by unfold cosC; rw [e1]), hF⟩)
  · refine lv_aload_n hx hb dX6_countAsLost_0 rfl (lv_at hl 0 rfl) ?_
    refine lv_aload_n hx hb dX6_countAsLost_1 rfl (lv_at hl 1 rfl) ?_
    refine rv_getR hx hb ht ui_X5 hown hK hM hR hj 0 (by decide) (ht _ uw_165) dX6_countAsLost_2 ?_
    refine m_callRQ (val := some (b + 3 + 2 * i)) (w := .ref (b + 3 + 2 * i)) (rfl) (As := [.int (v.2.2 j 0)]) (rest := []) ⟨hx, hb, hml, hown, ht⟩ (k_X6_gaugeAt l g A M b π v (v.2.2 j 0) (some i) hR e1) (cwV 1 ht (gU uw_336 uw_337 uw_338 uw_35 uw_339) rfl rfl rfl (by decide +kernel) ⟨by decide, by decide⟩) hK hM hS (m_recv hK hM hR.AW hR.W rfl) rfl hl.1 rfl (Nat.le_of_ble_eq_true rfl) dX6_countAsLost_5 ⟨by decide, by decide⟩ (fun H locs hM hS => ?_)
    refine lv_astore_n (lv' := [(2, .ref (b + 3 + 2 * i)), (0, .ref (b)), (1, .ref (b + 15 + π j))]) hx hb dX6_countAsLost_8 rfl hl (by decide) rfl (fun ls hl => ?_)
    refine lv_aload_n hx hb dX6_countAsLost_9 rfl (lv_at hl 0 rfl) ?_
    refine lv_ifnull hx hb dX6_countAsLost_10 ?_
    refine lv_aload_n hx hb dX6_countAsLost_13 rfl (lv_at hl 0 rfl) ?_
    refine rv_getpg hx hb ht ui_X0 hown hK hM hR hi (ht _ uw_138) dX6_countAsLost_14 ?_
    refine lv_dup hx hb dX6_countAsLost_17 rfl ?_
    refine rv_getP hx hb ht ui_X4 hown hK hM hR hi 7 (by decide) (ht _ uw_97) dX6_countAsLost_18 ?_
    refine lv_iconst (v := 1) hx hb dX6_countAsLost_21 (by first | rfl | decide) ?_
    refine lv_iadd hx hb dX6_countAsLost_22 ?_
    refine rv_putP hx hb ht ui_X4 hown hK hM hS hR hF hi 7 (by decide) (ht _ uw_97) dX6_countAsLost_23 (fun M H locs hM hR hF hS => ?_)
    subst hQ
    exact m_vret hx hb hr hlk hK hM hS dX6_countAsLost_26 (⟨RepV.eq hR (by unfold cosC; rw [e1]), hF⟩)

set_option maxHeartbeats 4000000 in
set_option maxRecDepth 100000 in
/-- the tips that the village lets expect -/
theorem k_X6_expectedTips (l : Launch) (g : GG) (A : Nat → Prop) (M0 : MM) (b : Nat) (π : Nat → Nat) (v : VV) (i j : Nat) (hR : RepV g A M0 b π v) (hi : i < 6) (hj : j < 20) : Met l yX6_expectedTips (Uw yX6_expectedTips cX6_expectedTips 5 (Option.some ClassFile.FieldType.int)) (rmD 0) (PreM [.ref (b), .ref (b + 3 + 2 * i), .ref (b + 15 + π j)] g A M0) (PosI (fun r M1 => r = (expC v i j) ∧ M1 = M0) g A) 0 0 A := by
  refine mk_Met (own := RX6) rfl rfl (by decide) (Nat.le_of_ble_eq_true rfl) ?_
  intro p e s m below meth c ls aa Q haa hQ hx hb hr hlk hml hown hts hK hM hS hl hnm
  obtain ⟨M, hMM⟩ : ∃ M, M = M0 := ⟨_, rfl⟩
  rw [← hMM] at hM hR
  have ht : ∀ w ∈ lw_good, w.before _ s = true := fun w h => hts w (List.mem_cons_of_mem _ h)
  have hF : FrV b M0 M := by rw [hMM]; exact FrV.rf
  have hl : lv_has ls 5 [(0, .ref (b)), (1, .ref (b + 3 + 2 * i)), (2, .ref (b + 15 + π j))] := hl
  refine lv_aload_n hx hb dX6_expectedTips_0 rfl (lv_at hl 0 rfl) ?_
  refine rv_getga hx hb ht ui_X6 hown hK hM hR (ht _ uw_196) dX6_expectedTips_1 ?_
  refine lv_iconst (v := nI 0) hx hb dX6_expectedTips_4 (by first | rfl | decide) ?_
  refine rv_aldG hx hb hK hM hR ((by decide : 0 < 6)) dX6_expectedTips_5 ?_
  refine rv_getG hx hb ht ui_X0 hown hK hM hR ((by decide : 0 < 6)) 0 (by decide) (ht _ uw_117) dX6_expectedTips_6 ?_
  refine lv_istore_n (lv' := [(3, .int (v.2.1 0 0)), (0, .ref (b)), (1, .ref (b + 3 + 2 * i)), (2, .ref (b + 15 + π j))]) hx hb dX6_expectedTips_9 rfl hl (by decide) rfl (fun ls hl => ?_)
  refine lv_iload_n hx hb dX6_expectedTips_10 rfl (lv_at hl 0 rfl) ?_
  refine lv_if_le (tgt := 21) hx hb dX6_expectedTips_11 (by decide) (fun c_11 => ?_) (fun c_11 => ?_)
  · refine lv_iconst (v := nI 0) hx hb dX6_expectedTips_21 (by first | rfl | decide) ?_
    subst hQ
    exact m_zret hx hb hr rfl hlk hK hM hS dX6_expectedTips_22 (⟨by unfold expC; first | rw [if_pos (Or.inl c_11)]; rfl | (rw [if_pos (Or.inr (Int32.not_lt.mp c_18))]; rfl) | rw [if_neg (fun q => q.elim c_11 (Int32.not_le.mpr c_18))], hMM⟩)
  · refine lv_aload_n hx hb dX6_expectedTips_14 rfl (lv_at hl 2 rfl) ?_
    refine rv_getG hx hb ht ui_X0 hown hK hM hR hi 1 (by decide) (ht _ uw_120) dX6_expectedTips_15 ?_
    refine lv_if_gt (tgt := 23) hx hb dX6_expectedTips_18 (by decide) (fun c_18 => ?_) (fun c_18 => ?_)
    · refine lv_aload_n hx hb dX6_expectedTips_23 rfl (lv_at hl 3 rfl) ?_
      refine rv_getR hx hb ht ui_X5 hown hK hM hR hj 3 (by decide) (ht _ uw_173) dX6_expectedTips_24 ?_
      refine lv_aload_n hx hb dX6_expectedTips_27 rfl (lv_at hl 2 rfl) ?_
      refine rv_getpg hx hb ht ui_X0 hown hK hM hR hi (ht _ uw_138) dX6_expectedTips_28 ?_
      refine rv_getP hx hb ht ui_X4 hown hK hM hR hi 3 (by decide) (ht _ uw_85) dX6_expectedTips_31 ?_
      refine lv_isub hx hb dX6_expectedTips_34 ?_
      refine lv_istore (lv' := [(4, .int ((v.2.2 j 3) - (v.2.1 i 11))), (3, .int (v.2.1 0 0)), (0, .ref (b)), (1, .ref (b + 3 + 2 * i)), (2, .ref (b + 15 + π j))]) hx hb dX6_expectedTips_35 hl (by decide) rfl (fun ls hl => ?_)
      refine lv_iload hx hb dX6_expectedTips_37 (lv_at hl 0 rfl) ?_
      refine lv_aload_n hx hb dX6_expectedTips_39 rfl (lv_at hl 3 rfl) ?_
      refine rv_getG hx hb ht ui_X0 hown hK hM hR hi 0 (by decide) (ht _ uw_117) dX6_expectedTips_40 ?_
      refine lv_imul hx hb dX6_expectedTips_43 ?_
      refine lv_iload_n hx hb dX6_expectedTips_44 rfl (lv_at hl 1 rfl) ?_
      refine lv_idiv hx hb dX6_expectedTips_45 (c_nz c_11) ?_
      refine lv_aload_n hx hb dX6_expectedTips_46 rfl (lv_at hl 3 rfl) ?_
      refine rv_getG hx hb ht ui_X0 hown hK hM hR hi 1 (by decide) (ht _ uw_120) dX6_expectedTips_47 ?_
      refine lv_idiv hx hb dX6_expectedTips_50 (c_nz (Int32.not_le.mpr c_18)) ?_
      subst hQ
      exact m_zret hx hb hr rfl hlk hK hM hS dX6_expectedTips_51 (⟨by unfold expC; first | rw [if_pos (Or.inl c_11)]; rfl | (rw [if_pos (Or.inr (Int32.not_lt.mp c_18))]; rfl) | rw [if_neg (fun q => q.elim c_11 (Int32.not_le.mpr c_18))], hMM⟩)
    · refine lv_iconst (v := nI 0) hx hb dX6_expectedTips_21 (by first | rfl | decide) ?_
      subst hQ
      exact m_zret hx hb hr rfl hlk hK hM hS dX6_expectedTips_22 (⟨by unfold expC; first | rw [if_pos (Or.inl c_11)]; rfl | (rw [if_pos (Or.inr (Int32.not_lt.mp c_18))]; rfl) | rw [if_neg (fun q => q.elim c_11 (Int32.not_le.mpr c_18))], hMM⟩)

set_option maxHeartbeats 4000000 in
set_option maxRecDepth 100000 in
/-- the rounds of the wheel that come nearer -/
theorem k_X6_roundsFor (l : Launch) (g : GG) (A : Nat → Prop) (M0 : MM) (b : Nat) (π : Nat → Nat) (v : VV) (x : Int32) (hR : RepV g A M0 b π v)  : Met l yX6_roundsFor (Uw yX6_roundsFor cX6_roundsFor 2 (Option.some ClassFile.FieldType.int)) (rmD 0) (PreM [.ref (b), .int (x)] g A M0) (PosI (fun r M1 => r = (rouC v x) ∧ M1 = M0) g A) 0 0 A := by
  refine mk_Met (own := RX6) rfl rfl (by decide) (Nat.le_of_ble_eq_true rfl) ?_
  intro p e s m below meth c ls aa Q haa hQ hx hb hr hlk hml hown hts hK hM hS hl hnm
  obtain ⟨M, hMM⟩ : ∃ M, M = M0 := ⟨_, rfl⟩
  rw [← hMM] at hM hR
  have ht : ∀ w ∈ lw_good, w.before _ s = true := fun w h => hts w (List.mem_cons_of_mem _ h)
  have hF : FrV b M0 M := by rw [hMM]; exact FrV.rf
  have hl : lv_has ls 2 [(0, .ref (b)), (1, .int (x))] := hl
  refine lv_iload_n hx hb dX6_roundsFor_0 rfl (lv_at hl 1 rfl) ?_
  refine lv_if_le (tgt := 11) hx hb dX6_roundsFor_1 (by decide) (fun c_1 => ?_) (fun c_1 => ?_)
  · refine lv_iconst (v := 0) hx hb dX6_roundsFor_11 (by first | rfl | decide) ?_
    subst hQ
    exact m_zret hx hb hr rfl hlk hK hM hS dX6_roundsFor_12 (⟨by unfold rouC; first | rw [if_pos (Or.inl c_1)] | rw [if_pos (Or.inr (Int32.not_lt.mp c_8))] | rw [if_neg (fun q => q.elim c_1 (Int32.not_le.mpr c_8))], hMM⟩)
  · refine lv_aload_n hx hb dX6_roundsFor_4 rfl (lv_at hl 0 rfl) ?_
    refine rv_getW hx hb ht ui_X6 hown hK hM hR 0 (by decide) (ht _ uw_188) dX6_roundsFor_5 ?_
    refine lv_if_gt (tgt := 13) hx hb dX6_roundsFor_8 (by decide) (fun c_8 => ?_) (fun c_8 => ?_)
    · refine lv_iconst (v := 2) hx hb dX6_roundsFor_13 (by first | rfl | decide) ?_
      refine lv_iload_n hx hb dX6_roundsFor_14 rfl (lv_at hl 1 rfl) ?_
      refine lv_imul hx hb dX6_roundsFor_15 ?_
      refine lv_aload_n hx hb dX6_roundsFor_16 rfl (lv_at hl 0 rfl) ?_
      refine rv_getW hx hb ht ui_X6 hown hK hM hR 0 (by decide) (ht _ uw_188) dX6_roundsFor_17 ?_
      refine lv_iadd hx hb dX6_roundsFor_20 ?_
      refine lv_iconst (v := 1) hx hb dX6_roundsFor_21 (by first | rfl | decide) ?_
      refine lv_isub hx hb dX6_roundsFor_22 ?_
      refine lv_iconst (v := 2) hx hb dX6_roundsFor_23 (by first | rfl | decide) ?_
      refine lv_aload_n hx hb dX6_roundsFor_24 rfl (lv_at hl 0 rfl) ?_
      refine rv_getW hx hb ht ui_X6 hown hK hM hR 0 (by decide) (ht _ uw_188) dX6_roundsFor_25 ?_
      refine lv_imul hx hb dX6_roundsFor_28 ?_
      refine lv_idiv hx hb dX6_roundsFor_29 (two_nz (Int32.not_le.mpr c_8)) ?_
      subst hQ
      exact m_zret hx hb hr rfl hlk hK hM hS dX6_roundsFor_30 (⟨by unfold rouC; first | rw [if_pos (Or.inl c_1)] | rw [if_pos (Or.inr (Int32.not_lt.mp c_8))] | rw [if_neg (fun q => q.elim c_1 (Int32.not_le.mpr c_8))], hMM⟩)
    · refine lv_iconst (v := 0) hx hb dX6_roundsFor_11 (by first | rfl | decide) ?_
      subst hQ
      exact m_zret hx hb hr rfl hlk hK hM hS dX6_roundsFor_12 (⟨by unfold rouC; first | rw [if_pos (Or.inl c_1)] | rw [if_pos (Or.inr (Int32.not_lt.mp c_8))] | rw [if_neg (fun q => q.elim c_1 (Int32.not_le.mpr c_8))], hMM⟩)

set_option maxHeartbeats 4000000 in
set_option maxRecDepth 100000 in
/-- what the wheel went on -/
theorem k_X6_wentOn (l : Launch) (g : GG) (A : Nat → Prop) (M0 : MM) (b : Nat) (π : Nat → Nat) (v : VV) (i j : Nat) (hR : RepV g A M0 b π v) (hi : i < 6) (hj : j < 20) : Met l yX6_wentOn (Uw yX6_wentOn cX6_wentOn 4 (Option.some ClassFile.FieldType.int)) (rmD 1) (PreM [.ref (b), .ref (b + 3 + 2 * i), .ref (b + 15 + π j)] g A M0) (PosI (fun r M1 => r = (wenC v i j) ∧ M1 = M0) g A) 0 0 A := by
  refine mk_Met (own := RX6) rfl rfl (by decide) (Nat.le_of_ble_eq_true rfl) ?_
  intro p e s m below meth c ls aa Q haa hQ hx hb hr hlk hml hown hts hK hM hS hl hnm
  obtain ⟨M, hMM⟩ : ∃ M, M = M0 := ⟨_, rfl⟩
  rw [← hMM] at hM hR
  have ht : ∀ w ∈ lw_good, w.before _ s = true := fun w h => hts w (List.mem_cons_of_mem _ h)
  have hF : FrV b M0 M := by rw [hMM]; exact FrV.rf
  have hl : lv_has ls 4 [(0, .ref (b)), (1, .ref (b + 3 + 2 * i)), (2, .ref (b + 15 + π j))] := hl
  refine lv_aload_n hx hb dX6_wentOn_0 rfl (lv_at hl 0 rfl) ?_
  refine lv_aload_n hx hb dX6_wentOn_1 rfl (lv_at hl 2 rfl) ?_
  refine rv_getR hx hb ht ui_X5 hown hK hM hR hj 1 (by decide) (ht _ uw_167) dX6_wentOn_2 ?_
  refine m_callRI (val := whC v (v.2.2 j 1)) (As := [.int (v.2.2 j 1)]) (rest := []) ⟨hx, hb, hml, hown, ht⟩ (k_X6_wheelAt l g A M b π v (v.2.2 j 1) hR) (cwV 1 ht (gU uw_376 uw_377 uw_378 uw_35 uw_379) rfl rfl rfl (by decide +kernel) ⟨by decide, by decide⟩) hK hM hS (m_recv hK hM hR.AW hR.W rfl) rfl hl.1 rfl (Nat.le_of_ble_eq_true rfl) dX6_wentOn_5 ⟨by decide, by decide⟩ (fun H locs hM hS => ?_)
  refine lv_aload_n hx hb dX6_wentOn_8 rfl (lv_at hl 0 rfl) ?_
  refine lv_aload_n hx hb dX6_wentOn_9 rfl (lv_at hl 1 rfl) ?_
  refine rv_getpg hx hb ht ui_X0 hown hK hM hR hi (ht _ uw_138) dX6_wentOn_10 ?_
  refine rv_getP hx hb ht ui_X4 hown hK hM hR hi 2 (by decide) (ht _ uw_83) dX6_wentOn_13 ?_
  refine m_callRI (val := whC v (v.2.1 i 10)) (As := [.int (v.2.1 i 10)]) (rest := [.int (whC v (v.2.2 j 1))]) ⟨hx, hb, hml, hown, ht⟩ (k_X6_wheelAt l g A M b π v (v.2.1 i 10) hR) (cwV 1 ht (gU uw_376 uw_377 uw_378 uw_35 uw_379) rfl rfl rfl (by decide +kernel) ⟨by decide, by decide⟩) hK hM hS (m_recv hK hM hR.AW hR.W rfl) rfl hl.1 rfl (Nat.le_of_ble_eq_true rfl) dX6_wentOn_16 ⟨by decide, by decide⟩ (fun H locs hM hS => ?_)
  refine lv_isub hx hb dX6_wentOn_19 ?_
  refine lv_topi (fun n1 e_n1 => ?_)
  refine lv_istore_n (lv' := [(3, .int (n1)), (0, .ref (b)), (1, .ref (b + 3 + 2 * i)), (2, .ref (b + 15 + π j))]) hx hb dX6_wentOn_20 rfl hl (by decide) rfl (fun ls hl => ?_)
  refine lv_iload_n hx hb dX6_wentOn_21 rfl (lv_at hl 0 rfl) ?_
  refine lv_if_ge (tgt := 32) hx hb dX6_wentOn_22 (by decide) (fun c_22 => ?_) (fun c_22 => ?_)
  · refine lv_aload_n hx hb dX6_wentOn_32 rfl (lv_at hl 1 rfl) ?_
    refine rv_getW hx hb ht ui_X6 hown hK hM hR 1 (by decide) (ht _ uw_190) dX6_wentOn_33 ?_
    refine lv_iconst (v := 1) hx hb dX6_wentOn_36 (by first | rfl | decide) ?_
    refine lv_icmp_ne (tgt := 60) hx hb dX6_wentOn_37 (by decide) (fun c_37 => ?_) (fun c_37 => ?_)
    · refine lv_iload_n hx hb dX6_wentOn_60 rfl (lv_at hl 0 rfl) ?_
      subst hQ
      exact m_zret hx hb hr rfl hlk hK hM hS dX6_wentOn_61 (⟨by first | exact wen_a e_n1 c_22 c_37 | exact wen_b e_n1 c_22 c_37 | exact wen_c e_n1 c_22 e_n2 c_37 | exact wen_d e_n1 c_22 e_n2 c_37, hMM⟩)
    · refine lv_iload_n hx hb dX6_wentOn_40 rfl (lv_at hl 0 rfl) ?_
      refine lv_aload_n hx hb dX6_wentOn_41 rfl (lv_at hl 1 rfl) ?_
      refine rv_getW hx hb ht ui_X6 hown hK hM hR 0 (by decide) (ht _ uw_188) dX6_wentOn_42 ?_
      refine lv_aload_n hx hb dX6_wentOn_45 rfl (lv_at hl 1 rfl) ?_
      refine lv_aload_n hx hb dX6_wentOn_46 rfl (lv_at hl 1 rfl) ?_
      refine lv_aload_n hx hb dX6_wentOn_47 rfl (lv_at hl 2 rfl) ?_
      refine lv_aload_n hx hb dX6_wentOn_48 rfl (lv_at hl 3 rfl) ?_
      refine m_callRI (val := expC v i j) (As := [.ref (b + 3 + 2 * i), .ref (b + 15 + π j)]) (rest := [.ref (b), .int (v.1 0), .int (n1)]) ⟨hx, hb, hml, hown, ht⟩ (k_X6_expectedTips l g A M b π v i j hR hi hj) (cwV 2 ht (gU uw_384 uw_386 uw_4 uw_35 uw_387) rfl rfl rfl (by decide +kernel) ⟨by decide, by decide⟩) hK hM hS (m_recv hK hM hR.AW hR.W rfl) rfl hl.1 rfl (Nat.le_of_ble_eq_true rfl) dX6_wentOn_49 ⟨by decide, by decide⟩ (fun H locs hM hS => ?_)
      refine lv_iload_n hx hb dX6_wentOn_52 rfl (lv_at hl 0 rfl) ?_
      refine lv_isub hx hb dX6_wentOn_53 ?_
      refine m_callRI (val := rouC v ((expC v i j) - (n1))) (As := [.int ((expC v i j) - (n1))]) (rest := [.int (v.1 0), .int (n1)]) ⟨hx, hb, hml, hown, ht⟩ (k_X6_roundsFor l g A M b π v ((expC v i j) - (n1)) hR) (cwV 1 ht (gU uw_388 uw_390 uw_5 uw_35 uw_391) rfl rfl rfl (by decide +kernel) ⟨by decide, by decide⟩) hK hM hS (m_recv hK hM hR.AW hR.W rfl) rfl hl.1 rfl (Nat.le_of_ble_eq_true rfl) dX6_wentOn_54 ⟨by decide, by decide⟩ (fun H locs hM hS => ?_)
      refine lv_imul hx hb dX6_wentOn_57 ?_
      refine lv_iadd hx hb dX6_wentOn_58 ?_
      refine lv_istore_n (lv' := [(3, .int ((n1) + ((v.1 0) * (rouC v ((expC v i j) - (n1)))))), (0, .ref (b)), (1, .ref (b + 3 + 2 * i)), (2, .ref (b + 15 + π j))]) hx hb dX6_wentOn_59 rfl hl (by decide) rfl (fun ls hl => ?_)
      refine lv_iload_n hx hb dX6_wentOn_60 rfl (lv_at hl 0 rfl) ?_
      subst hQ
      exact m_zret hx hb hr rfl hlk hK hM hS dX6_wentOn_61 (⟨by first | exact wen_a e_n1 c_22 c_37 | exact wen_b e_n1 c_22 c_37 | exact wen_c e_n1 c_22 e_n2 c_37 | exact wen_d e_n1 c_22 e_n2 c_37, hMM⟩)
  · refine lv_iload_n hx hb dX6_wentOn_25 rfl (lv_at hl 0 rfl) ?_
    refine lv_aload_n hx hb dX6_wentOn_26 rfl (lv_at hl 1 rfl) ?_
    refine rv_getW hx hb ht ui_X6 hown hK hM hR 0 (by decide) (ht _ uw_188) dX6_wentOn_27 ?_
    refine lv_iadd hx hb dX6_wentOn_30 ?_
    refine lv_topi (fun n2 e_n2 => ?_)
    refine lv_istore_n (lv' := [(3, .int (n2)), (0, .ref (b)), (1, .ref (b + 3 + 2 * i)), (2, .ref (b + 15 + π j))]) hx hb dX6_wentOn_31 rfl hl (by decide) rfl (fun ls hl => ?_)
    refine lv_aload_n hx hb dX6_wentOn_32 rfl (lv_at hl 1 rfl) ?_
    refine rv_getW hx hb ht ui_X6 hown hK hM hR 1 (by decide) (ht _ uw_190) dX6_wentOn_33 ?_
    refine lv_iconst (v := 1) hx hb dX6_wentOn_36 (by first | rfl | decide) ?_
    refine lv_icmp_ne (tgt := 60) hx hb dX6_wentOn_37 (by decide) (fun c_37 => ?_) (fun c_37 => ?_)
    · refine lv_iload_n hx hb dX6_wentOn_60 rfl (lv_at hl 0 rfl) ?_
      subst hQ
      exact m_zret hx hb hr rfl hlk hK hM hS dX6_wentOn_61 (⟨by first | exact wen_a e_n1 c_22 c_37 | exact wen_b e_n1 c_22 c_37 | exact wen_c e_n1 c_22 e_n2 c_37 | exact wen_d e_n1 c_22 e_n2 c_37, hMM⟩)
    · refine lv_iload_n hx hb dX6_wentOn_40 rfl (lv_at hl 0 rfl) ?_
      refine lv_aload_n hx hb dX6_wentOn_41 rfl (lv_at hl 1 rfl) ?_
      refine rv_getW hx hb ht ui_X6 hown hK hM hR 0 (by decide) (ht _ uw_188) dX6_wentOn_42 ?_
      refine lv_aload_n hx hb dX6_wentOn_45 rfl (lv_at hl 1 rfl) ?_
      refine lv_aload_n hx hb dX6_wentOn_46 rfl (lv_at hl 1 rfl) ?_
      refine lv_aload_n hx hb dX6_wentOn_47 rfl (lv_at hl 2 rfl) ?_
      refine lv_aload_n hx hb dX6_wentOn_48 rfl (lv_at hl 3 rfl) ?_
      refine m_callRI (val := expC v i j) (As := [.ref (b + 3 + 2 * i), .ref (b + 15 + π j)]) (rest := [.ref (b), .int (v.1 0), .int (n2)]) ⟨hx, hb, hml, hown, ht⟩ (k_X6_expectedTips l g A M b π v i j hR hi hj) (cwV 2 ht (gU uw_384 uw_386 uw_4 uw_35 uw_387) rfl rfl rfl (by decide +kernel) ⟨by decide, by decide⟩) hK hM hS (m_recv hK hM hR.AW hR.W rfl) rfl hl.1 rfl (Nat.le_of_ble_eq_true rfl) dX6_wentOn_49 ⟨by decide, by decide⟩ (fun H locs hM hS => ?_)
      refine lv_iload_n hx hb dX6_wentOn_52 rfl (lv_at hl 0 rfl) ?_
      refine lv_isub hx hb dX6_wentOn_53 ?_
      refine m_callRI (val := rouC v ((expC v i j) - (n2))) (As := [.int ((expC v i j) - (n2))]) (rest := [.int (v.1 0), .int (n2)]) ⟨hx, hb, hml, hown, ht⟩ (k_X6_roundsFor l g A M b π v ((expC v i j) - (n2)) hR) (cwV 1 ht (gU uw_388 uw_390 uw_5 uw_35 uw_391) rfl rfl rfl (by decide +kernel) ⟨by decide, by decide⟩) hK hM hS (m_recv hK hM hR.AW hR.W rfl) rfl hl.1 rfl (Nat.le_of_ble_eq_true rfl) dX6_wentOn_54 ⟨by decide, by decide⟩ (fun H locs hM hS => ?_)
      refine lv_imul hx hb dX6_wentOn_57 ?_
      refine lv_iadd hx hb dX6_wentOn_58 ?_
      refine lv_istore_n (lv' := [(3, .int ((n2) + ((v.1 0) * (rouC v ((expC v i j) - (n2)))))), (0, .ref (b)), (1, .ref (b + 3 + 2 * i)), (2, .ref (b + 15 + π j))]) hx hb dX6_wentOn_59 rfl hl (by decide) rfl (fun ls hl => ?_)
      refine lv_iload_n hx hb dX6_wentOn_60 rfl (lv_at hl 0 rfl) ?_
      subst hQ
      exact m_zret hx hb hr rfl hlk hK hM hS dX6_wentOn_61 (⟨by first | exact wen_a e_n1 c_22 c_37 | exact wen_b e_n1 c_22 c_37 | exact wen_c e_n1 c_22 e_n2 c_37 | exact wen_d e_n1 c_22 e_n2 c_37, hMM⟩)

set_option maxHeartbeats 4000000 in
set_option maxRecDepth 100000 in
/-- what a runner tells comes into the ledger -/
theorem k_X6_hear (l : Launch) (g : GG) (A : Nat → Prop) (M0 : MM) (b : Nat) (π : Nat → Nat) (v : VV) (j : Nat) (hR : RepV g A M0 b π v) (hj : j < 20) : Met l yX6_hear (Uw yX6_hear cX6_hear 4 (Option.none : Option ClassFile.FieldType)) (rmD 2) (PreM [.ref (b), .ref (b + 15 + π j)] g A M0) (PosV (fun M1 => RepV g A M1 b π (heaC v j) ∧ FrV b M0 M1) g A) 0 0 A := by
  refine mk_Met (own := RX6) rfl rfl (by decide) (Nat.le_of_ble_eq_true rfl) ?_
  intro p e s m below meth c ls aa Q haa hQ hx hb hr hlk hml hown hts hK hM hS hl hnm
  obtain ⟨M, hMM⟩ : ∃ M, M = M0 := ⟨_, rfl⟩
  rw [← hMM] at hM hR
  have ht : ∀ w ∈ lw_good, w.before _ s = true := fun w h => hts w (List.mem_cons_of_mem _ h)
  have hF : FrV b M0 M := by rw [hMM]; exact FrV.rf
  have hl : lv_has ls 4 [(0, .ref (b)), (1, .ref (b + 15 + π j))] := hl
  rcases gxn_cases (n := 6) (by decide) (v.2.2 j 0) with ⟨e1, h1⟩ | ⟨i, hi, ex, e1⟩
  · refine lv_aload_n hx hb dX6_hear_0 rfl (lv_at hl 0 rfl) ?_
    refine lv_aload_n hx hb dX6_hear_1 rfl (lv_at hl 1 rfl) ?_
    refine rv_getR hx hb ht ui_X5 hown hK hM hR hj 0 (by decide) (ht _ uw_165) dX6_hear_2 ?_
    refine m_callRQ (val := none) (w := .null) (rfl) (As := [.int (v.2.2 j 0)]) (rest := []) ⟨hx, hb, hml, hown, ht⟩ (k_X6_gaugeAt l g A M b π v (v.2.2 j 0) none hR e1) (cwV 1 ht (gU uw_336 uw_337 uw_338 uw_35 uw_339) rfl rfl rfl (by decide +kernel) ⟨by decide, by decide⟩) hK hM hS (m_recv hK hM hR.AW hR.W rfl) rfl hl.1 rfl (Nat.le_of_ble_eq_true rfl) dX6_hear_5 ⟨by decide, by decide⟩ (fun H locs hM hS => ?_)
    refine lv_astore_nN (lv' := [(2, .null), (0, .ref (b)), (1, .ref (b + 15 + π j))]) hx hb dX6_hear_8 rfl hl (by decide) rfl (fun ls hl => ?_)
    refine lv_aload_nN hx hb dX6_hear_9 rfl (lv_at hl 0 rfl) ?_
    refine lv_ifnonnullN hx hb dX6_hear_10 ?_
    subst hQ
    exact m_vret hx hb hr hlk hK hM hS dX6_hear_13 (⟨RepV.eq hR (by unfold heaC; rw [e1]), hF⟩)
  · refine lv_aload_n hx hb dX6_hear_0 rfl (lv_at hl 0 rfl) ?_
    refine lv_aload_n hx hb dX6_hear_1 rfl (lv_at hl 1 rfl) ?_
    refine rv_getR hx hb ht ui_X5 hown hK hM hR hj 0 (by decide) (ht _ uw_165) dX6_hear_2 ?_
    refine m_callRQ (val := some (b + 3 + 2 * i)) (w := .ref (b + 3 + 2 * i)) (rfl) (As := [.int (v.2.2 j 0)]) (rest := []) ⟨hx, hb, hml, hown, ht⟩ (k_X6_gaugeAt l g A M b π v (v.2.2 j 0) (some i) hR e1) (cwV 1 ht (gU uw_336 uw_337 uw_338 uw_35 uw_339) rfl rfl rfl (by decide +kernel) ⟨by decide, by decide⟩) hK hM hS (m_recv hK hM hR.AW hR.W rfl) rfl hl.1 rfl (Nat.le_of_ble_eq_true rfl) dX6_hear_5 ⟨by decide, by decide⟩ (fun H locs hM hS => ?_)
    refine lv_astore_n (lv' := [(2, .ref (b + 3 + 2 * i)), (0, .ref (b)), (1, .ref (b + 15 + π j))]) hx hb dX6_hear_8 rfl hl (by decide) rfl (fun ls hl => ?_)
    refine lv_aload_n hx hb dX6_hear_9 rfl (lv_at hl 0 rfl) ?_
    refine lv_ifnonnull (tgt := 14) hx hb dX6_hear_10 (by decide) ?_
    refine lv_aload_n hx hb dX6_hear_14 rfl (lv_at hl 0 rfl) ?_
    refine rv_getpg hx hb ht ui_X0 hown hK hM hR hi (ht _ uw_138) dX6_hear_15 ?_
    refine lv_astore_n (lv' := [(3, .ref (b + 4 + 2 * i)), (2, .ref (b + 3 + 2 * i)), (0, .ref (b)), (1, .ref (b + 15 + π j))]) hx hb dX6_hear_18 rfl hl (by decide) rfl (fun ls hl => ?_)
    refine lv_aload_n hx hb dX6_hear_19 rfl (lv_at hl 3 rfl) ?_
    refine rv_getR hx hb ht ui_X5 hown hK hM hR hj 2 (by decide) (ht _ uw_170) dX6_hear_20 ?_
    refine lv_aload_n hx hb dX6_hear_23 rfl (lv_at hl 0 rfl) ?_
    refine rv_getP hx hb ht ui_X4 hown hK hM hR hi 1 (by decide) (ht _ uw_79) dX6_hear_24 ?_
    refine lv_icmp_ge (tgt := 43) hx hb dX6_hear_27 (by decide) (fun c_27 => ?_) (fun c_27 => ?_)
    · refine lv_aload_n hx hb dX6_hear_43 rfl (lv_at hl 0 rfl) ?_
      refine rv_getP hx hb ht ui_X4 hown hK hM hR hi 4 (by decide) (ht _ uw_88) dX6_hear_44 ?_
      refine lv_if_le (tgt := 93) hx hb dX6_hear_47 (by decide) (fun c_47 => ?_) (fun c_47 => ?_)
      · refine lv_aload_n hx hb dX6_hear_93 rfl (lv_at hl 0 rfl) ?_
        refine lv_dup hx hb dX6_hear_94 rfl ?_
        refine rv_getP hx hb ht ui_X4 hown hK hM hR hi 0 (by decide) (ht _ uw_76) dX6_hear_95 ?_
        refine lv_aload_n hx hb dX6_hear_98 rfl (lv_at hl 2 rfl) ?_
        refine lv_aload_n hx hb dX6_hear_99 rfl (lv_at hl 1 rfl) ?_
        refine lv_aload_n hx hb dX6_hear_100 rfl (lv_at hl 3 rfl) ?_
        refine m_callRI (val := wenC v i j) (As := [.ref (b + 3 + 2 * i), .ref (b + 15 + π j)]) (rest := [.int (v.2.1 i 8), .ref (b + 4 + 2 * i)]) ⟨hx, hb, hml, hown, ht⟩ (k_X6_wentOn l g A M b π v i j hR hi hj) (cwV 2 ht (gU uw_380 uw_382 uw_3 uw_35 uw_383) rfl rfl rfl (by decide +kernel) ⟨by decide, by decide⟩) hK hM hS (m_recv hK hM hR.AW hR.W rfl) rfl hl.1 rfl (Nat.le_of_ble_eq_true rfl) dX6_hear_101 ⟨by decide, by decide⟩ (fun H locs hM hS => ?_)
        refine lv_iadd hx hb dX6_hear_104 ?_
        refine rv_putP hx hb ht ui_X4 hown hK hM hS hR hF hi 0 (by decide) (ht _ uw_76) dX6_hear_105 (fun M H locs hM hR hF hS => ?_)
        refine lv_aload_n hx hb dX6_hear_108 rfl (lv_at hl 0 rfl) ?_
        refine lv_dup hx hb dX6_hear_109 rfl ?_
        refine rv_getP hx hb ht ui_X4 hown hK hM hR hi 4 (by decide) (ht _ uw_88) dX6_hear_110 ?_
        refine lv_iconst (v := 1) hx hb dX6_hear_113 (by first | rfl | decide) ?_
        refine lv_iadd hx hb dX6_hear_114 ?_
        refine rv_putP hx hb ht ui_X4 hown hK hM hS hR hF hi 4 (by decide) (ht _ uw_88) dX6_hear_115 (fun M H locs hM hR hF hS => ?_)
        refine lv_aload_n hx hb dX6_hear_118 rfl (lv_at hl 0 rfl) ?_
        refine lv_aload_n hx hb dX6_hear_119 rfl (lv_at hl 3 rfl) ?_
        refine rv_getR hx hb ht ui_X5 hown hK hM hR hj 2 (by decide) (ht _ uw_170) dX6_hear_120 ?_
        refine rv_putP hx hb ht ui_X4 hown hK hM hS hR hF hi 1 (by decide) (ht _ uw_79) dX6_hear_123 (fun M H locs hM hR hF hS => ?_)
        refine lv_aload_n hx hb dX6_hear_126 rfl (lv_at hl 0 rfl) ?_
        refine lv_aload_n hx hb dX6_hear_127 rfl (lv_at hl 3 rfl) ?_
        refine rv_getR hx hb ht ui_X5 hown hK hM hR hj 1 (by decide) (ht _ uw_167) dX6_hear_128 ?_
        refine rv_putP hx hb ht ui_X4 hown hK hM hS hR hF hi 2 (by decide) (ht _ uw_83) dX6_hear_131 (fun M H locs hM hR hF hS => ?_)
        refine lv_aload_n hx hb dX6_hear_134 rfl (lv_at hl 0 rfl) ?_
        refine lv_aload_n hx hb dX6_hear_135 rfl (lv_at hl 3 rfl) ?_
        refine rv_getR hx hb ht ui_X5 hown hK hM hR hj 3 (by decide) (ht _ uw_173) dX6_hear_136 ?_
        refine rv_putP hx hb ht ui_X4 hown hK hM hS hR hF hi 3 (by decide) (ht _ uw_85) dX6_hear_139 (fun M H locs hM hR hF hS => ?_)
        subst hQ
        exact m_vret hx hb hr hlk hK hM hS dX6_hear_142 (⟨RepV.eq hR (by first | exact hea_take1 e1 c_27 c_47 | exact hea_take2 e1 c_27 c_58 | exact hea_take3 e1 c_27 c_77), hF⟩)
      · refine lv_aload_n hx hb dX6_hear_50 rfl (lv_at hl 3 rfl) ?_
        refine rv_getR hx hb ht ui_X5 hown hK hM hR hj 2 (by decide) (ht _ uw_170) dX6_hear_51 ?_
        refine lv_aload_n hx hb dX6_hear_54 rfl (lv_at hl 0 rfl) ?_
        refine rv_getP hx hb ht ui_X4 hown hK hM hR hi 1 (by decide) (ht _ uw_79) dX6_hear_55 ?_
        refine lv_icmp_ne (tgt := 93) hx hb dX6_hear_58 (by decide) (fun c_58 => ?_) (fun c_58 => ?_)
        · refine lv_aload_n hx hb dX6_hear_93 rfl (lv_at hl 0 rfl) ?_
          refine lv_dup hx hb dX6_hear_94 rfl ?_
          refine rv_getP hx hb ht ui_X4 hown hK hM hR hi 0 (by decide) (ht _ uw_76) dX6_hear_95 ?_
          refine lv_aload_n hx hb dX6_hear_98 rfl (lv_at hl 2 rfl) ?_
          refine lv_aload_n hx hb dX6_hear_99 rfl (lv_at hl 1 rfl) ?_
          refine lv_aload_n hx hb dX6_hear_100 rfl (lv_at hl 3 rfl) ?_
          refine m_callRI (val := wenC v i j) (As := [.ref (b + 3 + 2 * i), .ref (b + 15 + π j)]) (rest := [.int (v.2.1 i 8), .ref (b + 4 + 2 * i)]) ⟨hx, hb, hml, hown, ht⟩ (k_X6_wentOn l g A M b π v i j hR hi hj) (cwV 2 ht (gU uw_380 uw_382 uw_3 uw_35 uw_383) rfl rfl rfl (by decide +kernel) ⟨by decide, by decide⟩) hK hM hS (m_recv hK hM hR.AW hR.W rfl) rfl hl.1 rfl (Nat.le_of_ble_eq_true rfl) dX6_hear_101 ⟨by decide, by decide⟩ (fun H locs hM hS => ?_)
          refine lv_iadd hx hb dX6_hear_104 ?_
          refine rv_putP hx hb ht ui_X4 hown hK hM hS hR hF hi 0 (by decide) (ht _ uw_76) dX6_hear_105 (fun M H locs hM hR hF hS => ?_)
          refine lv_aload_n hx hb dX6_hear_108 rfl (lv_at hl 0 rfl) ?_
          refine lv_dup hx hb dX6_hear_109 rfl ?_
          refine rv_getP hx hb ht ui_X4 hown hK hM hR hi 4 (by decide) (ht _ uw_88) dX6_hear_110 ?_
          refine lv_iconst (v := 1) hx hb dX6_hear_113 (by first | rfl | decide) ?_
          refine lv_iadd hx hb dX6_hear_114 ?_
          refine rv_putP hx hb ht ui_X4 hown hK hM hS hR hF hi 4 (by decide) (ht _ uw_88) dX6_hear_115 (fun M H locs hM hR hF hS => ?_)
          refine lv_aload_n hx hb dX6_hear_118 rfl (lv_at hl 0 rfl) ?_
          refine lv_aload_n hx hb dX6_hear_119 rfl (lv_at hl 3 rfl) ?_
          refine rv_getR hx hb ht ui_X5 hown hK hM hR hj 2 (by decide) (ht _ uw_170) dX6_hear_120 ?_
          refine rv_putP hx hb ht ui_X4 hown hK hM hS hR hF hi 1 (by decide) (ht _ uw_79) dX6_hear_123 (fun M H locs hM hR hF hS => ?_)
          refine lv_aload_n hx hb dX6_hear_126 rfl (lv_at hl 0 rfl) ?_
          refine lv_aload_n hx hb dX6_hear_127 rfl (lv_at hl 3 rfl) ?_
          refine rv_getR hx hb ht ui_X5 hown hK hM hR hj 1 (by decide) (ht _ uw_167) dX6_hear_128 ?_
          refine rv_putP hx hb ht ui_X4 hown hK hM hS hR hF hi 2 (by decide) (ht _ uw_83) dX6_hear_131 (fun M H locs hM hR hF hS => ?_)
          refine lv_aload_n hx hb dX6_hear_134 rfl (lv_at hl 0 rfl) ?_
          refine lv_aload_n hx hb dX6_hear_135 rfl (lv_at hl 3 rfl) ?_
          refine rv_getR hx hb ht ui_X5 hown hK hM hR hj 3 (by decide) (ht _ uw_173) dX6_hear_136 ?_
          refine rv_putP hx hb ht ui_X4 hown hK hM hS hR hF hi 3 (by decide) (ht _ uw_85) dX6_hear_139 (fun M H locs hM hR hF hS => ?_)
          subst hQ
          exact m_vret hx hb hr hlk hK hM hS dX6_hear_142 (⟨RepV.eq hR (by first | exact hea_take1 e1 c_27 c_47 | exact hea_take2 e1 c_27 c_58 | exact hea_take3 e1 c_27 c_77), hF⟩)
        · refine lv_aload_n hx hb dX6_hear_61 rfl (lv_at hl 2 rfl) ?_
          refine lv_aload_n hx hb dX6_hear_62 rfl (lv_at hl 3 rfl) ?_
          refine rv_getR hx hb ht ui_X5 hown hK hM hR hj 1 (by decide) (ht _ uw_167) dX6_hear_63 ?_
          refine m_callRI (val := whC v (v.2.2 j 1)) (As := [.int (v.2.2 j 1)]) (rest := []) ⟨hx, hb, hml, hown, ht⟩ (k_X6_wheelAt l g A M b π v (v.2.2 j 1) hR) (cwV 1 ht (gU uw_376 uw_377 uw_378 uw_35 uw_379) rfl rfl rfl (by decide +kernel) ⟨by decide, by decide⟩) hK hM hS (m_recv hK hM hR.AW hR.W rfl) rfl hl.1 rfl (Nat.le_of_ble_eq_true rfl) dX6_hear_66 ⟨by decide, by decide⟩ (fun H locs hM hS => ?_)
          refine lv_aload_n hx hb dX6_hear_69 rfl (lv_at hl 2 rfl) ?_
          refine lv_aload_n hx hb dX6_hear_70 rfl (lv_at hl 0 rfl) ?_
          refine rv_getP hx hb ht ui_X4 hown hK hM hR hi 2 (by decide) (ht _ uw_83) dX6_hear_71 ?_
          refine m_callRI (val := whC v (v.2.1 i 10)) (As := [.int (v.2.1 i 10)]) (rest := [.int (whC v (v.2.2 j 1))]) ⟨hx, hb, hml, hown, ht⟩ (k_X6_wheelAt l g A M b π v (v.2.1 i 10) hR) (cwV 1 ht (gU uw_376 uw_377 uw_378 uw_35 uw_379) rfl rfl rfl (by decide +kernel) ⟨by decide, by decide⟩) hK hM hS (m_recv hK hM hR.AW hR.W rfl) rfl hl.1 rfl (Nat.le_of_ble_eq_true rfl) dX6_hear_74 ⟨by decide, by decide⟩ (fun H locs hM hS => ?_)
          refine lv_icmp_ne (tgt := 93) hx hb dX6_hear_77 (by decide) (fun c_77 => ?_) (fun c_77 => ?_)
          · refine lv_aload_n hx hb dX6_hear_93 rfl (lv_at hl 0 rfl) ?_
            refine lv_dup hx hb dX6_hear_94 rfl ?_
            refine rv_getP hx hb ht ui_X4 hown hK hM hR hi 0 (by decide) (ht _ uw_76) dX6_hear_95 ?_
            refine lv_aload_n hx hb dX6_hear_98 rfl (lv_at hl 2 rfl) ?_
            refine lv_aload_n hx hb dX6_hear_99 rfl (lv_at hl 1 rfl) ?_
            refine lv_aload_n hx hb dX6_hear_100 rfl (lv_at hl 3 rfl) ?_
            refine m_callRI (val := wenC v i j) (As := [.ref (b + 3 + 2 * i), .ref (b + 15 + π j)]) (rest := [.int (v.2.1 i 8), .ref (b + 4 + 2 * i)]) ⟨hx, hb, hml, hown, ht⟩ (k_X6_wentOn l g A M b π v i j hR hi hj) (cwV 2 ht (gU uw_380 uw_382 uw_3 uw_35 uw_383) rfl rfl rfl (by decide +kernel) ⟨by decide, by decide⟩) hK hM hS (m_recv hK hM hR.AW hR.W rfl) rfl hl.1 rfl (Nat.le_of_ble_eq_true rfl) dX6_hear_101 ⟨by decide, by decide⟩ (fun H locs hM hS => ?_)
            refine lv_iadd hx hb dX6_hear_104 ?_
            refine rv_putP hx hb ht ui_X4 hown hK hM hS hR hF hi 0 (by decide) (ht _ uw_76) dX6_hear_105 (fun M H locs hM hR hF hS => ?_)
            refine lv_aload_n hx hb dX6_hear_108 rfl (lv_at hl 0 rfl) ?_
            refine lv_dup hx hb dX6_hear_109 rfl ?_
            refine rv_getP hx hb ht ui_X4 hown hK hM hR hi 4 (by decide) (ht _ uw_88) dX6_hear_110 ?_
            refine lv_iconst (v := 1) hx hb dX6_hear_113 (by first | rfl | decide) ?_
            refine lv_iadd hx hb dX6_hear_114 ?_
            refine rv_putP hx hb ht ui_X4 hown hK hM hS hR hF hi 4 (by decide) (ht _ uw_88) dX6_hear_115 (fun M H locs hM hR hF hS => ?_)
            refine lv_aload_n hx hb dX6_hear_118 rfl (lv_at hl 0 rfl) ?_
            refine lv_aload_n hx hb dX6_hear_119 rfl (lv_at hl 3 rfl) ?_
            refine rv_getR hx hb ht ui_X5 hown hK hM hR hj 2 (by decide) (ht _ uw_170) dX6_hear_120 ?_
            refine rv_putP hx hb ht ui_X4 hown hK hM hS hR hF hi 1 (by decide) (ht _ uw_79) dX6_hear_123 (fun M H locs hM hR hF hS => ?_)
            refine lv_aload_n hx hb dX6_hear_126 rfl (lv_at hl 0 rfl) ?_
            refine lv_aload_n hx hb dX6_hear_127 rfl (lv_at hl 3 rfl) ?_
            refine rv_getR hx hb ht ui_X5 hown hK hM hR hj 1 (by decide) (ht _ uw_167) dX6_hear_128 ?_
            refine rv_putP hx hb ht ui_X4 hown hK hM hS hR hF hi 2 (by decide) (ht _ uw_83) dX6_hear_131 (fun M H locs hM hR hF hS => ?_)
            refine lv_aload_n hx hb dX6_hear_134 rfl (lv_at hl 0 rfl) ?_
            refine lv_aload_n hx hb dX6_hear_135 rfl (lv_at hl 3 rfl) ?_
            refine rv_getR hx hb ht ui_X5 hown hK hM hR hj 3 (by decide) (ht _ uw_173) dX6_hear_136 ?_
            refine rv_putP hx hb ht ui_X4 hown hK hM hS hR hF hi 3 (by decide) (ht _ uw_85) dX6_hear_139 (fun M H locs hM hR hF hS => ?_)
            subst hQ
            exact m_vret hx hb hr hlk hK hM hS dX6_hear_142 (⟨RepV.eq hR (by first | exact hea_take1 e1 c_27 c_47 | exact hea_take2 e1 c_27 c_58 | exact hea_take3 e1 c_27 c_77), hF⟩)
          · refine lv_aload_n hx hb dX6_hear_80 rfl (lv_at hl 0 rfl) ?_
            refine lv_dup hx hb dX6_hear_81 rfl ?_
            refine rv_getP hx hb ht ui_X4 hown hK hM hR hi 6 (by decide) (ht _ uw_94) dX6_hear_82 ?_
            refine lv_iconst (v := 1) hx hb dX6_hear_85 (by first | rfl | decide) ?_
            refine lv_iadd hx hb dX6_hear_86 ?_
            refine rv_putP hx hb ht ui_X4 hown hK hM hS hR hF hi 6 (by decide) (ht _ uw_94) dX6_hear_87 (fun M H locs hM hR hF hS => ?_)
            refine lv_goto (tgt := 142) hx hb dX6_hear_90 (by decide) ?_
            subst hQ
            exact m_vret hx hb hr hlk hK hM hS dX6_hear_142 (⟨RepV.eq hR (hea_twice e1 c_27 (Int32.not_le.mp c_47) c_58 c_77), hF⟩)
    · refine lv_aload_n hx hb dX6_hear_30 rfl (lv_at hl 0 rfl) ?_
      refine lv_dup hx hb dX6_hear_31 rfl ?_
      refine rv_getP hx hb ht ui_X4 hown hK hM hR hi 5 (by decide) (ht _ uw_91) dX6_hear_32 ?_
      refine lv_iconst (v := 1) hx hb dX6_hear_35 (by first | rfl | decide) ?_
      refine lv_iadd hx hb dX6_hear_36 ?_
      refine rv_putP hx hb ht ui_X4 hown hK hM hS hR hF hi 5 (by decide) (ht _ uw_91) dX6_hear_37 (fun M H locs hM hR hF hS => ?_)
      refine lv_goto (tgt := 142) hx hb dX6_hear_40 (by decide) ?_
      subst hQ
      exact m_vret hx hb hr hlk hK hM hS dX6_hear_142 (⟨RepV.eq hR (hea_late e1 (Int32.not_le.mp c_27)), hF⟩)
end
section
set_option maxHeartbeats 4000000 in
set_option maxRecDepth 100000 in
/-- WHEEL is set -/
theorem k_X6_changeWheels (l : Launch) (g : GG) (A : Nat → Prop) (M0 : MM) (b : Nat) (π : Nat → Nat) (v : VV) (x : Int32) (hR : RepV g A M0 b π v) (n : Nat) (hn : v.1 3 = nI n) (hn20 : n ≤ 20)  : Met l yX6_changeWheels (Uw yX6_changeWheels cX6_changeWheels 3 (Option.none : Option ClassFile.FieldType)) (rmD 2) (PreM [.ref (b), .int (x)] g A M0) (PosV (fun M1 => RepV g A M1 b π (chgC v n x) ∧ FrV b M0 M1) g A) 0 0 A := by
  refine mk_Met (own := RX6) rfl rfl (by decide) (Nat.le_of_ble_eq_true rfl) ?_
  intro p e s m below meth c ls aa Q haa hQ hx hb hr hlk hml hown hts hK hM hS hl hnm
  obtain ⟨M, hMM⟩ : ∃ M, M = M0 := ⟨_, rfl⟩
  rw [← hMM] at hM hR
  have ht : ∀ w ∈ lw_good, w.before _ s = true := fun w h => hts w (List.mem_cons_of_mem _ h)
  have hF : FrV b M0 M := by rw [hMM]; exact FrV.rf
  have hl : lv_has ls 3 [(0, .ref (b)), (1, .int (x))] := hl
  refine lv_iconst (v := nI 0) hx hb dX6_changeWheels_0 (by first | rfl | decide) ?_
  refine lv_istore_n (lv' := [(2, .int (nI 0)), (0, .ref (b)), (1, .int (x))]) hx hb dX6_changeWheels_1 rfl hl (by decide) rfl (fun ls hl => ?_)
  have loop_2 : ∀ (z_2 : Nat) (k : Nat) (M : MM) (H : Heap) (locs : List Loc) (ls : Array Slot), n - k < z_2 → k ≤ n → HD g A M H → RepV g A M b π (cosL v k) → FrV b M0 M → va_S A s.heap H locs → lv_has ls 3 [(2, .int (nI k)), (0, .ref (b)), (1, .int (x))] → W p l e (rmD 2) s m aa below meth c H locs 0 0 Q (F0 m 2 ls []) := by
    intro z_2
    induction z_2 with
    | zero => intro k M H locs ls hz hk; exact absurd hz (Nat.not_lt_zero _)
    | succ z_2 ih_2 =>
    intro k M H locs ls hz hk hM hR hF hS hl
    have e3 : (cosL v k).1 3 = nI n := by rw [cosL_1, hn]
    refine lv_iload_n hx hb dX6_changeWheels_2 rfl (lv_at hl 0 rfl) ?_
    refine lv_aload_n hx hb dX6_changeWheels_3 rfl (lv_at hl 1 rfl) ?_
    refine rv_getW hx hb ht ui_X6 hown hK hM hR 3 (by decide) (ht _ uw_194) dX6_changeWheels_4 ?_
    refine lv_icmp_ge (tgt := 35) hx hb dX6_changeWheels_7 (by decide) (fun c_7 => ?_) (fun c_7 => ?_)
    · rw [e3] at c_7
      have hkn : k = n := Nat.le_antisymm hk (nI_le_of (by omega) (by omega) c_7)
      subst hkn
      refine lv_aload_n hx hb dX6_changeWheels_35 rfl (lv_at hl 1 rfl) ?_
      refine lv_iconst (v := nI 0) hx hb dX6_changeWheels_36 (by first | rfl | decide) ?_
      refine rv_putW hx hb ht ui_X6 hown hK hM hS hR hF 3 (by decide) (ht _ uw_194) dX6_changeWheels_37 (fun M H locs hM hR hF hS => ?_)
      refine lv_aload_n hx hb dX6_changeWheels_40 rfl (lv_at hl 1 rfl) ?_
      refine lv_iload_n hx hb dX6_changeWheels_41 rfl (lv_at hl 2 rfl) ?_
      refine rv_putW hx hb ht ui_X6 hown hK hM hS hR hF 0 (by decide) (ht _ uw_188) dX6_changeWheels_42 (fun M H locs hM hR hF hS => ?_)
      subst hQ
      exact m_vret hx hb hr hlk hK hM hS dX6_changeWheels_45 (⟨hR, hF⟩)
    · rw [e3] at c_7
      have hkn : k < n := nI_lt_of (by omega) (by omega) c_7
      refine lv_iload_n hx hb dX6_changeWheels_10 rfl (lv_at hl 0 rfl) ?_
      refine lv_aload_n hx hb dX6_changeWheels_11 rfl (lv_at hl 1 rfl) ?_
      refine rv_getra hx hb ht ui_X6 hown hK hM hR (ht _ uw_198) dX6_changeWheels_12 ?_
      refine rv_lenR hx hb hK hM hR dX6_changeWheels_15 ?_
      refine lv_icmp_ge (tgt := 35) hx hb dX6_changeWheels_16 (by decide) (fun c_16 => absurd c_16 (nI_ge (show k < 20 by omega) (by decide))) (fun c_16 => ?_)
      refine lv_aload_n hx hb dX6_changeWheels_19 rfl (lv_at hl 1 rfl) ?_
      refine lv_aload_n hx hb dX6_changeWheels_20 rfl (lv_at hl 1 rfl) ?_
      refine rv_getra hx hb ht ui_X6 hown hK hM hR (ht _ uw_198) dX6_changeWheels_21 ?_
      refine lv_iload_n hx hb dX6_changeWheels_24 rfl (lv_at hl 0 rfl) ?_
      refine rv_aldR hx hb hK hM hR (show k < 20 by omega) dX6_changeWheels_25 ?_
      refine m_callV (As := [.ref (b + 15 + π k)]) (rest := []) ⟨hx, hb, hml, hown, ht⟩ (k_X6_countAsLost l g A M b π (cosL v k) k hR (by omega)) (cwV 1 ht (gU uw_332 uw_333 uw_334 uw_35 uw_335) rfl rfl rfl (by decide +kernel) ⟨by decide, by decide⟩) hK hM hS (m_recv hK hM hR.AW hR.W rfl) rfl hl.1 rfl (Nat.le_of_ble_eq_true rfl) dX6_changeWheels_26 ⟨by decide, by decide⟩ (fun M H locs hp hM hS => ?_)
      obtain ⟨hR, hF1⟩ := hp
      have hF := hF.tr hF1
      refine lv_iinc (v := nI (k + 1)) (lv' := [(2, .int (nI (k + 1))), (0, .ref (b)), (1, .int (x))]) hx hb dX6_changeWheels_29 hl (k := 0) rfl (nI_1 _) (by decide) rfl (fun ls hl => ?_)
      refine lv_goto (tgt := 2) hx hb dX6_changeWheels_32 (by decide) ?_
      exact ih_2 (k + 1) _ _ _ _ (by omega) (by omega) hM hR hF hS (lv_sub hl [0, 1, 2] rfl)
  exact loop_2 _ 0 _ _ _ _ (Nat.lt_succ_self _) (Nat.zero_le _) hM hR hF hS (lv_sub hl [0, 1, 2] rfl)

set_option maxHeartbeats 4000000 in
set_option maxRecDepth 100000 in
/-- the row of one more runner -/
theorem k_X6_addRunner (l : Launch) (g : GG) (A : Nat → Prop) (M0 : MM) (b : Nat) (π : Nat → Nat) (v : VV) (hR : RepV g A M0 b π v) (n : Nat) (hn : v.1 3 = nI n) (hn20 : n ≤ 20)  : Met l yX6_addRunner (Uw yX6_addRunner cX6_addRunner 2 (Option.some (ClassFile.FieldType.object "ToldDrops$Runner"))) (rmD 0) (PreM [.ref (b)] g A M0) (PosQ (fun r M1 => (n < 20 → r = some (b + 15 + π n) ∧ RepV g A M1 b π (vW v 3 (nI n + 1)) ∧ FrV b M0 M1) ∧ (¬ n < 20 → r = none ∧ M1 = M0)) g A) 0 0 A := by
  refine mk_Met (own := RX6) rfl rfl (by decide) (Nat.le_of_ble_eq_true rfl) ?_
  intro p e s m below meth c ls aa Q haa hQ hx hb hr hlk hml hown hts hK hM hS hl hnm
  obtain ⟨M, hMM⟩ : ∃ M, M = M0 := ⟨_, rfl⟩
  rw [← hMM] at hM hR
  have ht : ∀ w ∈ lw_good, w.before _ s = true := fun w h => hts w (List.mem_cons_of_mem _ h)
  have hF : FrV b M0 M := by rw [hMM]; exact FrV.rf
  have hl : lv_has ls 2 [(0, .ref (b))] := hl
  have hn4 : ¬ nI n < 0 := nI_pos (by omega)
  refine lv_aload_n hx hb dX6_addRunner_0 rfl (lv_at hl 0 rfl) ?_
  refine rv_getW hx hb ht ui_X6 hown hK hM hR 3 (by decide) (ht _ uw_194) dX6_addRunner_1 ?_
  refine lv_if_lt (tgt := 19) hx hb dX6_addRunner_4 (by decide) (fun c_4 => absurd c_4 (by rw [hn]; exact hn4)) (fun c_4 => ?_)
  refine lv_aload_n hx hb dX6_addRunner_7 rfl (lv_at hl 0 rfl) ?_
  refine rv_getW hx hb ht ui_X6 hown hK hM hR 3 (by decide) (ht _ uw_194) dX6_addRunner_8 ?_
  refine lv_aload_n hx hb dX6_addRunner_11 rfl (lv_at hl 0 rfl) ?_
  refine rv_getra hx hb ht ui_X6 hown hK hM hR (ht _ uw_198) dX6_addRunner_12 ?_
  refine rv_lenR hx hb hK hM hR dX6_addRunner_15 ?_
  refine lv_icmp_lt (tgt := 21) hx hb dX6_addRunner_16 (by decide) (fun c_16 => ?_) (fun c_16 => ?_)
  · rw [hn] at c_16
    have hlt : n < 20 := (nI_ltI (by omega) (by decide)).mp c_16
    refine lv_aload_n hx hb dX6_addRunner_21 rfl (lv_at hl 0 rfl) ?_
    refine rv_getra hx hb ht ui_X6 hown hK hM hR (ht _ uw_198) dX6_addRunner_22 ?_
    refine lv_aload_n hx hb dX6_addRunner_25 rfl (lv_at hl 0 rfl) ?_
    refine rv_getW hx hb ht ui_X6 hown hK hM hR 3 (by decide) (ht _ uw_194) dX6_addRunner_26 ?_
    rw [hn]
    refine rv_aldR hx hb hK hM hR (j := n) hlt dX6_addRunner_29 ?_
    refine lv_astore_n (lv' := [(1, .ref (b + 15 + π n)), (0, .ref (b))]) hx hb dX6_addRunner_30 rfl hl (by decide) rfl (fun ls hl => ?_)
    refine lv_aload_n hx hb dX6_addRunner_31 rfl (lv_at hl 1 rfl) ?_
    refine lv_dup hx hb dX6_addRunner_32 rfl ?_
    refine rv_getW hx hb ht ui_X6 hown hK hM hR 3 (by decide) (ht _ uw_194) dX6_addRunner_33 ?_
    refine lv_iconst (v := 1) hx hb dX6_addRunner_36 (by first | rfl | decide) ?_
    refine lv_iadd hx hb dX6_addRunner_37 ?_
    refine rv_putW hx hb ht ui_X6 hown hK hM hS hR hF 3 (by decide) (ht _ uw_194) dX6_addRunner_38 (fun M H locs hM hR hF hS => ?_)
    refine lv_aload_n hx hb dX6_addRunner_41 rfl (lv_at hl 0 rfl) ?_
    subst hQ
    exact m_aret (r := some (b + 15 + π n)) rfl hx hb hr hlk hK hM hS dX6_addRunner_42 (⟨fun _ => ⟨rfl, RepV.eq hR (by rw [hn]), hF⟩, fun q => absurd hlt q⟩)
  · rw [hn] at c_16
    have hlt : ¬ n < 20 := fun q => c_16 (nI_lt q (by decide))
    refine lv_null hx hb dX6_addRunner_19 ?_
    subst hQ
    exact m_aret (r := none) rfl hx hb hr hlk hK hM hS dX6_addRunner_20 (⟨fun q => absurd q hlt, fun _ => ⟨rfl, hMM⟩⟩)

set_option maxHeartbeats 4000000 in
set_option maxRecDepth 100000 in
/-- over all gauges -/
theorem k_X6_sumOfTold (l : Launch) (g : GG) (A : Nat → Prop) (M0 : MM) (b : Nat) (π : Nat → Nat) (v : VV) (hR : RepV g A M0 b π v)  : Met l yX6_sumOfTold (Uw yX6_sumOfTold cX6_sumOfTold 6 (Option.some ClassFile.FieldType.int)) (rmD 0) (PreM [.ref (b)] g A M0) (PosI (fun r M1 => r = (sumN (fun i => v.2.1 i 8) 6) ∧ M1 = M0) g A) 0 0 A := by
  refine mk_Met (own := RX6) rfl rfl (by decide) (Nat.le_of_ble_eq_true rfl) ?_
  intro p e s m below meth c ls aa Q haa hQ hx hb hr hlk hml hown hts hK hM hS hl hnm
  obtain ⟨M, hMM⟩ : ∃ M, M = M0 := ⟨_, rfl⟩
  rw [← hMM] at hM hR
  have ht : ∀ w ∈ lw_good, w.before _ s = true := fun w h => hts w (List.mem_cons_of_mem _ h)
  have hF : FrV b M0 M := by rw [hMM]; exact FrV.rf
  have hl : lv_has ls 6 [(0, .ref (b))] := hl
  refine lv_iconst (v := nI 0) hx hb dX6_sumOfTold_0 (by first | rfl | decide) ?_
  refine lv_istore_n (lv' := [(1, .int (nI 0)), (0, .ref (b))]) hx hb dX6_sumOfTold_1 rfl hl (by decide) rfl (fun ls hl => ?_)
  refine lv_aload_n hx hb dX6_sumOfTold_2 rfl (lv_at hl 1 rfl) ?_
  refine rv_getga hx hb ht ui_X6 hown hK hM hR (ht _ uw_196) dX6_sumOfTold_3 ?_
  refine lv_astore_n (lv' := [(2, .ref (b + 1)), (1, .int (nI 0)), (0, .ref (b))]) hx hb dX6_sumOfTold_6 rfl hl (by decide) rfl (fun ls hl => ?_)
  refine lv_aload_n hx hb dX6_sumOfTold_7 rfl (lv_at hl 0 rfl) ?_
  refine rv_lenG hx hb hK hM hR dX6_sumOfTold_8 ?_
  refine lv_istore_n (lv' := [(3, .int (nI 6)), (2, .ref (b + 1)), (1, .int (nI 0)), (0, .ref (b))]) hx hb dX6_sumOfTold_9 rfl hl (by decide) rfl (fun ls hl => ?_)
  refine lv_iconst (v := nI 0) hx hb dX6_sumOfTold_10 (by first | rfl | decide) ?_
  refine lv_istore (lv' := [(4, .int (nI 0)), (3, .int (nI 6)), (2, .ref (b + 1)), (1, .int (nI 0)), (0, .ref (b))]) hx hb dX6_sumOfTold_11 hl (by decide) rfl (fun ls hl => ?_)
  have loop_13 : ∀ (z_13 : Nat) (i : Nat) (t : Int32) (H : Heap) (locs : List Loc) (ls : Array Slot), 6 - i < z_13 → i ≤ 6 → t = sumN (fun i => v.2.1 i 8) i → HD g A M H → va_S A s.heap H locs → lv_has ls 6 [(4, .int (nI i)), (3, .int (nI 6)), (2, .ref (b + 1)), (1, .int (t)), (0, .ref (b))] → W p l e (rmD 0) s m aa below meth c H locs 0 0 Q (F0 m 13 ls []) := by
    intro z_13
    induction z_13 with
    | zero => intro i t H locs ls hz hi ht1; exact absurd hz (Nat.not_lt_zero _)
    | succ z_13 ih_13 =>
    intro i t H locs ls hz hi ht1 hM  hS hl
    refine lv_iload hx hb dX6_sumOfTold_13 (lv_at hl 0 rfl) ?_
    refine lv_iload_n hx hb dX6_sumOfTold_15 rfl (lv_at hl 1 rfl) ?_
    refine lv_icmp_ge (tgt := 42) hx hb dX6_sumOfTold_16 (by decide) (fun c_16 => ?_) (fun c_16 => ?_)
    · have hi6 : i = 6 := Nat.le_antisymm hi (nI_le_of (by omega) (by decide) c_16)
      subst hi6
      refine lv_iload_n hx hb dX6_sumOfTold_42 rfl (lv_at hl 3 rfl) ?_
      subst hQ
      exact m_zret hx hb hr rfl hlk hK hM hS dX6_sumOfTold_43 (⟨ht1, hMM⟩)
    · have hi6 : i < 6 := nI_lt_of (by omega) (by decide) c_16
      refine lv_aload_n hx hb dX6_sumOfTold_19 rfl (lv_at hl 2 rfl) ?_
      refine lv_iload hx hb dX6_sumOfTold_20 (lv_at hl 0 rfl) ?_
      refine rv_aldG hx hb hK hM hR (hi6) dX6_sumOfTold_22 ?_
      refine lv_astore (lv' := [(5, .ref (b + 3 + 2 * i)), (4, .int (nI i)), (3, .int (nI 6)), (2, .ref (b + 1)), (1, .int (t)), (0, .ref (b))]) hx hb dX6_sumOfTold_23 hl (by decide) rfl (fun ls hl => ?_)
      refine lv_iload_n hx hb dX6_sumOfTold_25 rfl (lv_at hl 4 rfl) ?_
      refine lv_aload hx hb dX6_sumOfTold_26 (lv_at hl 0 rfl) ?_
      refine rv_getpg hx hb ht ui_X0 hown hK hM hR (hi6) (ht _ uw_138) dX6_sumOfTold_28 ?_
      refine rv_getP hx hb ht ui_X4 hown hK hM hR (hi6) 0 (by decide) (ht _ uw_76) dX6_sumOfTold_31 ?_
      refine lv_iadd hx hb dX6_sumOfTold_34 ?_
      refine lv_istore_n (lv' := [(1, .int ((t) + (v.2.1 i 8))), (5, .ref (b + 3 + 2 * i)), (4, .int (nI i)), (3, .int (nI 6)), (2, .ref (b + 1)), (0, .ref (b))]) hx hb dX6_sumOfTold_35 rfl hl (by decide) rfl (fun ls hl => ?_)
      refine lv_iinc (v := nI (i + 1)) (lv' := [(4, .int (nI (i + 1))), (1, .int ((t) + (v.2.1 i 8))), (5, .ref (b + 3 + 2 * i)), (3, .int (nI 6)), (2, .ref (b + 1)), (0, .ref (b))]) hx hb dX6_sumOfTold_36 hl (k := 2) rfl (nI_1 _) (by decide) rfl (fun ls hl => ?_)
      refine lv_goto (tgt := 13) hx hb dX6_sumOfTold_39 (by decide) ?_
      exact ih_13 (i + 1) ((t) + (v.2.1 i 8)) _ _ _ (by omega) (by omega) (by rw [ht1]; rfl) hM hS (lv_sub hl [0, 3, 4, 1, 5] rfl)
  exact loop_13 _ 0 0 _ _ _ (Nat.lt_succ_self _) (by omega) rfl hM hS (lv_sub hl [0, 1, 2, 3, 4] rfl)

set_option maxHeartbeats 4000000 in
set_option maxRecDepth 100000 in
/-- over all gauges -/
theorem k_X6_gaugesWithGap (l : Launch) (g : GG) (A : Nat → Prop) (M0 : MM) (b : Nat) (π : Nat → Nat) (v : VV) (hR : RepV g A M0 b π v)  : Met l yX6_gaugesWithGap (Uw yX6_gaugesWithGap cX6_gaugesWithGap 6 (Option.some ClassFile.FieldType.int)) (rmD 1) (PreM [.ref (b)] g A M0) (PosI (fun r M1 => r = (gapN v 6) ∧ M1 = M0) g A) 0 0 A := by
  refine mk_Met (own := RX6) rfl rfl (by decide) (Nat.le_of_ble_eq_true rfl) ?_
  intro p e s m below meth c ls aa Q haa hQ hx hb hr hlk hml hown hts hK hM hS hl hnm
  obtain ⟨M, hMM⟩ : ∃ M, M = M0 := ⟨_, rfl⟩
  rw [← hMM] at hM hR
  have ht : ∀ w ∈ lw_good, w.before _ s = true := fun w h => hts w (List.mem_cons_of_mem _ h)
  have hF : FrV b M0 M := by rw [hMM]; exact FrV.rf
  have hl : lv_has ls 6 [(0, .ref (b))] := hl
  refine lv_iconst (v := nI 0) hx hb dX6_gaugesWithGap_0 (by first | rfl | decide) ?_
  refine lv_istore_n (lv' := [(1, .int (nI 0)), (0, .ref (b))]) hx hb dX6_gaugesWithGap_1 rfl hl (by decide) rfl (fun ls hl => ?_)
  refine lv_aload_n hx hb dX6_gaugesWithGap_2 rfl (lv_at hl 1 rfl) ?_
  refine rv_getga hx hb ht ui_X6 hown hK hM hR (ht _ uw_196) dX6_gaugesWithGap_3 ?_
  refine lv_astore_n (lv' := [(2, .ref (b + 1)), (1, .int (nI 0)), (0, .ref (b))]) hx hb dX6_gaugesWithGap_6 rfl hl (by decide) rfl (fun ls hl => ?_)
  refine lv_aload_n hx hb dX6_gaugesWithGap_7 rfl (lv_at hl 0 rfl) ?_
  refine rv_lenG hx hb hK hM hR dX6_gaugesWithGap_8 ?_
  refine lv_istore_n (lv' := [(3, .int (nI 6)), (2, .ref (b + 1)), (1, .int (nI 0)), (0, .ref (b))]) hx hb dX6_gaugesWithGap_9 rfl hl (by decide) rfl (fun ls hl => ?_)
  refine lv_iconst (v := nI 0) hx hb dX6_gaugesWithGap_10 (by first | rfl | decide) ?_
  refine lv_istore (lv' := [(4, .int (nI 0)), (3, .int (nI 6)), (2, .ref (b + 1)), (1, .int (nI 0)), (0, .ref (b))]) hx hb dX6_gaugesWithGap_11 hl (by decide) rfl (fun ls hl => ?_)
  have loop_13 : ∀ (z_13 : Nat) (i : Nat) (t : Int32) (H : Heap) (locs : List Loc) (ls : Array Slot), 6 - i < z_13 → i ≤ 6 → t = gapN v i → HD g A M H → va_S A s.heap H locs → lv_has ls 6 [(4, .int (nI i)), (3, .int (nI 6)), (2, .ref (b + 1)), (1, .int (t)), (0, .ref (b))] → W p l e (rmD 1) s m aa below meth c H locs 0 0 Q (F0 m 13 ls []) := by
    intro z_13
    induction z_13 with
    | zero => intro i t H locs ls hz hi ht1; exact absurd hz (Nat.not_lt_zero _)
    | succ z_13 ih_13 =>
    intro i t H locs ls hz hi ht1 hM  hS hl
    refine lv_iload hx hb dX6_gaugesWithGap_13 (lv_at hl 0 rfl) ?_
    refine lv_iload_n hx hb dX6_gaugesWithGap_15 rfl (lv_at hl 1 rfl) ?_
    refine lv_icmp_ge (tgt := 42) hx hb dX6_gaugesWithGap_16 (by decide) (fun c_16 => ?_) (fun c_16 => ?_)
    · have hi6 : i = 6 := Nat.le_antisymm hi (nI_le_of (by omega) (by decide) c_16)
      subst hi6
      refine lv_iload_n hx hb dX6_gaugesWithGap_42 rfl (lv_at hl 3 rfl) ?_
      subst hQ
      exact m_zret hx hb hr rfl hlk hK hM hS dX6_gaugesWithGap_43 (⟨ht1, hMM⟩)
    · have hi6 : i < 6 := nI_lt_of (by omega) (by decide) c_16
      refine lv_aload_n hx hb dX6_gaugesWithGap_19 rfl (lv_at hl 2 rfl) ?_
      refine lv_iload hx hb dX6_gaugesWithGap_20 (lv_at hl 0 rfl) ?_
      refine rv_aldG hx hb hK hM hR (hi6) dX6_gaugesWithGap_22 ?_
      refine lv_astore (lv' := [(5, .ref (b + 3 + 2 * i)), (4, .int (nI i)), (3, .int (nI 6)), (2, .ref (b + 1)), (1, .int (t)), (0, .ref (b))]) hx hb dX6_gaugesWithGap_23 hl (by decide) rfl (fun ls hl => ?_)
      refine lv_aload hx hb dX6_gaugesWithGap_25 (lv_at hl 0 rfl) ?_
      refine m_callRI (val := v.2.1 i 5 - v.2.1 i 8) (As := []) (rest := []) ⟨hx, hb, hml, hown, ht⟩ (k_X0_gap l g A M b π v i hR hi6) (cwV 0 ht (gU uw_519 uw_495 uw_496 uw_36 uw_497) rfl rfl rfl (by decide +kernel) ⟨by decide, by decide⟩) hK hM hS (m_recv hK hM (hR.AG hi6) (hR.G hi6) rfl) rfl hl.1 rfl (Nat.le_of_ble_eq_true rfl) dX6_gaugesWithGap_27 ⟨by decide, by decide⟩ (fun H locs hM hS => ?_)
      refine lv_if_eq (tgt := 36) hx hb dX6_gaugesWithGap_30 (by decide) (fun c_30 => ?_) (fun c_30 => ?_)
      · refine lv_iinc (v := nI (i + 1)) (lv' := [(4, .int (nI (i + 1))), (5, .ref (b + 3 + 2 * i)), (3, .int (nI 6)), (2, .ref (b + 1)), (1, .int (t)), (0, .ref (b))]) hx hb dX6_gaugesWithGap_36 hl (k := 1) rfl (nI_1 _) (by decide) rfl (fun ls hl => ?_)
        refine lv_goto (tgt := 13) hx hb dX6_gaugesWithGap_39 (by decide) ?_
        exact ih_13 (i + 1) t _ _ _ (by omega) (by omega) (by rw [ht1]; exact (if_pos c_30).symm) hM hS (lv_sub hl [0, 2, 3, 4, 5] rfl)
      · refine lv_iinc (v := (t) + (1)) (lv' := [(1, .int ((t) + (1))), (5, .ref (b + 3 + 2 * i)), (4, .int (nI i)), (3, .int (nI 6)), (2, .ref (b + 1)), (0, .ref (b))]) hx hb dX6_gaugesWithGap_33 hl (k := 4) rfl (rfl) (by decide) rfl (fun ls hl => ?_)
        refine lv_iinc (v := nI (i + 1)) (lv' := [(4, .int (nI (i + 1))), (1, .int ((t) + (1))), (5, .ref (b + 3 + 2 * i)), (3, .int (nI 6)), (2, .ref (b + 1)), (0, .ref (b))]) hx hb dX6_gaugesWithGap_36 hl (k := 2) rfl (nI_1 _) (by decide) rfl (fun ls hl => ?_)
        refine lv_goto (tgt := 13) hx hb dX6_gaugesWithGap_39 (by decide) ?_
        exact ih_13 (i + 1) ((t) + (1)) _ _ _ (by omega) (by omega) (by rw [ht1]; exact (if_neg c_30).symm) hM hS (lv_sub hl [0, 3, 4, 1, 5] rfl)
  exact loop_13 _ 0 0 _ _ _ (Nat.lt_succ_self _) (by omega) rfl hM hS (lv_sub hl [0, 1, 2, 3, 4] rfl)

set_option maxHeartbeats 4000000 in
set_option maxRecDepth 100000 in
/-- a fact of a gauge -/
theorem k_X6_factOf (l : Launch) (g : GG) (A : Nat → Prop) (M0 : MM) (b : Nat) (π : Nat → Nat) (v : VV) (i : Nat) (w : Int32) (hR : RepV g A M0 b π v) (hi : i < 6) : Met l yX6_factOf (Uw yX6_factOf cX6_factOf 3 (Option.some ClassFile.FieldType.int)) (rmD 1) (PreM [.ref (b), .ref (b + 3 + 2 * i), .int (w)] g A M0) (PosI (fun r M1 => r = (facC v i w) ∧ M1 = M0) g A) 0 0 A := by
  refine mk_Met (own := RX6) rfl rfl (by decide) (Nat.le_of_ble_eq_true rfl) ?_
  intro p e s m below meth c ls aa Q haa hQ hx hb hr hlk hml hown hts hK hM hS hl hnm
  obtain ⟨M, hMM⟩ : ∃ M, M = M0 := ⟨_, rfl⟩
  rw [← hMM] at hM hR
  have ht : ∀ w ∈ lw_good, w.before _ s = true := fun w h => hts w (List.mem_cons_of_mem _ h)
  have hF : FrV b M0 M := by rw [hMM]; exact FrV.rf
  have hl : lv_has ls 3 [(0, .ref (b)), (1, .ref (b + 3 + 2 * i)), (2, .int (w))] := hl
  refine lv_iload_n hx hb dX6_factOf_0 rfl (lv_at hl 2 rfl) ?_
  by_cases s_1 : (w).toInt < 0 ∨ 8 < (w).toInt
  · refine lv_tableOut (tgt := 101) hx hb dX6_factOf_1 s_1 (by decide) ?_
    refine lv_ldc (v := (-1000002)) hx hb hown (ht _ uw_488) dX6_factOf_101 ?_
    subst hQ
    exact m_zret hx hb hr rfl hlk hK hM hS dX6_factOf_103 (⟨by rw [facC_out s_1], hMM⟩)
  by_cases s_1_0 : (w) = 0
  · refine lv_tableIn (tgt := 52) (off := 51) hx hb dX6_factOf_1 (by rw [s_1_0]; decide) (by rw [s_1_0]; decide) (by rw [s_1_0]; rfl) (by decide) ?_
    refine lv_aload_n hx hb dX6_factOf_52 rfl (lv_at hl 1 rfl) ?_
    refine rv_getG hx hb ht ui_X0 hown hK hM hR hi 0 (by decide) (ht _ uw_117) dX6_factOf_53 ?_
    subst hQ
    exact m_zret hx hb hr rfl hlk hK hM hS dX6_factOf_56 (⟨by rw [s_1_0]; rfl, hMM⟩)
  by_cases s_1_1 : (w) = 1
  · refine lv_tableIn (tgt := 57) (off := 56) hx hb dX6_factOf_1 (by rw [s_1_1]; decide) (by rw [s_1_1]; decide) (by rw [s_1_1]; rfl) (by decide) ?_
    refine lv_aload_n hx hb dX6_factOf_57 rfl (lv_at hl 1 rfl) ?_
    refine rv_getG hx hb ht ui_X0 hown hK hM hR hi 1 (by decide) (ht _ uw_120) dX6_factOf_58 ?_
    subst hQ
    exact m_zret hx hb hr rfl hlk hK hM hS dX6_factOf_61 (⟨by rw [s_1_1]; rfl, hMM⟩)
  by_cases s_1_2 : (w) = 2
  · refine lv_tableIn (tgt := 62) (off := 61) hx hb dX6_factOf_1 (by rw [s_1_2]; decide) (by rw [s_1_2]; decide) (by rw [s_1_2]; rfl) (by decide) ?_
    refine lv_aload_n hx hb dX6_factOf_62 rfl (lv_at hl 1 rfl) ?_
    refine rv_getG hx hb ht ui_X0 hown hK hM hR hi 2 (by decide) (ht _ uw_123) dX6_factOf_63 ?_
    subst hQ
    exact m_zret hx hb hr rfl hlk hK hM hS dX6_factOf_66 (⟨by rw [s_1_2]; rfl, hMM⟩)
  by_cases s_1_3 : (w) = 3
  · refine lv_tableIn (tgt := 67) (off := 66) hx hb dX6_factOf_1 (by rw [s_1_3]; decide) (by rw [s_1_3]; decide) (by rw [s_1_3]; rfl) (by decide) ?_
    refine lv_aload_n hx hb dX6_factOf_67 rfl (lv_at hl 1 rfl) ?_
    refine rv_getG hx hb ht ui_X0 hown hK hM hR hi 3 (by decide) (ht _ uw_126) dX6_factOf_68 ?_
    subst hQ
    exact m_zret hx hb hr rfl hlk hK hM hS dX6_factOf_71 (⟨by rw [s_1_3]; rfl, hMM⟩)
  by_cases s_1_4 : (w) = 4
  · refine lv_tableIn (tgt := 72) (off := 71) hx hb dX6_factOf_1 (by rw [s_1_4]; decide) (by rw [s_1_4]; decide) (by rw [s_1_4]; rfl) (by decide) ?_
    refine lv_aload_n hx hb dX6_factOf_72 rfl (lv_at hl 1 rfl) ?_
    refine rv_getG hx hb ht ui_X0 hown hK hM hR hi 4 (by decide) (ht _ uw_129) dX6_factOf_73 ?_
    subst hQ
    exact m_zret hx hb hr rfl hlk hK hM hS dX6_factOf_76 (⟨by rw [s_1_4]; rfl, hMM⟩)
  by_cases s_1_5 : (w) = 5
  · refine lv_tableIn (tgt := 77) (off := 76) hx hb dX6_factOf_1 (by rw [s_1_5]; decide) (by rw [s_1_5]; decide) (by rw [s_1_5]; rfl) (by decide) ?_
    refine lv_aload_n hx hb dX6_factOf_77 rfl (lv_at hl 1 rfl) ?_
    refine rv_getG hx hb ht ui_X0 hown hK hM hR hi 5 (by decide) (ht _ uw_131) dX6_factOf_78 ?_
    subst hQ
    exact m_zret hx hb hr rfl hlk hK hM hS dX6_factOf_81 (⟨by rw [s_1_5]; rfl, hMM⟩)
  by_cases s_1_6 : (w) = 6
  · refine lv_tableIn (tgt := 82) (off := 81) hx hb dX6_factOf_1 (by rw [s_1_6]; decide) (by rw [s_1_6]; decide) (by rw [s_1_6]; rfl) (by decide) ?_
    refine lv_aload_n hx hb dX6_factOf_82 rfl (lv_at hl 0 rfl) ?_
    refine lv_aload_n hx hb dX6_factOf_83 rfl (lv_at hl 1 rfl) ?_
    refine rv_getG hx hb ht ui_X0 hown hK hM hR hi 5 (by decide) (ht _ uw_131) dX6_factOf_84 ?_
    refine m_callRI (val := whC v (v.2.1 i 5)) (As := [.int (v.2.1 i 5)]) (rest := []) ⟨hx, hb, hml, hown, ht⟩ (k_X6_wheelAt l g A M b π v (v.2.1 i 5) hR) (cwV 1 ht (gU uw_376 uw_377 uw_378 uw_35 uw_379) rfl rfl rfl (by decide +kernel) ⟨by decide, by decide⟩) hK hM hS (m_recv hK hM hR.AW hR.W rfl) rfl hl.1 rfl (Nat.le_of_ble_eq_true rfl) dX6_factOf_87 ⟨by decide, by decide⟩ (fun H locs hM hS => ?_)
    subst hQ
    exact m_zret hx hb hr rfl hlk hK hM hS dX6_factOf_90 (⟨by rw [s_1_6]; rfl, hMM⟩)
  by_cases s_1_7 : (w) = 7
  · refine lv_tableIn (tgt := 91) (off := 90) hx hb dX6_factOf_1 (by rw [s_1_7]; decide) (by rw [s_1_7]; decide) (by rw [s_1_7]; rfl) (by decide) ?_
    refine lv_aload_n hx hb dX6_factOf_91 rfl (lv_at hl 1 rfl) ?_
    refine rv_getG hx hb ht ui_X0 hown hK hM hR hi 6 (by decide) (ht _ uw_133) dX6_factOf_92 ?_
    subst hQ
    exact m_zret hx hb hr rfl hlk hK hM hS dX6_factOf_95 (⟨by rw [s_1_7]; rfl, hMM⟩)
  by_cases s_1_8 : (w) = 8
  · refine lv_tableIn (tgt := 96) (off := 95) hx hb dX6_factOf_1 (by rw [s_1_8]; decide) (by rw [s_1_8]; decide) (by rw [s_1_8]; rfl) (by decide) ?_
    refine lv_aload_n hx hb dX6_factOf_96 rfl (lv_at hl 1 rfl) ?_
    refine rv_getG hx hb ht ui_X0 hown hK hM hR hi 7 (by decide) (ht _ uw_135) dX6_factOf_97 ?_
    subst hQ
    exact m_zret hx hb hr rfl hlk hK hM hS dX6_factOf_100 (⟨by rw [s_1_8]; rfl, hMM⟩)
  exfalso
  have n_0 := lv_neT (a := 0) s_1_0 (by decide)
  have n_1 := lv_neT (a := 1) s_1_1 (by decide)
  have n_2 := lv_neT (a := 2) s_1_2 (by decide)
  have n_3 := lv_neT (a := 3) s_1_3 (by decide)
  have n_4 := lv_neT (a := 4) s_1_4 (by decide)
  have n_5 := lv_neT (a := 5) s_1_5 (by decide)
  have n_6 := lv_neT (a := 6) s_1_6 (by decide)
  have n_7 := lv_neT (a := 7) s_1_7 (by decide)
  have n_8 := lv_neT (a := 8) s_1_8 (by decide)
  omega

set_option maxHeartbeats 4000000 in
set_option maxRecDepth 100000 in
/-- over all gauges -/
theorem k_X6_sumOf (l : Launch) (g : GG) (A : Nat → Prop) (M0 : MM) (b : Nat) (π : Nat → Nat) (v : VV) (w : Int32) (hR : RepV g A M0 b π v)  : Met l yX6_sumOf (Uw yX6_sumOf cX6_sumOf 7 (Option.some ClassFile.FieldType.int)) (rmD 2) (PreM [.ref (b), .int (w)] g A M0) (PosI (fun r M1 => r = (sumN (fun i => facC v i w) 6) ∧ M1 = M0) g A) 0 0 A := by
  refine mk_Met (own := RX6) rfl rfl (by decide) (Nat.le_of_ble_eq_true rfl) ?_
  intro p e s m below meth c ls aa Q haa hQ hx hb hr hlk hml hown hts hK hM hS hl hnm
  obtain ⟨M, hMM⟩ : ∃ M, M = M0 := ⟨_, rfl⟩
  rw [← hMM] at hM hR
  have ht : ∀ w ∈ lw_good, w.before _ s = true := fun w h => hts w (List.mem_cons_of_mem _ h)
  have hF : FrV b M0 M := by rw [hMM]; exact FrV.rf
  have hl : lv_has ls 7 [(0, .ref (b)), (1, .int (w))] := hl
  refine lv_iconst (v := nI 0) hx hb dX6_sumOf_0 (by first | rfl | decide) ?_
  refine lv_istore_n (lv' := [(2, .int (nI 0)), (0, .ref (b)), (1, .int (w))]) hx hb dX6_sumOf_1 rfl hl (by decide) rfl (fun ls hl => ?_)
  refine lv_aload_n hx hb dX6_sumOf_2 rfl (lv_at hl 1 rfl) ?_
  refine rv_getga hx hb ht ui_X6 hown hK hM hR (ht _ uw_196) dX6_sumOf_3 ?_
  refine lv_astore_n (lv' := [(3, .ref (b + 1)), (2, .int (nI 0)), (0, .ref (b)), (1, .int (w))]) hx hb dX6_sumOf_6 rfl hl (by decide) rfl (fun ls hl => ?_)
  refine lv_aload_n hx hb dX6_sumOf_7 rfl (lv_at hl 0 rfl) ?_
  refine rv_lenG hx hb hK hM hR dX6_sumOf_8 ?_
  refine lv_istore (lv' := [(4, .int (nI 6)), (3, .ref (b + 1)), (2, .int (nI 0)), (0, .ref (b)), (1, .int (w))]) hx hb dX6_sumOf_9 hl (by decide) rfl (fun ls hl => ?_)
  refine lv_iconst (v := nI 0) hx hb dX6_sumOf_11 (by first | rfl | decide) ?_
  refine lv_istore (lv' := [(5, .int (nI 0)), (4, .int (nI 6)), (3, .ref (b + 1)), (2, .int (nI 0)), (0, .ref (b)), (1, .int (w))]) hx hb dX6_sumOf_12 hl (by decide) rfl (fun ls hl => ?_)
  have loop_14 : ∀ (z_14 : Nat) (i : Nat) (t : Int32) (H : Heap) (locs : List Loc) (ls : Array Slot), 6 - i < z_14 → i ≤ 6 → t = sumN (fun i => facC v i w) i → HD g A M H → va_S A s.heap H locs → lv_has ls 7 [(5, .int (nI i)), (4, .int (nI 6)), (3, .ref (b + 1)), (2, .int (t)), (0, .ref (b)), (1, .int (w))] → W p l e (rmD 2) s m aa below meth c H locs 0 0 Q (F0 m 14 ls []) := by
    intro z_14
    induction z_14 with
    | zero => intro i t H locs ls hz hi ht1; exact absurd hz (Nat.not_lt_zero _)
    | succ z_14 ih_14 =>
    intro i t H locs ls hz hi ht1 hM  hS hl
    refine lv_iload hx hb dX6_sumOf_14 (lv_at hl 0 rfl) ?_
    refine lv_iload hx hb dX6_sumOf_16 (lv_at hl 1 rfl) ?_
    refine lv_icmp_ge (tgt := 43) hx hb dX6_sumOf_18 (by decide) (fun c_18 => ?_) (fun c_18 => ?_)
    · have hi6 : i = 6 := Nat.le_antisymm hi (nI_le_of (by omega) (by decide) c_18)
      subst hi6
      refine lv_iload_n hx hb dX6_sumOf_43 rfl (lv_at hl 3 rfl) ?_
      subst hQ
      exact m_zret hx hb hr rfl hlk hK hM hS dX6_sumOf_44 (⟨ht1, hMM⟩)
    · have hi6 : i < 6 := nI_lt_of (by omega) (by decide) c_18
      refine lv_aload_n hx hb dX6_sumOf_21 rfl (lv_at hl 2 rfl) ?_
      refine lv_iload hx hb dX6_sumOf_22 (lv_at hl 0 rfl) ?_
      refine rv_aldG hx hb hK hM hR (hi6) dX6_sumOf_24 ?_
      refine lv_astore (lv' := [(6, .ref (b + 3 + 2 * i)), (5, .int (nI i)), (4, .int (nI 6)), (3, .ref (b + 1)), (2, .int (t)), (0, .ref (b)), (1, .int (w))]) hx hb dX6_sumOf_25 hl (by decide) rfl (fun ls hl => ?_)
      refine lv_iload_n hx hb dX6_sumOf_27 rfl (lv_at hl 4 rfl) ?_
      refine lv_aload_n hx hb dX6_sumOf_28 rfl (lv_at hl 5 rfl) ?_
      refine lv_aload hx hb dX6_sumOf_29 (lv_at hl 0 rfl) ?_
      refine lv_iload_n hx hb dX6_sumOf_31 rfl (lv_at hl 6 rfl) ?_
      refine m_callRI (val := facC v i w) (As := [.ref (b + 3 + 2 * i), .int (w)]) (rest := [.int (t)]) ⟨hx, hb, hml, hown, ht⟩ (k_X6_factOf l g A M b π v i w hR hi6) (cwV 2 ht (gU uw_510 uw_485 uw_486 uw_35 uw_487) rfl rfl rfl (by decide +kernel) ⟨by decide, by decide⟩) hK hM hS (m_recv hK hM hR.AW hR.W rfl) rfl hl.1 rfl (Nat.le_of_ble_eq_true rfl) dX6_sumOf_32 ⟨by decide, by decide⟩ (fun H locs hM hS => ?_)
      refine lv_iadd hx hb dX6_sumOf_35 ?_
      refine lv_istore_n (lv' := [(2, .int ((t) + (facC v i w))), (6, .ref (b + 3 + 2 * i)), (5, .int (nI i)), (4, .int (nI 6)), (3, .ref (b + 1)), (0, .ref (b)), (1, .int (w))]) hx hb dX6_sumOf_36 rfl hl (by decide) rfl (fun ls hl => ?_)
      refine lv_iinc (v := nI (i + 1)) (lv' := [(5, .int (nI (i + 1))), (2, .int ((t) + (facC v i w))), (6, .ref (b + 3 + 2 * i)), (4, .int (nI 6)), (3, .ref (b + 1)), (0, .ref (b)), (1, .int (w))]) hx hb dX6_sumOf_37 hl (k := 2) rfl (nI_1 _) (by decide) rfl (fun ls hl => ?_)
      refine lv_goto (tgt := 14) hx hb dX6_sumOf_40 (by decide) ?_
      exact ih_14 (i + 1) ((t) + (facC v i w)) _ _ _ (by omega) (by omega) (by rw [ht1]; rfl) hM hS (lv_sub hl [0, 3, 4, 1, 5, 6] rfl)
  exact loop_14 _ 0 0 _ _ _ (Nat.lt_succ_self _) (by omega) rfl hM hS (lv_sub hl [0, 1, 2, 3, 4, 5] rfl)

set_option maxHeartbeats 4000000 in
set_option maxRecDepth 100000 in
/-- the hours until the last one comes -/
theorem k_X6_longestWay (l : Launch) (g : GG) (A : Nat → Prop) (M0 : MM) (b : Nat) (π : Nat → Nat) (v : VV) (hR : RepV g A M0 b π v) (n : Nat) (hn : v.1 3 = nI n) (hn20 : n ≤ 20)  : Met l yX6_longestWay (Uw yX6_longestWay cX6_longestWay 3 (Option.some ClassFile.FieldType.int)) (rmD 1) (PreM [.ref (b)] g A M0) (PosI (fun r M1 => r = (lonC v n) ∧ M1 = M0) g A) 0 0 A := by
  refine mk_Met (own := RX6) rfl rfl (by decide) (Nat.le_of_ble_eq_true rfl) ?_
  intro p e s m below meth c ls aa Q haa hQ hx hb hr hlk hml hown hts hK hM hS hl hnm
  obtain ⟨M, hMM⟩ : ∃ M, M = M0 := ⟨_, rfl⟩
  rw [← hMM] at hM hR
  have ht : ∀ w ∈ lw_good, w.before _ s = true := fun w h => hts w (List.mem_cons_of_mem _ h)
  have hF : FrV b M0 M := by rw [hMM]; exact FrV.rf
  have hl : lv_has ls 3 [(0, .ref (b))] := hl
  refine lv_iconst (v := nI 0) hx hb dX6_longestWay_0 (by first | rfl | decide) ?_
  refine lv_istore_n (lv' := [(1, .int (nI 0)), (0, .ref (b))]) hx hb dX6_longestWay_1 rfl hl (by decide) rfl (fun ls hl => ?_)
  refine lv_iconst (v := nI 0) hx hb dX6_longestWay_2 (by first | rfl | decide) ?_
  refine lv_istore_n (lv' := [(2, .int (nI 0)), (1, .int (nI 0)), (0, .ref (b))]) hx hb dX6_longestWay_3 rfl hl (by decide) rfl (fun ls hl => ?_)
  have loop_4 : ∀ (z_4 : Nat) (j : Nat) (t : Int32) (H : Heap) (locs : List Loc) (ls : Array Slot), n - j < z_4 → j ≤ n → t = lonC v j → HD g A M H → va_S A s.heap H locs → lv_has ls 3 [(2, .int (nI j)), (1, .int (t)), (0, .ref (b))] → W p l e (rmD 1) s m aa below meth c H locs 0 0 Q (F0 m 4 ls []) := by
    intro z_4
    induction z_4 with
    | zero => intro j t H locs ls hz hj ht1; exact absurd hz (Nat.not_lt_zero _)
    | succ z_4 ih_4 =>
    intro j t H locs ls hz hj ht1 hM  hS hl
    refine lv_iload_n hx hb dX6_longestWay_4 rfl (lv_at hl 0 rfl) ?_
    refine lv_aload_n hx hb dX6_longestWay_5 rfl (lv_at hl 2 rfl) ?_
    refine rv_getW hx hb ht ui_X6 hown hK hM hR 3 (by decide) (ht _ uw_194) dX6_longestWay_6 ?_
    refine lv_icmp_ge (tgt := 41) hx hb dX6_longestWay_9 (by decide) (fun c_9 => ?_) (fun c_9 => ?_)
    · rw [hn] at c_9
      have hkn : j = n := Nat.le_antisymm hj (nI_le_of (by omega) (by omega) c_9)
      subst hkn
      refine lv_iload_n hx hb dX6_longestWay_41 rfl (lv_at hl 1 rfl) ?_
      subst hQ
      exact m_zret hx hb hr rfl hlk hK hM hS dX6_longestWay_42 (⟨ht1, hMM⟩)
    · rw [hn] at c_9
      have hkn : j < n := nI_lt_of (by omega) (by omega) c_9
      refine lv_iload_n hx hb dX6_longestWay_12 rfl (lv_at hl 0 rfl) ?_
      refine lv_aload_n hx hb dX6_longestWay_13 rfl (lv_at hl 2 rfl) ?_
      refine rv_getra hx hb ht ui_X6 hown hK hM hR (ht _ uw_198) dX6_longestWay_14 ?_
      refine rv_lenR hx hb hK hM hR dX6_longestWay_17 ?_
      refine lv_icmp_ge (tgt := 41) hx hb dX6_longestWay_18 (by decide) (fun c_18 => absurd c_18 (nI_ge (show j < 20 by omega) (by decide))) (fun c_18 => ?_)
      refine lv_iload_n hx hb dX6_longestWay_21 rfl (lv_at hl 1 rfl) ?_
      refine lv_aload_n hx hb dX6_longestWay_22 rfl (lv_at hl 2 rfl) ?_
      refine rv_getra hx hb ht ui_X6 hown hK hM hR (ht _ uw_198) dX6_longestWay_23 ?_
      refine lv_iload_n hx hb dX6_longestWay_26 rfl (lv_at hl 0 rfl) ?_
      refine rv_aldR hx hb hK hM hR (show j < 20 by omega) dX6_longestWay_27 ?_
      refine rv_getR hx hb ht ui_X5 hown hK hM hR (show j < 20 by omega) 4 (by decide) (ht _ uw_175) dX6_longestWay_28 ?_
      refine va_mmax hx hb (hml.trans hl.1.symm) hown (ht _ uw_542) (ht _ uw_543) (ht _ uw_43) (ht _ uw_544) (by decide) (by decide) (by decide) (by decide) dX6_longestWay_31 ?_
      refine lv_istore_n (lv' := [(1, .int (if t < v.2.2 j 4 then v.2.2 j 4 else t)), (2, .int (nI j)), (0, .ref (b))]) hx hb dX6_longestWay_34 rfl hl (by decide) rfl (fun ls hl => ?_)
      refine lv_iinc (v := nI (j + 1)) (lv' := [(2, .int (nI (j + 1))), (1, .int (if t < v.2.2 j 4 then v.2.2 j 4 else t)), (0, .ref (b))]) hx hb dX6_longestWay_35 hl (k := 1) rfl (nI_1 _) (by decide) rfl (fun ls hl => ?_)
      refine lv_goto (tgt := 4) hx hb dX6_longestWay_38 (by decide) ?_
      exact ih_4 (j + 1) (if t < v.2.2 j 4 then v.2.2 j 4 else t) _ _ _ (by omega) (by omega) (by rw [ht1]; rfl) hM hS (lv_sub hl [0, 1, 2] rfl)
  exact loop_4 _ 0 0 _ _ _ (Nat.lt_succ_self _) (Nat.zero_le _) rfl hM hS (lv_sub hl [0, 1, 2] rfl)
end
section
theorem gxn_in {n i : Nat} (hi : i < n) (hn : n < 2 ^ 31) : gxn n (nI i) = some i := by
  unfold gxn
  rw [if_neg (fun q => vp_in_nI hi hn q), nI_clamp (by omega)]
theorem va_upup {α : Type} (f : Nat → α) (k : Nat) (x y : α) : va_up (va_up f k x) k y = va_up f k y := by
  funext j
  unfold va_up
  by_cases h : j = k
  · simp [h]
  · simp [h]
theorem va_upself {α : Type} {f : Nat → α} {k : Nat} {x : α} (h : f k = x) (j : Nat) : va_up f k x j = f j := by
  unfold va_up
  by_cases hj : j = k
  · rw [if_pos hj, hj, h]
  · rw [if_neg hj]
theorem mov_c {v : VV} {k : Nat} (c : ¬ (vR v k 4 (v.2.2 k 4 - nI 1)).2.2 k 4 ≤ 0) : ¬ v.2.2 k 4 - 1 ≤ 0 := by
  simpa [up2, va_up, show nI 1 = (1 : Int32) from rfl] using c
theorem mov_d {v : VV} {k : Nat} (c : (vR v k 4 (v.2.2 k 4 - nI 1)).2.2 k 4 ≤ 0) : v.2.2 k 4 - 1 ≤ 0 := by
  simpa [up2, va_up, show nI 1 = (1 : Int32) from rfl] using c
theorem sen_n {v : VV} {i n : Nat} (se3 : (seR v i n).1 3 = nI (n + 1)) : (heaC (seR v i n) n).1 3 - nI 1 = nI n := by
  rw [heaC_1, se3]
  exact pk_sub (show 1 ≤ n + 1 by omega)
theorem sen_a {g : GG} {A : Nat → Prop} {M0 M : MM} {b : Nat} {π : Nat → Nat} {v : VV} {i n : Nat} (c : (seR v i n).2.2 n 4 = 0) (hR : RepV g A M b π (rmvC (heaC (seR v i n) n) n (n + 1))) (hF : FrV b M0 M) : whC (rmvC (heaC (seR v i n) n) n (n + 1)) ((rmvC (heaC (seR v i n) n) n (n + 1)).2.1 i 5) = whC (senC v i n) ((senC v i n).2.1 i 5) ∧ EV g A M b (senC v i n) ∧ FrV b M0 M := by
  have e : senC v i n = rmvC (heaC (seR v i n) n) n (n + 1) := if_pos c
  rw [e]
  exact ⟨rfl, ⟨_, hR⟩, hF⟩
theorem sen_b {g : GG} {A : Nat → Prop} {M0 M : MM} {b : Nat} {π : Nat → Nat} {v : VV} {i n : Nat} (c : ¬ (seR v i n).2.2 n 4 = 0) (hR : RepV g A M b π (seR v i n)) (hF : FrV b M0 M) : whC (seR v i n) ((seR v i n).2.1 i 5) = whC (senC v i n) ((senC v i n).2.1 i 5) ∧ EV g A M b (senC v i n) ∧ FrV b M0 M := by
  have e : senC v i n = seR v i n := if_neg c
  rw [e]
  exact ⟨rfl, ⟨_, hR⟩, hF⟩
set_option maxHeartbeats 4000000 in
set_option maxRecDepth 100000 in
/-- a runner is taken from the way -/
theorem k_X6_removeRunner (l : Launch) (g : GG) (A : Nat → Prop) (M0 : MM) (b : Nat) (π : Nat → Nat) (v : VV) (k n : Nat) (hR : RepV g A M0 b π v) (hn : v.1 3 = nI n) (hn20 : n ≤ 20) (hk : k < n) : Met l yX6_removeRunner (Uw yX6_removeRunner cX6_removeRunner 5 (Option.none : Option ClassFile.FieldType)) (rmD 1) (PreM [.ref (b), .int (nI k)] g A M0) (PosV (fun M1 => RepV g A M1 b (rotN k n π) (rmvC v k n) ∧ FrV b M0 M1) g A) 0 0 A := by
  refine mk_Met (own := RX6) rfl rfl (by decide) (Nat.le_of_ble_eq_true rfl) ?_
  intro p e s m below meth c ls aa Q haa hQ hx hb hr hlk hml hown hts hK hM hS hl hnm
  obtain ⟨M, hMM⟩ : ∃ M, M = M0 := ⟨_, rfl⟩
  rw [← hMM] at hM hR
  have ht : ∀ w ∈ lw_good, w.before _ s = true := fun w h => hts w (List.mem_cons_of_mem _ h)
  have hF : FrV b M0 M := by rw [hMM]; exact FrV.rf
  have hl : lv_has ls 5 [(0, .ref (b)), (1, .int (nI k))] := hl
  refine lv_aload_n hx hb dX6_removeRunner_0 rfl (lv_at hl 0 rfl) ?_
  refine lv_iload_n hx hb dX6_removeRunner_1 rfl (lv_at hl 1 rfl) ?_
  refine m_callRQ (val := some (b + 15 + π k)) (w := .ref (b + 15 + π k)) (rfl) (As := [.int (nI k)]) (rest := []) ⟨hx, hb, hml, hown, ht⟩ (k_X6_runnerAt l g A M b π v (nI k) (some k) hR (by rw [hn, if_neg (nI_ge hk (by omega))]; exact gxn_in (by omega) (by omega))) (cwV 1 ht (gU uw_368 uw_369 uw_370 uw_35 uw_371) rfl rfl rfl (by decide +kernel) ⟨by decide, by decide⟩) hK hM hS (m_recv hK hM hR.AW hR.W rfl) rfl hl.1 rfl (Nat.le_of_ble_eq_true rfl) dX6_removeRunner_2 ⟨by decide, by decide⟩ (fun H locs hM hS => ?_)
  refine lv_astore_n (lv' := [(2, .ref (b + 15 + π k)), (0, .ref (b)), (1, .int (nI k))]) hx hb dX6_removeRunner_5 rfl hl (by decide) rfl (fun ls hl => ?_)
  refine lv_aload_n hx hb dX6_removeRunner_6 rfl (lv_at hl 0 rfl) ?_
  refine lv_ifnonnull (tgt := 11) hx hb dX6_removeRunner_7 (by decide) ?_
  have hk20 : k < 20 := by omega
  have hR0 := hR
  refine lv_aload_n hx hb dX6_removeRunner_11 rfl (lv_at hl 1 rfl) ?_
  refine rv_getW hx hb ht ui_X6 hown hK hM hR 3 (by decide) (ht _ uw_194) dX6_removeRunner_12 ?_
  rw [hn]
  refine lv_iconst (v := nI 1) hx hb dX6_removeRunner_15 (by first | rfl | decide) ?_
  refine lv_isub hx hb dX6_removeRunner_16 ?_
  rw [show nI n - nI 1 = nI (n - 1) from pk_sub (show 1 ≤ n by omega)]
  refine lv_istore_n (lv' := [(3, .int (nI (n - 1))), (2, .ref (b + 15 + π k)), (0, .ref (b)), (1, .int (nI k))]) hx hb dX6_removeRunner_17 rfl hl (by decide) rfl (fun ls hl => ?_)
  refine lv_iload_n hx hb dX6_removeRunner_18 rfl (lv_at hl 3 rfl) ?_
  refine lv_istore (lv' := [(4, .int (nI k)), (3, .int (nI (n - 1))), (2, .ref (b + 15 + π k)), (0, .ref (b)), (1, .int (nI k))]) hx hb dX6_removeRunner_19 hl (by decide) rfl (fun ls hl => ?_)
  have loop_21 : ∀ (z_21 : Nat) (i : Nat) (M : MM) (H : Heap) (locs : List Loc) (ls : Array Slot), n - 1 - i < z_21 → k ≤ i → i ≤ n - 1 → M = va_up M0 (b + 2) (raE g b (rhoN k i π)) → HD g A M H → va_S A s.heap H locs → lv_has ls 5 [(4, .int (nI i)), (3, .int (nI (n - 1))), (2, .ref (b + 15 + π k)), (0, .ref (b)), (1, .int (nI k))] → W p l e (rmD 1) s m aa below meth c H locs 0 0 Q (F0 m 21 ls []) := by
    intro z_21
    induction z_21 with
    | zero => intro i M H locs ls hz hi1 hi2 hMu; exact absurd hz (Nat.not_lt_zero _)
    | succ z_21 ih_21 =>
    intro i M H locs ls hz hi1 hi2 hMu hM  hS hl
    have hW : M b = wE b v.1 := by rw [hMu, va_up_ne _ _ (by omega), ← hMM]; exact hR0.W
    have hRA : M (b + 2) = raE g b (rhoN k i π) := by rw [hMu]; exact va_up_self _ _ _
    have hPi : ∀ j, j < 20 → M (b + 15 + π j) = rE (v.2.2 j) := fun j hj => by rw [hMu, va_up_ne _ _ (by omega), ← hMM]; exact hR0.R hj
    refine lv_iload hx hb dX6_removeRunner_21 (lv_at hl 0 rfl) ?_
    refine lv_iload_n hx hb dX6_removeRunner_23 rfl (lv_at hl 1 rfl) ?_
    refine lv_icmp_ge (tgt := 49) hx hb dX6_removeRunner_24 (by decide) (fun c_24 => ?_) (fun c_24 => ?_)
    · have hin : i = n - 1 := Nat.le_antisymm hi2 (nI_le_of (by omega) (by omega) c_24)
      subst hin
      refine lv_aload_n hx hb dX6_removeRunner_49 rfl (lv_at hl 3 rfl) ?_
      refine m_get (ci := 6) (C := RX6) (T := TX6) (N := 6) hx hb ht ui_X6 hown hK hM hR0.AW hW rfl 5 (by decide) (ht _ uw_198) rfl dX6_removeRunner_50 ?_
      refine lv_iload_n hx hb dX6_removeRunner_53 rfl (lv_at hl 1 rfl) ?_
      refine lv_aload_n hx hb dX6_removeRunner_54 rfl (lv_at hl 2 rfl) ?_
      refine m_aast hx hb hK hM hS hR0.ARA 4 5 hRA rfl (hR0.AR (show k < 20 by omega)) ((hPi _ (show k < 20 by omega)).trans rfl) rfl (vp_in_nI (show n - 1 < 20 by omega) (by omega)) dX6_removeRunner_55 (fun H locs hM hS => ?_)
      rw [hMu, va_upup, show (Sum.inl (g.2 4, 20, Sum.inr (Sum.inr (Sum.inr (Sum.inr (va_up (fun j => some (b + 15 + rhoN k (n - 1) π j)) (nI (n - 1)).toNatClampNeg (some (b + 15 + π k))))))) : va_E) = raE g b (rotN k n π) by rw [nI_clamp (show n - 1 < 2 ^ 31 by omega), rho_end k n hk π b]] at hM
      have hR2 : RepV g A (va_up M0 (b + 2) (raE g b (rotN k n π))) b (rotN k n π) (v.1, v.2.1, rotN k n v.2.2) := by rw [← hMM]; exact hR0.setRA (rot_perm hk hn20 hR0.perm) (rot_rows hk hn20)
      have hF : FrV b M0 (va_up M0 (b + 2) (raE g b (rotN k n π))) := FrV.rf.up (by omega) (by omega)
      have hR := hR2
      refine lv_aload_n hx hb dX6_removeRunner_56 rfl (lv_at hl 3 rfl) ?_
      refine lv_iload_n hx hb dX6_removeRunner_57 rfl (lv_at hl 1 rfl) ?_
      refine rv_putW hx hb ht ui_X6 hown hK hM hS hR hF 3 (by decide) (ht _ uw_194) dX6_removeRunner_58 (fun M H locs hM hR hF hS => ?_)
      subst hQ
      exact m_vret hx hb hr hlk hK hM hS dX6_removeRunner_61 (⟨RepV.eq hR (by unfold rmvC; rfl), hF⟩)
    · have hin : i < n - 1 := nI_lt_of (by omega) (by omega) c_24
      refine lv_aload_n hx hb dX6_removeRunner_27 rfl (lv_at hl 3 rfl) ?_
      refine m_get (ci := 6) (C := RX6) (T := TX6) (N := 6) hx hb ht ui_X6 hown hK hM hR0.AW hW rfl 5 (by decide) (ht _ uw_198) rfl dX6_removeRunner_28 ?_
      refine lv_iload hx hb dX6_removeRunner_31 (lv_at hl 0 rfl) ?_
      refine lv_aload_n hx hb dX6_removeRunner_33 rfl (lv_at hl 3 rfl) ?_
      refine m_get (ci := 6) (C := RX6) (T := TX6) (N := 6) hx hb ht ui_X6 hown hK hM hR0.AW hW rfl 5 (by decide) (ht _ uw_198) rfl dX6_removeRunner_34 ?_
      refine lv_iload hx hb dX6_removeRunner_37 (lv_at hl 0 rfl) ?_
      refine lv_iconst (v := nI 1) hx hb dX6_removeRunner_39 (by first | rfl | decide) ?_
      refine lv_iadd hx hb dX6_removeRunner_40 ?_
      rw [nI_add]
      have e41 : rhoN k i π (i + 1) = π (i + 1) := if_neg (by omega)
      refine m_aald hx hb hK hM hR0.ARA 4 hRA rfl (vp_in_nI (show i + 1 < 20 by omega) (by omega)) (r := .ref (b + 15 + π (i + 1))) (by rw [nI_clamp (by omega), e41]; rfl) dX6_removeRunner_41 ?_
      refine m_aast hx hb hK hM hS hR0.ARA 4 5 hRA rfl (hR0.AR (show i + 1 < 20 by omega)) ((hPi _ (show i + 1 < 20 by omega)).trans rfl) rfl (vp_in_nI (show i < 20 by omega) (by omega)) dX6_removeRunner_42 (fun H locs hM hS => ?_)
      rw [hMu, va_upup, show (Sum.inl (g.2 4, 20, Sum.inr (Sum.inr (Sum.inr (Sum.inr (va_up (fun j => some (b + 15 + rhoN k i π j)) (nI i).toNatClampNeg (some (b + 15 + π (i + 1)))))))) : va_E) = raE g b (rhoN k (i + 1) π) by rw [nI_clamp (show i < 2 ^ 31 by omega), rho_up k i hi1 π b]] at hM
      refine lv_iinc (v := nI (i + 1)) (lv' := [(4, .int (nI (i + 1))), (3, .int (nI (n - 1))), (2, .ref (b + 15 + π k)), (0, .ref (b)), (1, .int (nI k))]) hx hb dX6_removeRunner_43 hl (k := 0) rfl (nI_1 _) (by decide) rfl (fun ls hl => ?_)
      refine lv_goto (tgt := 21) hx hb dX6_removeRunner_46 (by decide) ?_
      exact ih_21 (i + 1) _ _ _ _ (by omega) (by omega) (by omega) rfl hM hS (lv_sub hl [0, 1, 2, 3, 4] rfl)
  exact loop_21 _ k _ _ _ _ (Nat.lt_succ_self _) (Nat.le_refl _) (by omega) (by rw [rho_0, hMM]; funext q; exact (va_upself (by rw [← hMM]; exact hR0.RA) q).symm) hM hS (lv_sub hl [0, 1, 2, 3, 4] rfl)

set_option maxHeartbeats 4000000 in
set_option maxRecDepth 100000 in
/-- all runners an hour nearer; those who have come tell -/
theorem k_X6_moveRunners (l : Launch) (g : GG) (A : Nat → Prop) (M0 : MM) (b : Nat) (π : Nat → Nat) (v : VV) (hR : RepV g A M0 b π v) (n : Nat) (hn : v.1 3 = nI n) (hn20 : n ≤ 20)  : Met l yX6_moveRunners (Uw yX6_moveRunners cX6_moveRunners 4 (Option.none : Option ClassFile.FieldType)) (rmD 3) (PreM [.ref (b)] g A M0) (PosV (fun M1 => EV g A M1 b (movC n 0 v) ∧ FrV b M0 M1) g A) 0 0 A := by
  refine mk_Met (own := RX6) rfl rfl (by decide) (Nat.le_of_ble_eq_true rfl) ?_
  intro p e s m below meth c ls aa Q haa hQ hx hb hr hlk hml hown hts hK hM hS hl hnm
  obtain ⟨M, hMM⟩ : ∃ M, M = M0 := ⟨_, rfl⟩
  rw [← hMM] at hM hR
  have ht : ∀ w ∈ lw_good, w.before _ s = true := fun w h => hts w (List.mem_cons_of_mem _ h)
  have hF : FrV b M0 M := by rw [hMM]; exact FrV.rf
  have hl : lv_has ls 4 [(0, .ref (b))] := hl
  obtain ⟨v0, hv0⟩ : ∃ v0, v0 = movC n 0 v := ⟨_, rfl⟩
  rw [← hv0] at hQ
  refine lv_iconst (v := nI 0) hx hb dX6_moveRunners_0 (by first | rfl | decide) ?_
  refine lv_istore_n (lv' := [(1, .int (nI 0)), (0, .ref (b))]) hx hb dX6_moveRunners_1 rfl hl (by decide) rfl (fun ls hl => ?_)
  refine lv_aload_n hx hb dX6_moveRunners_2 rfl (lv_at hl 1 rfl) ?_
  refine rv_getW hx hb ht ui_X6 hown hK hM hR 3 (by decide) (ht _ uw_194) dX6_moveRunners_3 ?_
  refine lv_istore_n (lv' := [(2, .int (v.1 3)), (1, .int (nI 0)), (0, .ref (b))]) hx hb dX6_moveRunners_6 rfl hl (by decide) rfl (fun ls hl => ?_)
  have loop_7 : ∀ (z_7 : Nat) (k : Nat) (y : Nat) (π : Nat → Nat) (v : VV) (M : MM) (H : Heap) (locs : List Loc) (ls : Array Slot), y < z_7 → v.1 3 = nI (k + y) → k + y ≤ 20 → movC y k v = v0 → HD g A M H → RepV g A M b π v → FrV b M0 M → va_S A s.heap H locs → lv_has ls 4 [(2, .int (nI y)), (1, .int (nI k)), (0, .ref (b))] → W p l e (rmD 3) s m aa below meth c H locs 0 0 Q (F0 m 7 ls []) := by
    intro z_7
    induction z_7 with
    | zero => intro k y π v M H locs ls hz hn hn20 hv; exact absurd hz (Nat.not_lt_zero _)
    | succ z_7 ih_7 =>
    intro k y π v M H locs ls hz hn hn20 hv hM hR hF hS hl
    refine lv_iload_n hx hb dX6_moveRunners_7 rfl (lv_at hl 0 rfl) ?_
    refine lv_if_le (tgt := 61) hx hb dX6_moveRunners_8 (by decide) (fun c_8 => ?_) (fun c_8 => ?_)
    · have hy : y = 0 := Nat.le_zero.mp (nI_le_of (by omega) (by omega) c_8)
      subst hy
      subst hQ
      exact m_vret hx hb hr hlk hK hM hS dX6_moveRunners_61 (⟨⟨π, RepV.eq hR hv.symm⟩, hF⟩)
    · obtain ⟨u, hu⟩ : ∃ u, y = u + 1 := ⟨y - 1, by have := Nat.pos_of_ne_zero (fun q => c_8 (by rw [q]; decide) : y ≠ 0); omega⟩
      subst hu
      have hk20 : k < 20 := by omega
      refine lv_aload_n hx hb dX6_moveRunners_11 rfl (lv_at hl 2 rfl) ?_
      refine lv_iload_n hx hb dX6_moveRunners_12 rfl (lv_at hl 1 rfl) ?_
      refine m_callRQ (val := some (b + 15 + π k)) (w := .ref (b + 15 + π k)) (rfl) (As := [.int (nI k)]) (rest := []) ⟨hx, hb, hml, hown, ht⟩ (k_X6_runnerAt l g A M b π v (nI k) (some k) hR (by rw [hn, if_neg (nI_ge (show k < k + (u + 1) by omega) (by omega))]; exact gxn_in (by omega) (by omega))) (cwV 1 ht (gU uw_368 uw_369 uw_370 uw_35 uw_371) rfl rfl rfl (by decide +kernel) ⟨by decide, by decide⟩) hK hM hS (m_recv hK hM hR.AW hR.W rfl) rfl hl.1 rfl (Nat.le_of_ble_eq_true rfl) dX6_moveRunners_13 ⟨by decide, by decide⟩ (fun H locs hM hS => ?_)
      refine lv_astore_n (lv' := [(3, .ref (b + 15 + π k)), (2, .int (nI (u + 1))), (1, .int (nI k)), (0, .ref (b))]) hx hb dX6_moveRunners_16 rfl hl (by decide) rfl (fun ls hl => ?_)
      refine lv_aload_n hx hb dX6_moveRunners_17 rfl (lv_at hl 0 rfl) ?_
      refine lv_ifnonnull (tgt := 22) hx hb dX6_moveRunners_18 (by decide) ?_
      refine lv_aload_n hx hb dX6_moveRunners_22 rfl (lv_at hl 0 rfl) ?_
      refine lv_dup hx hb dX6_moveRunners_23 rfl ?_
      refine rv_getR hx hb ht ui_X5 hown hK hM hR hk20 4 (by decide) (ht _ uw_175) dX6_moveRunners_24 ?_
      refine lv_iconst (v := nI 1) hx hb dX6_moveRunners_27 (by first | rfl | decide) ?_
      refine lv_isub hx hb dX6_moveRunners_28 ?_
      refine rv_putR hx hb ht ui_X5 hown hK hM hS hR hF hk20 4 (by decide) (ht _ uw_175) dX6_moveRunners_29 (fun M H locs hM hR hF hS => ?_)
      refine lv_aload_n hx hb dX6_moveRunners_32 rfl (lv_at hl 0 rfl) ?_
      refine rv_getR hx hb ht ui_X5 hown hK hM hR hk20 4 (by decide) (ht _ uw_175) dX6_moveRunners_33 ?_
      refine lv_if_le (tgt := 45) hx hb dX6_moveRunners_36 (by decide) (fun c_36 => ?_) (fun c_36 => ?_)
      · refine lv_aload_n hx hb dX6_moveRunners_45 rfl (lv_at hl 3 rfl) ?_
        refine lv_aload_n hx hb dX6_moveRunners_46 rfl (lv_at hl 0 rfl) ?_
        refine m_callV (As := [.ref (b + 15 + π k)]) (rest := []) ⟨hx, hb, hml, hown, ht⟩ (k_X6_hear l g A M b π (vR v k 4 (v.2.2 k 4 - nI 1)) k hR hk20) (cwV 1 ht (gU uw_372 uw_374 uw_2 uw_35 uw_375) rfl rfl rfl (by decide +kernel) ⟨by decide, by decide⟩) hK hM hS (m_recv hK hM hR.AW hR.W rfl) rfl hl.1 rfl (Nat.le_of_ble_eq_true rfl) dX6_moveRunners_47 ⟨by decide, by decide⟩ (fun M H locs hp hM hS => ?_)
        obtain ⟨hR, hF1⟩ := hp
        have hF := hF.tr hF1
        refine lv_aload_n hx hb dX6_moveRunners_50 rfl (lv_at hl 3 rfl) ?_
        refine lv_iload_n hx hb dX6_moveRunners_51 rfl (lv_at hl 2 rfl) ?_
        refine m_callV (As := [.int (nI k)]) (rest := []) ⟨hx, hb, hml, hown, ht⟩ (k_X6_removeRunner l g A M b π (heaC (vR v k 4 (v.2.2 k 4 - nI 1)) k) k (k + u + 1) hR (by rw [heaC_1]; exact hn) (by omega) (by omega)) (cwV 1 ht (gU uw_392 uw_393 uw_394 uw_35 uw_395) rfl rfl rfl (by decide +kernel) ⟨by decide, by decide⟩) hK hM hS (m_recv hK hM hR.AW hR.W rfl) rfl hl.1 rfl (Nat.le_of_ble_eq_true rfl) dX6_moveRunners_52 ⟨by decide, by decide⟩ (fun M H locs hp hM hS => ?_)
        obtain ⟨hR, hF1⟩ := hp
        have hF := hF.tr hF1
        refine lv_iinc (v := nI u) (lv' := [(2, .int (nI u)), (3, .ref (b + 15 + π k)), (1, .int (nI k)), (0, .ref (b))]) hx hb dX6_moveRunners_55 hl (k := 1) rfl (pk_m1 u) (by decide) rfl (fun ls hl => ?_)
        refine lv_goto (tgt := 7) hx hb dX6_moveRunners_58 (by decide) ?_
        exact ih_7 k u _ (rmvC (heaC (vR v k 4 (v.2.2 k 4 - nI 1)) k) k (k + u + 1)) _ _ _ _ (by omega) (by rw [rmvC_3]; rfl) (by omega) (by rw [← hv]; exact (if_pos (mov_d c_36)).symm) hM hR hF hS (lv_sub hl [0, 2, 3] rfl)
      · refine lv_iinc (v := nI (k + 1)) (lv' := [(1, .int (nI (k + 1))), (3, .ref (b + 15 + π k)), (2, .int (nI (u + 1))), (0, .ref (b))]) hx hb dX6_moveRunners_39 hl (k := 2) rfl (nI_1 k) (by decide) rfl (fun ls hl => ?_)
        refine lv_goto (tgt := 55) hx hb dX6_moveRunners_42 (by decide) ?_
        refine lv_iinc (v := nI u) (lv' := [(2, .int (nI u)), (1, .int (nI (k + 1))), (3, .ref (b + 15 + π k)), (0, .ref (b))]) hx hb dX6_moveRunners_55 hl (k := 2) rfl (pk_m1 u) (by decide) rfl (fun ls hl => ?_)
        refine lv_goto (tgt := 7) hx hb dX6_moveRunners_58 (by decide) ?_
        exact ih_7 (k + 1) u _ (vR v k 4 (v.2.2 k 4 - nI 1)) _ _ _ _ (by omega) (by rw [show v.1 3 = nI (k + (u + 1)) from hn]; congr 1; omega) (by omega) (by rw [← hv]; exact (if_neg (mov_c c_36)).symm) hM hR hF hS (lv_sub hl [0, 1, 3] rfl)
  rw [hn] at hl
  exact loop_7 _ 0 n π v _ _ _ _ (Nat.lt_succ_self _) (by rw [hn]; congr 1; omega) (by omega) hv0.symm hM hR hF hS (lv_sub hl [0, 1, 2] rfl)

set_option maxHeartbeats 4000000 in
set_option maxRecDepth 100000 in
/-- a runner is sent -/
theorem k_X6_sendRunner (l : Launch) (g : GG) (A : Nat → Prop) (M0 : MM) (b : Nat) (π : Nat → Nat) (v : VV) (i : Nat) (hR : RepV g A M0 b π v) (n : Nat) (hn : v.1 3 = nI n) (hn20 : n ≤ 20) (hi : i < 6) : Met l yX6_sendRunner (Uw yX6_sendRunner cX6_sendRunner 4 (Option.some ClassFile.FieldType.int)) (rmD 3) (PreM [.ref (b), .int (nI i)] g A M0) (PosI (fun r M1 => (n < 20 → r = whC (senC v i n) ((senC v i n).2.1 i 5) ∧ EV g A M1 b (senC v i n) ∧ FrV b M0 M1) ∧ (¬ n < 20 → r = -1000004 ∧ M1 = M0)) g A) 0 0 A := by
  refine mk_Met (own := RX6) rfl rfl (by decide) (Nat.le_of_ble_eq_true rfl) ?_
  intro p e s m below meth c ls aa Q haa hQ hx hb hr hlk hml hown hts hK hM hS hl hnm
  obtain ⟨M, hMM⟩ : ∃ M, M = M0 := ⟨_, rfl⟩
  rw [← hMM] at hM hR
  have ht : ∀ w ∈ lw_good, w.before _ s = true := fun w h => hts w (List.mem_cons_of_mem _ h)
  have hF : FrV b M0 M := by rw [hMM]; exact FrV.rf
  have hl : lv_has ls 4 [(0, .ref (b)), (1, .int (nI i))] := hl
  by_cases hlt : n < 20
  · refine lv_aload_n hx hb dX6_sendRunner_0 rfl (lv_at hl 0 rfl) ?_
    refine lv_iload_n hx hb dX6_sendRunner_1 rfl (lv_at hl 1 rfl) ?_
    refine m_callRQ (val := some (b + 3 + 2 * i)) (w := .ref (b + 3 + 2 * i)) (rfl) (As := [.int (nI i)]) (rest := []) ⟨hx, hb, hml, hown, ht⟩ (k_X6_gaugeAt l g A M b π v (nI i) (some i) hR (gxn_in hi (by decide))) (cwV 1 ht (gU uw_336 uw_337 uw_338 uw_35 uw_339) rfl rfl rfl (by decide +kernel) ⟨by decide, by decide⟩) hK hM hS (m_recv hK hM hR.AW hR.W rfl) rfl hl.1 rfl (Nat.le_of_ble_eq_true rfl) dX6_sendRunner_2 ⟨by decide, by decide⟩ (fun H locs hM hS => ?_)
    refine lv_astore_n (lv' := [(2, .ref (b + 3 + 2 * i)), (0, .ref (b)), (1, .int (nI i))]) hx hb dX6_sendRunner_5 rfl hl (by decide) rfl (fun ls hl => ?_)
    refine lv_aload_n hx hb dX6_sendRunner_6 rfl (lv_at hl 0 rfl) ?_
    refine lv_ifnonnull (tgt := 13) hx hb dX6_sendRunner_7 (by decide) ?_
    refine lv_aload_n hx hb dX6_sendRunner_13 rfl (lv_at hl 1 rfl) ?_
    refine m_callQ (As := []) (rest := []) ⟨hx, hb, hml, hown, ht⟩ (k_X6_addRunner l g A M b π v hR n hn hn20) (cwV 0 ht (gU uw_409 uw_411 uw_6 uw_35 uw_412) rfl rfl rfl (by decide +kernel) ⟨by decide, by decide⟩) hK hM hS (m_recv hK hM hR.AW hR.W rfl) rfl hl.1 rfl (Nat.le_of_ble_eq_true rfl) dX6_sendRunner_14 ⟨by decide, by decide⟩ (fun r9 M H locs hp hM hS => ?_)
    obtain ⟨e9, hR, hF1⟩ := hp.1 hlt
    subst e9
    have hF := hF.tr hF1
    refine lv_astore_n (lv' := [(3, .ref (b + 15 + π n)), (2, .ref (b + 3 + 2 * i)), (0, .ref (b)), (1, .int (nI i))]) hx hb dX6_sendRunner_17 rfl hl (by decide) rfl (fun ls hl => ?_)
    refine lv_aload_n hx hb dX6_sendRunner_18 rfl (lv_at hl 0 rfl) ?_
    refine lv_ifnonnull (tgt := 25) hx hb dX6_sendRunner_19 (by decide) ?_
    refine lv_aload_n hx hb dX6_sendRunner_25 rfl (lv_at hl 0 rfl) ?_
    refine lv_iload_n hx hb dX6_sendRunner_26 rfl (lv_at hl 3 rfl) ?_
    refine rv_putR hx hb ht ui_X5 hown hK hM hS hR hF hlt 0 (by decide) (ht _ uw_165) dX6_sendRunner_27 (fun M H locs hM hR hF hS => ?_)
    refine lv_aload_n hx hb dX6_sendRunner_30 rfl (lv_at hl 0 rfl) ?_
    refine lv_aload_n hx hb dX6_sendRunner_31 rfl (lv_at hl 1 rfl) ?_
    refine rv_getG hx hb ht ui_X0 hown hK hM hR hi 5 (by decide) (ht _ uw_131) dX6_sendRunner_32 ?_
    refine rv_putR hx hb ht ui_X5 hown hK hM hS hR hF hlt 1 (by decide) (ht _ uw_167) dX6_sendRunner_35 (fun M H locs hM hR hF hS => ?_)
    refine lv_aload_n hx hb dX6_sendRunner_38 rfl (lv_at hl 0 rfl) ?_
    refine lv_aload_n hx hb dX6_sendRunner_39 rfl (lv_at hl 2 rfl) ?_
    refine rv_getW hx hb ht ui_X6 hown hK hM hR 2 (by decide) (ht _ uw_192) dX6_sendRunner_40 ?_
    refine rv_putR hx hb ht ui_X5 hown hK hM hS hR hF hlt 2 (by decide) (ht _ uw_170) dX6_sendRunner_43 (fun M H locs hM hR hF hS => ?_)
    refine lv_aload_n hx hb dX6_sendRunner_46 rfl (lv_at hl 0 rfl) ?_
    refine lv_aload_n hx hb dX6_sendRunner_47 rfl (lv_at hl 2 rfl) ?_
    refine rv_getga hx hb ht ui_X6 hown hK hM hR (ht _ uw_196) dX6_sendRunner_48 ?_
    refine lv_iconst (v := nI 0) hx hb dX6_sendRunner_51 (by first | rfl | decide) ?_
    refine rv_aldG hx hb hK hM hR ((by decide : 0 < 6)) dX6_sendRunner_52 ?_
    refine rv_getG hx hb ht ui_X0 hown hK hM hR ((by decide : 0 < 6)) 6 (by decide) (ht _ uw_133) dX6_sendRunner_53 ?_
    refine rv_putR hx hb ht ui_X5 hown hK hM hS hR hF hlt 3 (by decide) (ht _ uw_173) dX6_sendRunner_56 (fun M H locs hM hR hF hS => ?_)
    refine lv_aload_n hx hb dX6_sendRunner_59 rfl (lv_at hl 0 rfl) ?_
    refine lv_aload_n hx hb dX6_sendRunner_60 rfl (lv_at hl 1 rfl) ?_
    refine rv_getG hx hb ht ui_X0 hown hK hM hR hi 3 (by decide) (ht _ uw_126) dX6_sendRunner_61 ?_
    refine rv_putR hx hb ht ui_X5 hown hK hM hS hR hF hlt 4 (by decide) (ht _ uw_175) dX6_sendRunner_64 (fun M H locs hM hR hF hS => ?_)
    have se3 : (seR v i n).1 3 = nI (n + 1) := by simp [seR, va_up, nI_1]
    refine lv_aload_n hx hb dX6_sendRunner_67 rfl (lv_at hl 0 rfl) ?_
    refine rv_getR hx hb ht ui_X5 hown hK hM hR hlt 4 (by decide) (ht _ uw_175) dX6_sendRunner_68 ?_
    refine lv_if_ne (tgt := 89) hx hb dX6_sendRunner_71 (by decide) (fun c_71 => ?_) (fun c_71 => ?_)
    · refine lv_aload_n hx hb dX6_sendRunner_89 rfl (lv_at hl 2 rfl) ?_
      refine lv_aload_n hx hb dX6_sendRunner_90 rfl (lv_at hl 1 rfl) ?_
      refine rv_getG hx hb ht ui_X0 hown hK hM hR hi 5 (by decide) (ht _ uw_131) dX6_sendRunner_91 ?_
      refine m_callRI (val := whC (vR (vR (vR (vR (vR (vW v 3 (nI n + 1)) n 0 (nI i)) n 1 ((vR (vW v 3 (nI n + 1)) n 0 (nI i)).2.1 i 5)) n 2 ((vR (vR (vW v 3 (nI n + 1)) n 0 (nI i)) n 1 ((vR (vW v 3 (nI n + 1)) n 0 (nI i)).2.1 i 5)).1 2)) n 3 ((vR (vR (vR (vW v 3 (nI n + 1)) n 0 (nI i)) n 1 ((vR (vW v 3 (nI n + 1)) n 0 (nI i)).2.1 i 5)) n 2 ((vR (vR (vW v 3 (nI n + 1)) n 0 (nI i)) n 1 ((vR (vW v 3 (nI n + 1)) n 0 (nI i)).2.1 i 5)).1 2)).2.1 0 6)) n 4 ((vR (vR (vR (vR (vW v 3 (nI n + 1)) n 0 (nI i)) n 1 ((vR (vW v 3 (nI n + 1)) n 0 (nI i)).2.1 i 5)) n 2 ((vR (vR (vW v 3 (nI n + 1)) n 0 (nI i)) n 1 ((vR (vW v 3 (nI n + 1)) n 0 (nI i)).2.1 i 5)).1 2)) n 3 ((vR (vR (vR (vW v 3 (nI n + 1)) n 0 (nI i)) n 1 ((vR (vW v 3 (nI n + 1)) n 0 (nI i)).2.1 i 5)) n 2 ((vR (vR (vW v 3 (nI n + 1)) n 0 (nI i)) n 1 ((vR (vW v 3 (nI n + 1)) n 0 (nI i)).2.1 i 5)).1 2)).2.1 0 6)).2.1 i 3)) ((vR (vR (vR (vR (vR (vW v 3 (nI n + 1)) n 0 (nI i)) n 1 ((vR (vW v 3 (nI n + 1)) n 0 (nI i)).2.1 i 5)) n 2 ((vR (vR (vW v 3 (nI n + 1)) n 0 (nI i)) n 1 ((vR (vW v 3 (nI n + 1)) n 0 (nI i)).2.1 i 5)).1 2)) n 3 ((vR (vR (vR (vW v 3 (nI n + 1)) n 0 (nI i)) n 1 ((vR (vW v 3 (nI n + 1)) n 0 (nI i)).2.1 i 5)) n 2 ((vR (vR (vW v 3 (nI n + 1)) n 0 (nI i)) n 1 ((vR (vW v 3 (nI n + 1)) n 0 (nI i)).2.1 i 5)).1 2)).2.1 0 6)) n 4 ((vR (vR (vR (vR (vW v 3 (nI n + 1)) n 0 (nI i)) n 1 ((vR (vW v 3 (nI n + 1)) n 0 (nI i)).2.1 i 5)) n 2 ((vR (vR (vW v 3 (nI n + 1)) n 0 (nI i)) n 1 ((vR (vW v 3 (nI n + 1)) n 0 (nI i)).2.1 i 5)).1 2)) n 3 ((vR (vR (vR (vW v 3 (nI n + 1)) n 0 (nI i)) n 1 ((vR (vW v 3 (nI n + 1)) n 0 (nI i)).2.1 i 5)) n 2 ((vR (vR (vW v 3 (nI n + 1)) n 0 (nI i)) n 1 ((vR (vW v 3 (nI n + 1)) n 0 (nI i)).2.1 i 5)).1 2)).2.1 0 6)).2.1 i 3)).2.1 i 5)) (As := [.int ((vR (vR (vR (vR (vR (vW v 3 (nI n + 1)) n 0 (nI i)) n 1 ((vR (vW v 3 (nI n + 1)) n 0 (nI i)).2.1 i 5)) n 2 ((vR (vR (vW v 3 (nI n + 1)) n 0 (nI i)) n 1 ((vR (vW v 3 (nI n + 1)) n 0 (nI i)).2.1 i 5)).1 2)) n 3 ((vR (vR (vR (vW v 3 (nI n + 1)) n 0 (nI i)) n 1 ((vR (vW v 3 (nI n + 1)) n 0 (nI i)).2.1 i 5)) n 2 ((vR (vR (vW v 3 (nI n + 1)) n 0 (nI i)) n 1 ((vR (vW v 3 (nI n + 1)) n 0 (nI i)).2.1 i 5)).1 2)).2.1 0 6)) n 4 ((vR (vR (vR (vR (vW v 3 (nI n + 1)) n 0 (nI i)) n 1 ((vR (vW v 3 (nI n + 1)) n 0 (nI i)).2.1 i 5)) n 2 ((vR (vR (vW v 3 (nI n + 1)) n 0 (nI i)) n 1 ((vR (vW v 3 (nI n + 1)) n 0 (nI i)).2.1 i 5)).1 2)) n 3 ((vR (vR (vR (vW v 3 (nI n + 1)) n 0 (nI i)) n 1 ((vR (vW v 3 (nI n + 1)) n 0 (nI i)).2.1 i 5)) n 2 ((vR (vR (vW v 3 (nI n + 1)) n 0 (nI i)) n 1 ((vR (vW v 3 (nI n + 1)) n 0 (nI i)).2.1 i 5)).1 2)).2.1 0 6)).2.1 i 3)).2.1 i 5)]) (rest := []) ⟨hx, hb, hml, hown, ht⟩ (k_X6_wheelAt l g A M b _ (vR (vR (vR (vR (vR (vW v 3 (nI n + 1)) n 0 (nI i)) n 1 ((vR (vW v 3 (nI n + 1)) n 0 (nI i)).2.1 i 5)) n 2 ((vR (vR (vW v 3 (nI n + 1)) n 0 (nI i)) n 1 ((vR (vW v 3 (nI n + 1)) n 0 (nI i)).2.1 i 5)).1 2)) n 3 ((vR (vR (vR (vW v 3 (nI n + 1)) n 0 (nI i)) n 1 ((vR (vW v 3 (nI n + 1)) n 0 (nI i)).2.1 i 5)) n 2 ((vR (vR (vW v 3 (nI n + 1)) n 0 (nI i)) n 1 ((vR (vW v 3 (nI n + 1)) n 0 (nI i)).2.1 i 5)).1 2)).2.1 0 6)) n 4 ((vR (vR (vR (vR (vW v 3 (nI n + 1)) n 0 (nI i)) n 1 ((vR (vW v 3 (nI n + 1)) n 0 (nI i)).2.1 i 5)) n 2 ((vR (vR (vW v 3 (nI n + 1)) n 0 (nI i)) n 1 ((vR (vW v 3 (nI n + 1)) n 0 (nI i)).2.1 i 5)).1 2)) n 3 ((vR (vR (vR (vW v 3 (nI n + 1)) n 0 (nI i)) n 1 ((vR (vW v 3 (nI n + 1)) n 0 (nI i)).2.1 i 5)) n 2 ((vR (vR (vW v 3 (nI n + 1)) n 0 (nI i)) n 1 ((vR (vW v 3 (nI n + 1)) n 0 (nI i)).2.1 i 5)).1 2)).2.1 0 6)).2.1 i 3)) ((vR (vR (vR (vR (vR (vW v 3 (nI n + 1)) n 0 (nI i)) n 1 ((vR (vW v 3 (nI n + 1)) n 0 (nI i)).2.1 i 5)) n 2 ((vR (vR (vW v 3 (nI n + 1)) n 0 (nI i)) n 1 ((vR (vW v 3 (nI n + 1)) n 0 (nI i)).2.1 i 5)).1 2)) n 3 ((vR (vR (vR (vW v 3 (nI n + 1)) n 0 (nI i)) n 1 ((vR (vW v 3 (nI n + 1)) n 0 (nI i)).2.1 i 5)) n 2 ((vR (vR (vW v 3 (nI n + 1)) n 0 (nI i)) n 1 ((vR (vW v 3 (nI n + 1)) n 0 (nI i)).2.1 i 5)).1 2)).2.1 0 6)) n 4 ((vR (vR (vR (vR (vW v 3 (nI n + 1)) n 0 (nI i)) n 1 ((vR (vW v 3 (nI n + 1)) n 0 (nI i)).2.1 i 5)) n 2 ((vR (vR (vW v 3 (nI n + 1)) n 0 (nI i)) n 1 ((vR (vW v 3 (nI n + 1)) n 0 (nI i)).2.1 i 5)).1 2)) n 3 ((vR (vR (vR (vW v 3 (nI n + 1)) n 0 (nI i)) n 1 ((vR (vW v 3 (nI n + 1)) n 0 (nI i)).2.1 i 5)) n 2 ((vR (vR (vW v 3 (nI n + 1)) n 0 (nI i)) n 1 ((vR (vW v 3 (nI n + 1)) n 0 (nI i)).2.1 i 5)).1 2)).2.1 0 6)).2.1 i 3)).2.1 i 5) hR) (cwV 1 ht (gU uw_376 uw_377 uw_378 uw_35 uw_379) rfl rfl rfl (by decide +kernel) ⟨by decide, by decide⟩) hK hM hS (m_recv hK hM hR.AW hR.W rfl) rfl hl.1 rfl (Nat.le_of_ble_eq_true rfl) dX6_sendRunner_94 ⟨by decide, by decide⟩ (fun H locs hM hS => ?_)
      subst hQ
      exact m_zret hx hb hr rfl hlk hK hM hS dX6_sendRunner_97 (⟨fun _ => sen_b c_71 hR hF, fun q => absurd hlt q⟩)
    · refine lv_aload_n hx hb dX6_sendRunner_74 rfl (lv_at hl 2 rfl) ?_
      refine lv_aload_n hx hb dX6_sendRunner_75 rfl (lv_at hl 0 rfl) ?_
      refine m_callV (As := [.ref (b + 15 + π n)]) (rest := []) ⟨hx, hb, hml, hown, ht⟩ (k_X6_hear l g A M b π (vR (vR (vR (vR (vR (vW v 3 (nI n + 1)) n 0 (nI i)) n 1 ((vR (vW v 3 (nI n + 1)) n 0 (nI i)).2.1 i 5)) n 2 ((vR (vR (vW v 3 (nI n + 1)) n 0 (nI i)) n 1 ((vR (vW v 3 (nI n + 1)) n 0 (nI i)).2.1 i 5)).1 2)) n 3 ((vR (vR (vR (vW v 3 (nI n + 1)) n 0 (nI i)) n 1 ((vR (vW v 3 (nI n + 1)) n 0 (nI i)).2.1 i 5)) n 2 ((vR (vR (vW v 3 (nI n + 1)) n 0 (nI i)) n 1 ((vR (vW v 3 (nI n + 1)) n 0 (nI i)).2.1 i 5)).1 2)).2.1 0 6)) n 4 ((vR (vR (vR (vR (vW v 3 (nI n + 1)) n 0 (nI i)) n 1 ((vR (vW v 3 (nI n + 1)) n 0 (nI i)).2.1 i 5)) n 2 ((vR (vR (vW v 3 (nI n + 1)) n 0 (nI i)) n 1 ((vR (vW v 3 (nI n + 1)) n 0 (nI i)).2.1 i 5)).1 2)) n 3 ((vR (vR (vR (vW v 3 (nI n + 1)) n 0 (nI i)) n 1 ((vR (vW v 3 (nI n + 1)) n 0 (nI i)).2.1 i 5)) n 2 ((vR (vR (vW v 3 (nI n + 1)) n 0 (nI i)) n 1 ((vR (vW v 3 (nI n + 1)) n 0 (nI i)).2.1 i 5)).1 2)).2.1 0 6)).2.1 i 3)) n hR hlt) (cwV 1 ht (gU uw_372 uw_374 uw_2 uw_35 uw_375) rfl rfl rfl (by decide +kernel) ⟨by decide, by decide⟩) hK hM hS (m_recv hK hM hR.AW hR.W rfl) rfl hl.1 rfl (Nat.le_of_ble_eq_true rfl) dX6_sendRunner_76 ⟨by decide, by decide⟩ (fun M H locs hp hM hS => ?_)
      obtain ⟨hR, hF1⟩ := hp
      have hF := hF.tr hF1
      refine lv_aload_n hx hb dX6_sendRunner_79 rfl (lv_at hl 2 rfl) ?_
      refine lv_aload_n hx hb dX6_sendRunner_80 rfl (lv_at hl 2 rfl) ?_
      refine rv_getW hx hb ht ui_X6 hown hK hM hR 3 (by decide) (ht _ uw_194) dX6_sendRunner_81 ?_
      refine lv_iconst (v := nI 1) hx hb dX6_sendRunner_84 (by first | rfl | decide) ?_
      refine lv_isub hx hb dX6_sendRunner_85 ?_
      rw [show ((heaC (vR (vR (vR (vR (vR (vW v 3 (nI n + 1)) n 0 (nI i)) n 1 ((vR (vW v 3 (nI n + 1)) n 0 (nI i)).2.1 i 5)) n 2 ((vR (vR (vW v 3 (nI n + 1)) n 0 (nI i)) n 1 ((vR (vW v 3 (nI n + 1)) n 0 (nI i)).2.1 i 5)).1 2)) n 3 ((vR (vR (vR (vW v 3 (nI n + 1)) n 0 (nI i)) n 1 ((vR (vW v 3 (nI n + 1)) n 0 (nI i)).2.1 i 5)) n 2 ((vR (vR (vW v 3 (nI n + 1)) n 0 (nI i)) n 1 ((vR (vW v 3 (nI n + 1)) n 0 (nI i)).2.1 i 5)).1 2)).2.1 0 6)) n 4 ((vR (vR (vR (vR (vW v 3 (nI n + 1)) n 0 (nI i)) n 1 ((vR (vW v 3 (nI n + 1)) n 0 (nI i)).2.1 i 5)) n 2 ((vR (vR (vW v 3 (nI n + 1)) n 0 (nI i)) n 1 ((vR (vW v 3 (nI n + 1)) n 0 (nI i)).2.1 i 5)).1 2)) n 3 ((vR (vR (vR (vW v 3 (nI n + 1)) n 0 (nI i)) n 1 ((vR (vW v 3 (nI n + 1)) n 0 (nI i)).2.1 i 5)) n 2 ((vR (vR (vW v 3 (nI n + 1)) n 0 (nI i)) n 1 ((vR (vW v 3 (nI n + 1)) n 0 (nI i)).2.1 i 5)).1 2)).2.1 0 6)).2.1 i 3)) n).1 3) - (nI 1) = nI n from sen_n se3]
      refine m_callV (As := [.int (nI n)]) (rest := []) ⟨hx, hb, hml, hown, ht⟩ (k_X6_removeRunner l g A M b π (heaC (vR (vR (vR (vR (vR (vW v 3 (nI n + 1)) n 0 (nI i)) n 1 ((vR (vW v 3 (nI n + 1)) n 0 (nI i)).2.1 i 5)) n 2 ((vR (vR (vW v 3 (nI n + 1)) n 0 (nI i)) n 1 ((vR (vW v 3 (nI n + 1)) n 0 (nI i)).2.1 i 5)).1 2)) n 3 ((vR (vR (vR (vW v 3 (nI n + 1)) n 0 (nI i)) n 1 ((vR (vW v 3 (nI n + 1)) n 0 (nI i)).2.1 i 5)) n 2 ((vR (vR (vW v 3 (nI n + 1)) n 0 (nI i)) n 1 ((vR (vW v 3 (nI n + 1)) n 0 (nI i)).2.1 i 5)).1 2)).2.1 0 6)) n 4 ((vR (vR (vR (vR (vW v 3 (nI n + 1)) n 0 (nI i)) n 1 ((vR (vW v 3 (nI n + 1)) n 0 (nI i)).2.1 i 5)) n 2 ((vR (vR (vW v 3 (nI n + 1)) n 0 (nI i)) n 1 ((vR (vW v 3 (nI n + 1)) n 0 (nI i)).2.1 i 5)).1 2)) n 3 ((vR (vR (vR (vW v 3 (nI n + 1)) n 0 (nI i)) n 1 ((vR (vW v 3 (nI n + 1)) n 0 (nI i)).2.1 i 5)) n 2 ((vR (vR (vW v 3 (nI n + 1)) n 0 (nI i)) n 1 ((vR (vW v 3 (nI n + 1)) n 0 (nI i)).2.1 i 5)).1 2)).2.1 0 6)).2.1 i 3)) n) n (n + 1) hR (by rw [heaC_1]; exact se3) (by omega) (by omega)) (cwV 1 ht (gU uw_392 uw_393 uw_394 uw_35 uw_395) rfl rfl rfl (by decide +kernel) ⟨by decide, by decide⟩) hK hM hS (m_recv hK hM hR.AW hR.W rfl) rfl hl.1 rfl (Nat.le_of_ble_eq_true rfl) dX6_sendRunner_86 ⟨by decide, by decide⟩ (fun M H locs hp hM hS => ?_)
      obtain ⟨hR, hF1⟩ := hp
      have hF := hF.tr hF1
      refine lv_aload_n hx hb dX6_sendRunner_89 rfl (lv_at hl 2 rfl) ?_
      refine lv_aload_n hx hb dX6_sendRunner_90 rfl (lv_at hl 1 rfl) ?_
      refine rv_getG hx hb ht ui_X0 hown hK hM hR hi 5 (by decide) (ht _ uw_131) dX6_sendRunner_91 ?_
      refine m_callRI (val := whC (rmvC (heaC (vR (vR (vR (vR (vR (vW v 3 (nI n + 1)) n 0 (nI i)) n 1 ((vR (vW v 3 (nI n + 1)) n 0 (nI i)).2.1 i 5)) n 2 ((vR (vR (vW v 3 (nI n + 1)) n 0 (nI i)) n 1 ((vR (vW v 3 (nI n + 1)) n 0 (nI i)).2.1 i 5)).1 2)) n 3 ((vR (vR (vR (vW v 3 (nI n + 1)) n 0 (nI i)) n 1 ((vR (vW v 3 (nI n + 1)) n 0 (nI i)).2.1 i 5)) n 2 ((vR (vR (vW v 3 (nI n + 1)) n 0 (nI i)) n 1 ((vR (vW v 3 (nI n + 1)) n 0 (nI i)).2.1 i 5)).1 2)).2.1 0 6)) n 4 ((vR (vR (vR (vR (vW v 3 (nI n + 1)) n 0 (nI i)) n 1 ((vR (vW v 3 (nI n + 1)) n 0 (nI i)).2.1 i 5)) n 2 ((vR (vR (vW v 3 (nI n + 1)) n 0 (nI i)) n 1 ((vR (vW v 3 (nI n + 1)) n 0 (nI i)).2.1 i 5)).1 2)) n 3 ((vR (vR (vR (vW v 3 (nI n + 1)) n 0 (nI i)) n 1 ((vR (vW v 3 (nI n + 1)) n 0 (nI i)).2.1 i 5)) n 2 ((vR (vR (vW v 3 (nI n + 1)) n 0 (nI i)) n 1 ((vR (vW v 3 (nI n + 1)) n 0 (nI i)).2.1 i 5)).1 2)).2.1 0 6)).2.1 i 3)) n) n (n + 1)) ((rmvC (heaC (vR (vR (vR (vR (vR (vW v 3 (nI n + 1)) n 0 (nI i)) n 1 ((vR (vW v 3 (nI n + 1)) n 0 (nI i)).2.1 i 5)) n 2 ((vR (vR (vW v 3 (nI n + 1)) n 0 (nI i)) n 1 ((vR (vW v 3 (nI n + 1)) n 0 (nI i)).2.1 i 5)).1 2)) n 3 ((vR (vR (vR (vW v 3 (nI n + 1)) n 0 (nI i)) n 1 ((vR (vW v 3 (nI n + 1)) n 0 (nI i)).2.1 i 5)) n 2 ((vR (vR (vW v 3 (nI n + 1)) n 0 (nI i)) n 1 ((vR (vW v 3 (nI n + 1)) n 0 (nI i)).2.1 i 5)).1 2)).2.1 0 6)) n 4 ((vR (vR (vR (vR (vW v 3 (nI n + 1)) n 0 (nI i)) n 1 ((vR (vW v 3 (nI n + 1)) n 0 (nI i)).2.1 i 5)) n 2 ((vR (vR (vW v 3 (nI n + 1)) n 0 (nI i)) n 1 ((vR (vW v 3 (nI n + 1)) n 0 (nI i)).2.1 i 5)).1 2)) n 3 ((vR (vR (vR (vW v 3 (nI n + 1)) n 0 (nI i)) n 1 ((vR (vW v 3 (nI n + 1)) n 0 (nI i)).2.1 i 5)) n 2 ((vR (vR (vW v 3 (nI n + 1)) n 0 (nI i)) n 1 ((vR (vW v 3 (nI n + 1)) n 0 (nI i)).2.1 i 5)).1 2)).2.1 0 6)).2.1 i 3)) n) n (n + 1)).2.1 i 5)) (As := [.int ((rmvC (heaC (vR (vR (vR (vR (vR (vW v 3 (nI n + 1)) n 0 (nI i)) n 1 ((vR (vW v 3 (nI n + 1)) n 0 (nI i)).2.1 i 5)) n 2 ((vR (vR (vW v 3 (nI n + 1)) n 0 (nI i)) n 1 ((vR (vW v 3 (nI n + 1)) n 0 (nI i)).2.1 i 5)).1 2)) n 3 ((vR (vR (vR (vW v 3 (nI n + 1)) n 0 (nI i)) n 1 ((vR (vW v 3 (nI n + 1)) n 0 (nI i)).2.1 i 5)) n 2 ((vR (vR (vW v 3 (nI n + 1)) n 0 (nI i)) n 1 ((vR (vW v 3 (nI n + 1)) n 0 (nI i)).2.1 i 5)).1 2)).2.1 0 6)) n 4 ((vR (vR (vR (vR (vW v 3 (nI n + 1)) n 0 (nI i)) n 1 ((vR (vW v 3 (nI n + 1)) n 0 (nI i)).2.1 i 5)) n 2 ((vR (vR (vW v 3 (nI n + 1)) n 0 (nI i)) n 1 ((vR (vW v 3 (nI n + 1)) n 0 (nI i)).2.1 i 5)).1 2)) n 3 ((vR (vR (vR (vW v 3 (nI n + 1)) n 0 (nI i)) n 1 ((vR (vW v 3 (nI n + 1)) n 0 (nI i)).2.1 i 5)) n 2 ((vR (vR (vW v 3 (nI n + 1)) n 0 (nI i)) n 1 ((vR (vW v 3 (nI n + 1)) n 0 (nI i)).2.1 i 5)).1 2)).2.1 0 6)).2.1 i 3)) n) n (n + 1)).2.1 i 5)]) (rest := []) ⟨hx, hb, hml, hown, ht⟩ (k_X6_wheelAt l g A M b _ (rmvC (heaC (vR (vR (vR (vR (vR (vW v 3 (nI n + 1)) n 0 (nI i)) n 1 ((vR (vW v 3 (nI n + 1)) n 0 (nI i)).2.1 i 5)) n 2 ((vR (vR (vW v 3 (nI n + 1)) n 0 (nI i)) n 1 ((vR (vW v 3 (nI n + 1)) n 0 (nI i)).2.1 i 5)).1 2)) n 3 ((vR (vR (vR (vW v 3 (nI n + 1)) n 0 (nI i)) n 1 ((vR (vW v 3 (nI n + 1)) n 0 (nI i)).2.1 i 5)) n 2 ((vR (vR (vW v 3 (nI n + 1)) n 0 (nI i)) n 1 ((vR (vW v 3 (nI n + 1)) n 0 (nI i)).2.1 i 5)).1 2)).2.1 0 6)) n 4 ((vR (vR (vR (vR (vW v 3 (nI n + 1)) n 0 (nI i)) n 1 ((vR (vW v 3 (nI n + 1)) n 0 (nI i)).2.1 i 5)) n 2 ((vR (vR (vW v 3 (nI n + 1)) n 0 (nI i)) n 1 ((vR (vW v 3 (nI n + 1)) n 0 (nI i)).2.1 i 5)).1 2)) n 3 ((vR (vR (vR (vW v 3 (nI n + 1)) n 0 (nI i)) n 1 ((vR (vW v 3 (nI n + 1)) n 0 (nI i)).2.1 i 5)) n 2 ((vR (vR (vW v 3 (nI n + 1)) n 0 (nI i)) n 1 ((vR (vW v 3 (nI n + 1)) n 0 (nI i)).2.1 i 5)).1 2)).2.1 0 6)).2.1 i 3)) n) n (n + 1)) ((rmvC (heaC (vR (vR (vR (vR (vR (vW v 3 (nI n + 1)) n 0 (nI i)) n 1 ((vR (vW v 3 (nI n + 1)) n 0 (nI i)).2.1 i 5)) n 2 ((vR (vR (vW v 3 (nI n + 1)) n 0 (nI i)) n 1 ((vR (vW v 3 (nI n + 1)) n 0 (nI i)).2.1 i 5)).1 2)) n 3 ((vR (vR (vR (vW v 3 (nI n + 1)) n 0 (nI i)) n 1 ((vR (vW v 3 (nI n + 1)) n 0 (nI i)).2.1 i 5)) n 2 ((vR (vR (vW v 3 (nI n + 1)) n 0 (nI i)) n 1 ((vR (vW v 3 (nI n + 1)) n 0 (nI i)).2.1 i 5)).1 2)).2.1 0 6)) n 4 ((vR (vR (vR (vR (vW v 3 (nI n + 1)) n 0 (nI i)) n 1 ((vR (vW v 3 (nI n + 1)) n 0 (nI i)).2.1 i 5)) n 2 ((vR (vR (vW v 3 (nI n + 1)) n 0 (nI i)) n 1 ((vR (vW v 3 (nI n + 1)) n 0 (nI i)).2.1 i 5)).1 2)) n 3 ((vR (vR (vR (vW v 3 (nI n + 1)) n 0 (nI i)) n 1 ((vR (vW v 3 (nI n + 1)) n 0 (nI i)).2.1 i 5)) n 2 ((vR (vR (vW v 3 (nI n + 1)) n 0 (nI i)) n 1 ((vR (vW v 3 (nI n + 1)) n 0 (nI i)).2.1 i 5)).1 2)).2.1 0 6)).2.1 i 3)) n) n (n + 1)).2.1 i 5) hR) (cwV 1 ht (gU uw_376 uw_377 uw_378 uw_35 uw_379) rfl rfl rfl (by decide +kernel) ⟨by decide, by decide⟩) hK hM hS (m_recv hK hM hR.AW hR.W rfl) rfl hl.1 rfl (Nat.le_of_ble_eq_true rfl) dX6_sendRunner_94 ⟨by decide, by decide⟩ (fun H locs hM hS => ?_)
      subst hQ
      exact m_zret hx hb hr rfl hlk hK hM hS dX6_sendRunner_97 (⟨fun _ => sen_a c_71 hR hF, fun q => absurd hlt q⟩)
  · refine lv_aload_n hx hb dX6_sendRunner_0 rfl (lv_at hl 0 rfl) ?_
    refine lv_iload_n hx hb dX6_sendRunner_1 rfl (lv_at hl 1 rfl) ?_
    refine m_callRQ (val := some (b + 3 + 2 * i)) (w := .ref (b + 3 + 2 * i)) (rfl) (As := [.int (nI i)]) (rest := []) ⟨hx, hb, hml, hown, ht⟩ (k_X6_gaugeAt l g A M b π v (nI i) (some i) hR (gxn_in hi (by decide))) (cwV 1 ht (gU uw_336 uw_337 uw_338 uw_35 uw_339) rfl rfl rfl (by decide +kernel) ⟨by decide, by decide⟩) hK hM hS (m_recv hK hM hR.AW hR.W rfl) rfl hl.1 rfl (Nat.le_of_ble_eq_true rfl) dX6_sendRunner_2 ⟨by decide, by decide⟩ (fun H locs hM hS => ?_)
    refine lv_astore_n (lv' := [(2, .ref (b + 3 + 2 * i)), (0, .ref (b)), (1, .int (nI i))]) hx hb dX6_sendRunner_5 rfl hl (by decide) rfl (fun ls hl => ?_)
    refine lv_aload_n hx hb dX6_sendRunner_6 rfl (lv_at hl 0 rfl) ?_
    refine lv_ifnonnull (tgt := 13) hx hb dX6_sendRunner_7 (by decide) ?_
    refine lv_aload_n hx hb dX6_sendRunner_13 rfl (lv_at hl 1 rfl) ?_
    refine m_callQ (As := []) (rest := []) ⟨hx, hb, hml, hown, ht⟩ (k_X6_addRunner l g A M b π v hR n hn hn20) (cwV 0 ht (gU uw_409 uw_411 uw_6 uw_35 uw_412) rfl rfl rfl (by decide +kernel) ⟨by decide, by decide⟩) hK hM hS (m_recv hK hM hR.AW hR.W rfl) rfl hl.1 rfl (Nat.le_of_ble_eq_true rfl) dX6_sendRunner_14 ⟨by decide, by decide⟩ (fun r9 M H locs hp hM hS => ?_)
    obtain ⟨e9, e8⟩ := hp.2 hlt
    subst e9
    rw [e8] at hM
    refine lv_astore_nN (lv' := [(3, .null), (2, .ref (b + 3 + 2 * i)), (0, .ref (b)), (1, .int (nI i))]) hx hb dX6_sendRunner_17 rfl hl (by decide) rfl (fun ls hl => ?_)
    refine lv_aload_nN hx hb dX6_sendRunner_18 rfl (lv_at hl 0 rfl) ?_
    refine lv_ifnonnullN hx hb dX6_sendRunner_19 ?_
    refine lv_ldc (v := (-1000004)) hx hb hown (ht _ uw_413) dX6_sendRunner_22 ?_
    subst hQ
    exact m_zret hx hb hr rfl hlk hK hM hS dX6_sendRunner_24 (⟨fun q => absurd q hlt, fun _ => ⟨rfl, hMM⟩⟩)

set_option maxHeartbeats 4000000 in
set_option maxRecDepth 100000 in
/-- one more who carries the same, an hour behind -/
theorem k_X6_addSecondOf (l : Launch) (g : GG) (A : Nat → Prop) (M0 : MM) (b : Nat) (π : Nat → Nat) (v : VV) (j : Nat) (hR : RepV g A M0 b π v) (n : Nat) (hn : v.1 3 = nI n) (hlt : n < 20) (hj : j < 20) : Met l yX6_addSecondOf (Uw yX6_addSecondOf cX6_addSecondOf 3 (Option.none : Option ClassFile.FieldType)) (rmD 1) (PreM [.ref (b), .ref (b + 15 + π j)] g A M0) (PosV (fun M1 => RepV g A M1 b π (twiC v j n) ∧ FrV b M0 M1) g A) 0 0 A := by
  refine mk_Met (own := RX6) rfl rfl (by decide) (Nat.le_of_ble_eq_true rfl) ?_
  intro p e s m below meth c ls aa Q haa hQ hx hb hr hlk hml hown hts hK hM hS hl hnm
  obtain ⟨M, hMM⟩ : ∃ M, M = M0 := ⟨_, rfl⟩
  rw [← hMM] at hM hR
  have ht : ∀ w ∈ lw_good, w.before _ s = true := fun w h => hts w (List.mem_cons_of_mem _ h)
  have hF : FrV b M0 M := by rw [hMM]; exact FrV.rf
  have hl : lv_has ls 3 [(0, .ref (b)), (1, .ref (b + 15 + π j))] := hl
  have hn20 : n ≤ 20 := by omega
  refine lv_aload_n hx hb dX6_addSecondOf_0 rfl (lv_at hl 0 rfl) ?_
  refine m_callQ (As := []) (rest := []) ⟨hx, hb, hml, hown, ht⟩ (k_X6_addRunner l g A M b π v hR n hn hn20) (cwV 0 ht (gU uw_409 uw_411 uw_6 uw_35 uw_412) rfl rfl rfl (by decide +kernel) ⟨by decide, by decide⟩) hK hM hS (m_recv hK hM hR.AW hR.W rfl) rfl hl.1 rfl (Nat.le_of_ble_eq_true rfl) dX6_addSecondOf_1 ⟨by decide, by decide⟩ (fun r9 M H locs hp hM hS => ?_)
  obtain ⟨e9, hR, hF1⟩ := hp.1 hlt
  subst e9
  have hF := hF.tr hF1
  refine lv_astore_n (lv' := [(2, .ref (b + 15 + π n)), (0, .ref (b)), (1, .ref (b + 15 + π j))]) hx hb dX6_addSecondOf_4 rfl hl (by decide) rfl (fun ls hl => ?_)
  refine lv_aload_n hx hb dX6_addSecondOf_5 rfl (lv_at hl 0 rfl) ?_
  refine lv_ifnull hx hb dX6_addSecondOf_6 ?_
  refine lv_aload_n hx hb dX6_addSecondOf_9 rfl (lv_at hl 0 rfl) ?_
  refine lv_aload_n hx hb dX6_addSecondOf_10 rfl (lv_at hl 2 rfl) ?_
  refine m_callV (As := [.ref (b + 15 + π j)]) (rest := []) ⟨hx, hb, hml, hown, ht⟩ (k_X5_copyFrom_2 l g A M b π (vW v 3 (nI n + 1)) n j hR hlt hj) (cwV 1 ht (gU uw_324 uw_325 uw_326 uw_38 uw_327) rfl rfl rfl (by decide +kernel) ⟨by decide, by decide⟩) hK hM hS (m_recv hK hM (hR.AR hlt) (hR.R hlt) rfl) rfl hl.1 rfl (Nat.le_of_ble_eq_true rfl) dX6_addSecondOf_11 ⟨by decide, by decide⟩ (fun M H locs hp hM hS => ?_)
  obtain ⟨hR, hF1⟩ := hp
  have hF := hF.tr hF1
  refine lv_aload_n hx hb dX6_addSecondOf_14 rfl (lv_at hl 0 rfl) ?_
  refine lv_dup hx hb dX6_addSecondOf_15 rfl ?_
  refine rv_getR hx hb ht ui_X5 hown hK hM hR hlt 4 (by decide) (ht _ uw_175) dX6_addSecondOf_16 ?_
  refine lv_iconst (v := nI 1) hx hb dX6_addSecondOf_19 (by first | rfl | decide) ?_
  refine lv_iadd hx hb dX6_addSecondOf_20 ?_
  refine rv_putR hx hb ht ui_X5 hown hK hM hS hR hF hlt 4 (by decide) (ht _ uw_175) dX6_addSecondOf_21 (fun M H locs hM hR hF hS => ?_)
  subst hQ
  exact m_vret hx hb hr hlk hK hM hS dX6_addSecondOf_24 (⟨RepV.eq hR rfl, hF⟩)

set_option maxHeartbeats 4000000 in
set_option maxRecDepth 100000 in
/-- a valley takes over another -/
theorem k_X6_copyFrom (l : Launch) (g : GG) (A : Nat → Prop) (M0 : MM) (b : Nat) (π : Nat → Nat) (v : VV) (b2 : Nat) (π2 : Nat → Nat) (w : VV) (n : Nat) (hR : RepV g A M0 b π v) (hO : RepV g A M0 b2 π2 w) (hd : b2 + 35 ≤ b ∨ b + 35 ≤ b2) (hn : w.1 3 = nI n) (hn20 : n ≤ 20) : Met l yX6_copyFrom (Uw yX6_copyFrom cX6_copyFrom 3 (Option.none : Option ClassFile.FieldType)) (rmD 2) (PreM [.ref (b), .ref (b2)] g A M0) (PosV (fun M1 => RepV g A M1 b π (cpyC v w n) ∧ FrV b M0 M1) g A) 0 0 A := by
  refine mk_Met (own := RX6) rfl rfl (by decide) (Nat.le_of_ble_eq_true rfl) ?_
  intro p e s m below meth c ls aa Q haa hQ hx hb hr hlk hml hown hts hK hM hS hl hnm
  obtain ⟨M, hMM⟩ : ∃ M, M = M0 := ⟨_, rfl⟩
  rw [← hMM] at hM hR
  have ht : ∀ w ∈ lw_good, w.before _ s = true := fun w h => hts w (List.mem_cons_of_mem _ h)
  have hF : FrV b M0 M := by rw [hMM]; exact FrV.rf
  have hl : lv_has ls 3 [(0, .ref (b)), (1, .ref (b2))] := hl
  refine lv_aload_n hx hb dX6_copyFrom_0 rfl (lv_at hl 0 rfl) ?_
  refine lv_aload_n hx hb dX6_copyFrom_1 rfl (lv_at hl 1 rfl) ?_
  refine rv_getW hx hb ht ui_X6 hown hK hM (hO.fr hF hd) 0 (by decide) (ht _ uw_188) dX6_copyFrom_2 ?_
  refine rv_putW hx hb ht ui_X6 hown hK hM hS hR hF 0 (by decide) (ht _ uw_188) dX6_copyFrom_5 (fun M H locs hM hR hF hS => ?_)
  refine lv_aload_n hx hb dX6_copyFrom_8 rfl (lv_at hl 0 rfl) ?_
  refine lv_aload_n hx hb dX6_copyFrom_9 rfl (lv_at hl 1 rfl) ?_
  refine rv_getW hx hb ht ui_X6 hown hK hM (hO.fr hF hd) 1 (by decide) (ht _ uw_190) dX6_copyFrom_10 ?_
  refine rv_putW hx hb ht ui_X6 hown hK hM hS hR hF 1 (by decide) (ht _ uw_190) dX6_copyFrom_13 (fun M H locs hM hR hF hS => ?_)
  refine lv_aload_n hx hb dX6_copyFrom_16 rfl (lv_at hl 0 rfl) ?_
  refine lv_aload_n hx hb dX6_copyFrom_17 rfl (lv_at hl 1 rfl) ?_
  refine rv_getW hx hb ht ui_X6 hown hK hM (hO.fr hF hd) 2 (by decide) (ht _ uw_192) dX6_copyFrom_18 ?_
  refine rv_putW hx hb ht ui_X6 hown hK hM hS hR hF 2 (by decide) (ht _ uw_192) dX6_copyFrom_21 (fun M H locs hM hR hF hS => ?_)
  refine lv_aload_n hx hb dX6_copyFrom_24 rfl (lv_at hl 0 rfl) ?_
  refine lv_aload_n hx hb dX6_copyFrom_25 rfl (lv_at hl 1 rfl) ?_
  refine rv_getW hx hb ht ui_X6 hown hK hM (hO.fr hF hd) 3 (by decide) (ht _ uw_194) dX6_copyFrom_26 ?_
  refine rv_putW hx hb ht ui_X6 hown hK hM hS hR hF 3 (by decide) (ht _ uw_194) dX6_copyFrom_29 (fun M H locs hM hR hF hS => ?_)
  refine lv_iconst (v := nI 0) hx hb dX6_copyFrom_32 (by first | rfl | decide) ?_
  refine lv_istore_n (lv' := [(2, .int (nI 0)), (0, .ref (b)), (1, .ref (b2))]) hx hb dX6_copyFrom_33 rfl hl (by decide) rfl (fun ls hl => ?_)
  have loop_34 : ∀ (z_34 : Nat) (i : Nat) (M : MM) (H : Heap) (locs : List Loc) (ls : Array Slot), 6 - i < z_34 → i ≤ 6 → HD g A M H → RepV g A M b π ((cpW v.1 w.1, mixN cpG i v.2.1 w.2.1, v.2.2) : VV) → FrV b M0 M → va_S A s.heap H locs → lv_has ls 3 [(2, .int (nI i)), (0, .ref (b)), (1, .ref (b2))] → W p l e (rmD 2) s m aa below meth c H locs 0 0 Q (F0 m 34 ls []) := by
    intro z_34
    induction z_34 with
    | zero => intro i M H locs ls hz hi; exact absurd hz (Nat.not_lt_zero _)
    | succ z_34 ih_34 =>
    intro i M H locs ls hz hi hM hR hF hS hl
    refine lv_iload_n hx hb dX6_copyFrom_34 rfl (lv_at hl 0 rfl) ?_
    refine lv_bipush (v := nI 6) hx hb dX6_copyFrom_35 (by first | rfl | decide) ?_
    refine lv_icmp_ge (tgt := 61) hx hb dX6_copyFrom_37 (by decide) (fun c_37 => ?_) (fun c_37 => ?_)
    · have hi6 : i = 6 := Nat.le_antisymm hi (nI_le_of (by omega) (by decide) c_37)
      subst hi6
      refine lv_iconst (v := nI 0) hx hb dX6_copyFrom_61 (by first | rfl | decide) ?_
      refine lv_istore_n (lv' := [(2, .int (nI 0)), (0, .ref (b)), (1, .ref (b2))]) hx hb dX6_copyFrom_62 rfl hl (by decide) rfl (fun ls hl => ?_)
      have loop_63 : ∀ (z_63 : Nat) (j : Nat) (M : MM) (H : Heap) (locs : List Loc) (ls : Array Slot), n - j < z_63 → j ≤ n → HD g A M H → RepV g A M b π ((cpW v.1 w.1, mixN cpG 6 v.2.1 w.2.1, mixN cpR j v.2.2 w.2.2) : VV) → FrV b M0 M → va_S A s.heap H locs → lv_has ls 3 [(2, .int (nI j)), (0, .ref (b)), (1, .ref (b2))] → W p l e (rmD 2) s m aa below meth c H locs 0 0 Q (F0 m 63 ls []) := by
        intro z_63
        induction z_63 with
        | zero => intro j M H locs ls hz hj; exact absurd hz (Nat.not_lt_zero _)
        | succ z_63 ih_63 =>
        intro j M H locs ls hz hj hM hR hF hS hl
        have e3 : ((cpW v.1 w.1, mixN cpG 6 v.2.1 w.2.1, mixN cpR j v.2.2 w.2.2) : VV).1 3 = nI n := by rw [← hn]; rfl
        refine lv_iload_n hx hb dX6_copyFrom_63 rfl (lv_at hl 0 rfl) ?_
        refine lv_aload_n hx hb dX6_copyFrom_64 rfl (lv_at hl 1 rfl) ?_
        refine rv_getW hx hb ht ui_X6 hown hK hM hR 3 (by decide) (ht _ uw_194) dX6_copyFrom_65 ?_
        refine lv_icmp_ge (tgt := 98) hx hb dX6_copyFrom_68 (by decide) (fun c_68 => ?_) (fun c_68 => ?_)
        · rw [e3] at c_68
          have hjn : j = n := Nat.le_antisymm hj (nI_le_of (by omega) (by omega) c_68)
          subst hjn
          subst hQ
          exact m_vret hx hb hr hlk hK hM hS dX6_copyFrom_98 (⟨hR, hF⟩)
        · rw [e3] at c_68
          have hjn : j < n := nI_lt_of (by omega) (by omega) c_68
          refine lv_iload_n hx hb dX6_copyFrom_71 rfl (lv_at hl 0 rfl) ?_
          refine lv_bipush (v := nI 20) hx hb dX6_copyFrom_72 (by first | rfl | decide) ?_
          refine lv_icmp_ge (tgt := 98) hx hb dX6_copyFrom_74 (by decide) (fun c_74 => absurd c_74 (nI_ge (show j < 20 by omega) (by decide))) (fun c_74 => ?_)
          refine lv_aload_n hx hb dX6_copyFrom_77 rfl (lv_at hl 1 rfl) ?_
          refine rv_getra hx hb ht ui_X6 hown hK hM hR (ht _ uw_198) dX6_copyFrom_78 ?_
          refine lv_iload_n hx hb dX6_copyFrom_81 rfl (lv_at hl 0 rfl) ?_
          refine rv_aldR hx hb hK hM hR (show j < 20 by omega) dX6_copyFrom_82 ?_
          refine lv_aload_n hx hb dX6_copyFrom_83 rfl (lv_at hl 2 rfl) ?_
          refine rv_getra hx hb ht ui_X6 hown hK hM (hO.fr hF hd) (ht _ uw_198) dX6_copyFrom_84 ?_
          refine lv_iload_n hx hb dX6_copyFrom_87 rfl (lv_at hl 0 rfl) ?_
          refine rv_aldR hx hb hK hM (hO.fr hF hd) (show j < 20 by omega) dX6_copyFrom_88 ?_
          refine m_callV (As := [.ref (b2 + 15 + π2 j)]) (rest := []) ⟨hx, hb, hml, hown, ht⟩ (k_X5_copyFrom l g A M b π ((cpW v.1 w.1, mixN cpG 6 v.2.1 w.2.1, mixN cpR j v.2.2 w.2.2) : VV) j b2 π2 w hR (hO.fr hF hd) hd (show j < 20 by omega)) (cwV 1 ht (gU uw_324 uw_325 uw_326 uw_38 uw_327) rfl rfl rfl (by decide +kernel) ⟨by decide, by decide⟩) hK hM hS (m_recv hK hM (hR.AR (show j < 20 by omega)) (hR.R (show j < 20 by omega)) rfl) rfl hl.1 rfl (Nat.le_of_ble_eq_true rfl) dX6_copyFrom_89 ⟨by decide, by decide⟩ (fun M H locs hp hM hS => ?_)
          obtain ⟨hR, hF1⟩ := hp
          have hF := hF.tr hF1
          refine lv_iinc (v := nI (j + 1)) (lv' := [(2, .int (nI (j + 1))), (0, .ref (b)), (1, .ref (b2))]) hx hb dX6_copyFrom_92 hl (k := 0) rfl (nI_1 _) (by decide) rfl (fun ls hl => ?_)
          refine lv_goto (tgt := 63) hx hb dX6_copyFrom_95 (by decide) ?_
          exact ih_63 (j + 1) _ _ _ _ (by omega) (by omega) hM (RepV.eq hR (by rw [mixN_up cpR j])) hF hS (lv_sub hl [0, 1, 2] rfl)
      exact loop_63 _ 0 _ _ _ _ (Nat.lt_succ_self _) (by omega) hM (RepV.eq hR (by rw [mixN_0])) hF hS (lv_sub hl [0, 1, 2] rfl)
    · have hi6 : i < 6 := nI_lt_of (by omega) (by decide) c_37
      refine lv_aload_n hx hb dX6_copyFrom_40 rfl (lv_at hl 1 rfl) ?_
      refine rv_getga hx hb ht ui_X6 hown hK hM hR (ht _ uw_196) dX6_copyFrom_41 ?_
      refine lv_iload_n hx hb dX6_copyFrom_44 rfl (lv_at hl 0 rfl) ?_
      refine rv_aldG hx hb hK hM hR (hi6) dX6_copyFrom_45 ?_
      refine lv_aload_n hx hb dX6_copyFrom_46 rfl (lv_at hl 2 rfl) ?_
      refine rv_getga hx hb ht ui_X6 hown hK hM (hO.fr hF hd) (ht _ uw_196) dX6_copyFrom_47 ?_
      refine lv_iload_n hx hb dX6_copyFrom_50 rfl (lv_at hl 0 rfl) ?_
      refine rv_aldG hx hb hK hM (hO.fr hF hd) (hi6) dX6_copyFrom_51 ?_
      refine m_callV (As := [.ref (b2 + 3 + 2 * i)]) (rest := []) ⟨hx, hb, hml, hown, ht⟩ (k_X0_copyFrom l g A M b π ((cpW v.1 w.1, mixN cpG i v.2.1 w.2.1, v.2.2) : VV) i b2 π2 w hR (hO.fr hF hd) hd hi6) (cwV 1 ht (gU uw_316 uw_317 uw_318 uw_36 uw_319) rfl rfl rfl (by decide +kernel) ⟨by decide, by decide⟩) hK hM hS (m_recv hK hM (hR.AG hi6) (hR.G hi6) rfl) rfl hl.1 rfl (Nat.le_of_ble_eq_true rfl) dX6_copyFrom_52 ⟨by decide, by decide⟩ (fun M H locs hp hM hS => ?_)
      obtain ⟨hR, hF1⟩ := hp
      have hF := hF.tr hF1
      refine lv_iinc (v := nI (i + 1)) (lv' := [(2, .int (nI (i + 1))), (0, .ref (b)), (1, .ref (b2))]) hx hb dX6_copyFrom_55 hl (k := 0) rfl (nI_1 _) (by decide) rfl (fun ls hl => ?_)
      refine lv_goto (tgt := 34) hx hb dX6_copyFrom_58 (by decide) ?_
      exact ih_34 (i + 1) _ _ _ _ (by omega) (by omega) hM (RepV.eq hR (by rw [mixN_up cpG i])) hF hS (lv_sub hl [0, 1, 2] rfl)
  exact loop_34 _ 0 _ _ _ _ (Nat.lt_succ_self _) (by omega) hM (RepV.eq hR (by rw [cpW_eq, mixN_0])) hF hS (lv_sub hl [0, 1, 2] rfl)

set_option maxHeartbeats 4000000 in
set_option maxRecDepth 100000 in
/-- hours of rain pass -/
theorem k_X6_passHours (l : Launch) (g : GG) (A : Nat → Prop) (M0 : MM) (b : Nat) (π : Nat → Nat) (v : VV) (am : Int32) (N : Nat) (hR : RepV g A M0 b π v) (hon : OnW v) (hN : N < 2 ^ 31) : Met l yX6_passHours (Uw yX6_passHours cX6_passHours 9 (Option.some ClassFile.FieldType.int)) (rmD 4) (PreM [.ref (b), .int (am), .int (nI N)] g A M0) (PosI (fun r M1 => r = pasT am v N ∧ EV g A M1 b (pasC am v N) ∧ FrV b M0 M1) g A) 0 0 A := by
  refine mk_Met (own := RX6) rfl rfl (by decide) (Nat.le_of_ble_eq_true rfl) ?_
  intro p e s m below meth c ls aa Q haa hQ hx hb hr hlk hml hown hts hK hM hS hl hnm
  obtain ⟨M, hMM⟩ : ∃ M, M = M0 := ⟨_, rfl⟩
  rw [← hMM] at hM hR
  have ht : ∀ w ∈ lw_good, w.before _ s = true := fun w h => hts w (List.mem_cons_of_mem _ h)
  have hF : FrV b M0 M := by rw [hMM]; exact FrV.rf
  have hl : lv_has ls 9 [(0, .ref (b)), (1, .int (am)), (2, .int (nI N))] := hl
  refine lv_iconst (v := nI 0) hx hb dX6_passHours_0 (by first | rfl | decide) ?_
  refine lv_istore_n (lv' := [(3, .int (nI 0)), (0, .ref (b)), (1, .int (am)), (2, .int (nI N))]) hx hb dX6_passHours_1 rfl hl (by decide) rfl (fun ls hl => ?_)
  refine lv_iconst (v := nI 0) hx hb dX6_passHours_2 (by first | rfl | decide) ?_
  refine lv_istore (lv' := [(4, .int (nI 0)), (3, .int (nI 0)), (0, .ref (b)), (1, .int (am)), (2, .int (nI N))]) hx hb dX6_passHours_3 hl (by decide) rfl (fun ls hl => ?_)
  have loop_5 : ∀ (z_5 : Nat) (q : Nat) (t : Int32) (π : Nat → Nat) (M : MM) (H : Heap) (locs : List Loc) (ls : Array Slot), N - q < z_5 → q ≤ N → t = pasT am v q → HD g A M H → RepV g A M b π (pasC am v q) → FrV b M0 M → va_S A s.heap H locs → lv_has ls 9 [(4, .int (nI q)), (3, .int (t)), (0, .ref (b)), (1, .int (am)), (2, .int (nI N))] → W p l e (rmD 4) s m aa below meth c H locs 0 0 Q (F0 m 5 ls []) := by
    intro z_5
    induction z_5 with
    | zero => intro q t π M H locs ls hz hq ht1; exact absurd hz (Nat.not_lt_zero _)
    | succ z_5 ih_5 =>
    intro q t π M H locs ls hz hq ht1 hM hR hF hS hl
    refine lv_iload hx hb dX6_passHours_5 (lv_at hl 0 rfl) ?_
    refine lv_iload_n hx hb dX6_passHours_7 rfl (lv_at hl 4 rfl) ?_
    refine lv_icmp_ge (tgt := 74) hx hb dX6_passHours_8 (by decide) (fun c_8 => ?_) (fun c_8 => ?_)
    · have hqN : q = N := Nat.le_antisymm hq (nI_le_of (by omega) (by omega) c_8)
      subst hqN
      refine lv_iload_n hx hb dX6_passHours_74 rfl (lv_at hl 1 rfl) ?_
      subst hQ
      exact m_zret hx hb hr rfl hlk hK hM hS dX6_passHours_75 (⟨ht1, ⟨π, hR⟩, hF⟩)
    · have hqN : q < N := nI_lt_of (by omega) (by omega) c_8
      refine lv_aload_n hx hb dX6_passHours_11 rfl (lv_at hl 2 rfl) ?_
      refine rv_getga hx hb ht ui_X6 hown hK hM hR (ht _ uw_196) dX6_passHours_12 ?_
      refine lv_astore (lv' := [(5, .ref (b + 1)), (4, .int (nI q)), (3, .int (t)), (0, .ref (b)), (1, .int (am)), (2, .int (nI N))]) hx hb dX6_passHours_15 hl (by decide) rfl (fun ls hl => ?_)
      refine lv_aload hx hb dX6_passHours_17 (lv_at hl 0 rfl) ?_
      refine rv_lenG hx hb hK hM hR dX6_passHours_19 ?_
      refine lv_istore (lv' := [(6, .int (nI 6)), (5, .ref (b + 1)), (4, .int (nI q)), (3, .int (t)), (0, .ref (b)), (1, .int (am)), (2, .int (nI N))]) hx hb dX6_passHours_20 hl (by decide) rfl (fun ls hl => ?_)
      refine lv_iconst (v := nI 0) hx hb dX6_passHours_22 (by first | rfl | decide) ?_
      refine lv_istore (lv' := [(7, .int (nI 0)), (6, .int (nI 6)), (5, .ref (b + 1)), (4, .int (nI q)), (3, .int (t)), (0, .ref (b)), (1, .int (am)), (2, .int (nI N))]) hx hb dX6_passHours_23 hl (by decide) rfl (fun ls hl => ?_)
      have loop_25 : ∀ (z_25 : Nat) (i : Nat) (t2 : Int32) (M : MM) (H : Heap) (locs : List Loc) (ls : Array Slot), 6 - i < z_25 → i ≤ 6 → t2 = tisL am (pasC am v q) t i → HD g A M H → RepV g A M b π (catL am (pasC am v q) i) → FrV b M0 M → va_S A s.heap H locs → lv_has ls 9 [(7, .int (nI i)), (6, .int (nI 6)), (5, .ref (b + 1)), (3, .int (t2)), (4, .int (nI q)), (0, .ref (b)), (1, .int (am)), (2, .int (nI N))] → W p l e (rmD 4) s m aa below meth c H locs 0 0 Q (F0 m 25 ls []) := by
        intro z_25
        induction z_25 with
        | zero => intro i t2 M H locs ls hz2 hi ht2; exact absurd hz2 (Nat.not_lt_zero _)
        | succ z_25 ih_25 =>
        intro i t2 M H locs ls hz2 hi ht2 hM hR hF hS hl
        refine lv_iload hx hb dX6_passHours_25 (lv_at hl 0 rfl) ?_
        refine lv_iload hx hb dX6_passHours_27 (lv_at hl 1 rfl) ?_
        refine lv_icmp_ge (tgt := 54) hx hb dX6_passHours_29 (by decide) (fun c_29 => ?_) (fun c_29 => ?_)
        · have hi6 : i = 6 := Nat.le_antisymm hi (nI_le_of (by omega) (by decide) c_29)
          subst hi6
          obtain ⟨n, hn20, hn⟩ := pasC_on (am := am) hon q
          refine lv_aload_n hx hb dX6_passHours_54 rfl (lv_at hl 5 rfl) ?_
          refine lv_dup hx hb dX6_passHours_55 rfl ?_
          refine rv_getW hx hb ht ui_X6 hown hK hM hR 2 (by decide) (ht _ uw_192) dX6_passHours_56 ?_
          refine lv_iconst (v := nI 1) hx hb dX6_passHours_59 (by first | rfl | decide) ?_
          refine lv_iadd hx hb dX6_passHours_60 ?_
          refine rv_putW hx hb ht ui_X6 hown hK hM hS hR hF 2 (by decide) (ht _ uw_192) dX6_passHours_61 (fun M H locs hM hR hF hS => ?_)
          refine lv_aload_n hx hb dX6_passHours_64 rfl (lv_at hl 5 rfl) ?_
          refine m_callV (As := []) (rest := []) ⟨hx, hb, hml, hown, ht⟩ (k_X6_moveRunners l g A M b π (ho1C am (pasC am v q)) (RepV.eq hR rfl) n (by rw [ho1C_3]; exact hn) hn20) (cwV 0 ht (gU uw_364 uw_366 uw_1 uw_35 uw_367) rfl rfl rfl (by decide +kernel) ⟨by decide, by decide⟩) hK hM hS (m_recv hK hM hR.AW hR.W rfl) rfl hl.1 rfl (Nat.le_of_ble_eq_true rfl) dX6_passHours_65 ⟨by decide, by decide⟩ (fun M H locs hp hM hS => ?_)
          obtain ⟨⟨π, hR⟩, hF1⟩ := hp
          have hF := hF.tr hF1
          have hR : RepV g A M b π (pasC am v (q + 1)) := RepV.eq hR (by show movC ((pasC am v q).1 3).toNatClampNeg 0 _ = _; rw [hn, nI_clamp (by omega)])
          refine lv_iinc (v := nI (q + 1)) (lv' := [(4, .int (nI (q + 1))), (7, .int (nI 6)), (6, .int (nI 6)), (5, .ref (b + 1)), (3, .int (t2)), (0, .ref (b)), (1, .int (am)), (2, .int (nI N))]) hx hb dX6_passHours_68 hl (k := 4) rfl (nI_1 _) (by decide) rfl (fun ls hl => ?_)
          refine lv_goto (tgt := 5) hx hb dX6_passHours_71 (by decide) ?_
          exact ih_5 (q + 1) t2 _ _ _ _ _ (by omega) (by omega) (by rw [ht2, ht1]; rfl) hM hR hF hS (lv_sub hl [0, 4, 5, 6, 7] rfl)
        · have hi6 : i < 6 := nI_lt_of (by omega) (by decide) c_29
          refine lv_aload hx hb dX6_passHours_32 (lv_at hl 2 rfl) ?_
          refine lv_iload hx hb dX6_passHours_34 (lv_at hl 0 rfl) ?_
          refine rv_aldG hx hb hK hM hR (hi6) dX6_passHours_36 ?_
          refine lv_astore (lv' := [(8, .ref (b + 3 + 2 * i)), (7, .int (nI i)), (6, .int (nI 6)), (5, .ref (b + 1)), (3, .int (t2)), (4, .int (nI q)), (0, .ref (b)), (1, .int (am)), (2, .int (nI N))]) hx hb dX6_passHours_37 hl (by decide) rfl (fun ls hl => ?_)
          refine lv_iload_n hx hb dX6_passHours_39 rfl (lv_at hl 4 rfl) ?_
          refine lv_aload hx hb dX6_passHours_40 (lv_at hl 0 rfl) ?_
          refine lv_iload_n hx hb dX6_passHours_42 rfl (lv_at hl 7 rfl) ?_
          refine m_callI (As := [.int (am)]) (rest := [.int (t2)]) ⟨hx, hb, hml, hown, ht⟩ (k_X0_catchRain l g A M b π (catL am (pasC am v q) i) i am hR hi6) (cwV 1 ht (gU uw_360 uw_361 uw_362 uw_36 uw_363) rfl rfl rfl (by decide +kernel) ⟨by decide, by decide⟩) hK hM hS (m_recv hK hM (hR.AG hi6) (hR.G hi6) rfl) rfl hl.1 rfl (Nat.le_of_ble_eq_true rfl) dX6_passHours_43 ⟨by decide, by decide⟩ (fun r9 M H locs hp hM hS => ?_)
          obtain ⟨e9, hR, hF1⟩ := hp
          subst e9
          have hF := hF.tr hF1
          refine lv_iadd hx hb dX6_passHours_46 ?_
          refine lv_istore_n (lv' := [(3, .int ((t2) + (tipC (catL am (pasC am v q) i) i am))), (8, .ref (b + 3 + 2 * i)), (7, .int (nI i)), (6, .int (nI 6)), (5, .ref (b + 1)), (4, .int (nI q)), (0, .ref (b)), (1, .int (am)), (2, .int (nI N))]) hx hb dX6_passHours_47 rfl hl (by decide) rfl (fun ls hl => ?_)
          refine lv_iinc (v := nI (i + 1)) (lv' := [(7, .int (nI (i + 1))), (3, .int ((t2) + (tipC (catL am (pasC am v q) i) i am))), (8, .ref (b + 3 + 2 * i)), (6, .int (nI 6)), (5, .ref (b + 1)), (4, .int (nI q)), (0, .ref (b)), (1, .int (am)), (2, .int (nI N))]) hx hb dX6_passHours_48 hl (k := 2) rfl (nI_1 _) (by decide) rfl (fun ls hl => ?_)
          refine lv_goto (tgt := 25) hx hb dX6_passHours_51 (by decide) ?_
          exact ih_25 (i + 1) ((t2) + (tipC (catL am (pasC am v q) i) i am)) _ _ _ _ (by omega) (by omega) (by rw [ht2]; rfl) hM hR hF hS (lv_sub hl [0, 3, 4, 1, 5, 6, 7, 8] rfl)
      exact loop_25 _ 0 t _ _ _ _ (Nat.lt_succ_self _) (by omega) rfl hM hR hF hS (lv_sub hl [0, 1, 2, 4, 3, 5, 6, 7] rfl)
  exact loop_5 _ 0 0 π _ _ _ _ (Nat.lt_succ_self _) (Nat.zero_le _) rfl hM hR hF hS (lv_sub hl [0, 1, 2, 3, 4] rfl)
end
section
theorem dX7_init_0 : decode cX7_init 0 = .ok (.aload_n 0, 1) := by decide +kernel
theorem dX7_init_1 : decode cX7_init 1 = .ok (.invokespecial 1, 3) := by decide +kernel
theorem dX7_init_4 : decode cX7_init 4 = .ok (.aload_n 0, 1) := by decide +kernel
theorem dX7_init_5 : decode cX7_init 5 = .ok (.new 7, 3) := by decide +kernel
theorem dX7_init_8 : decode cX7_init 8 = .ok (.dup, 1) := by decide +kernel
theorem dX7_init_9 : decode cX7_init 9 = .ok (.invokespecial 9, 3) := by decide +kernel
theorem dX7_init_12 : decode cX7_init 12 = .ok (.putfield 10, 3) := by decide +kernel
theorem dX7_init_15 : decode cX7_init 15 = .ok (.aload_n 0, 1) := by decide +kernel
theorem dX7_init_16 : decode cX7_init 16 = .ok (.new 7, 3) := by decide +kernel
theorem dX7_init_19 : decode cX7_init 19 = .ok (.dup, 1) := by decide +kernel
theorem dX7_init_20 : decode cX7_init 20 = .ok (.invokespecial 9, 3) := by decide +kernel
theorem dX7_init_23 : decode cX7_init 23 = .ok (.putfield 16, 3) := by decide +kernel
theorem dX7_init_26 : decode cX7_init 26 = .ok (.aload_n 0, 1) := by decide +kernel
theorem dX7_init_27 : decode cX7_init 27 = .ok (.new 19, 3) := by decide +kernel
theorem dX7_init_30 : decode cX7_init 30 = .ok (.dup, 1) := by decide +kernel
theorem dX7_init_31 : decode cX7_init 31 = .ok (.invokespecial 21, 3) := by decide +kernel
theorem dX7_init_34 : decode cX7_init 34 = .ok (.putfield 22, 3) := by decide +kernel
theorem dX7_init_37 : decode cX7_init 37 = .ok (.aload_n 0, 1) := by decide +kernel
theorem dX7_init_38 : decode cX7_init 38 = .ok (.iconst 2, 1) := by decide +kernel
theorem dX7_init_39 : decode cX7_init 39 = .ok (.anewarray 7, 3) := by decide +kernel
theorem dX7_init_42 : decode cX7_init 42 = .ok (.putfield 26, 3) := by decide +kernel
theorem dX7_init_45 : decode cX7_init 45 = .ok (.aload_n 0, 1) := by decide +kernel
theorem dX7_init_46 : decode cX7_init 46 = .ok (.iconst 2, 1) := by decide +kernel
theorem dX7_init_47 : decode cX7_init 47 = .ok (.newarray .boolean, 2) := by decide +kernel
theorem dX7_init_49 : decode cX7_init 49 = .ok (.putfield 30, 3) := by decide +kernel
theorem dX7_init_52 : decode cX7_init 52 = .ok (.aload_n 0, 1) := by decide +kernel
theorem dX7_init_53 : decode cX7_init 53 = .ok (.new 34, 3) := by decide +kernel
theorem dX7_init_56 : decode cX7_init 56 = .ok (.dup, 1) := by decide +kernel
theorem dX7_init_57 : decode cX7_init 57 = .ok (.invokespecial 36, 3) := by decide +kernel
theorem dX7_init_60 : decode cX7_init 60 = .ok (.putfield 37, 3) := by decide +kernel
theorem dX7_init_63 : decode cX7_init 63 = .ok (.aload_n 0, 1) := by decide +kernel
theorem dX7_init_64 : decode cX7_init 64 = .ok (.new 41, 3) := by decide +kernel
theorem dX7_init_67 : decode cX7_init 67 = .ok (.dup, 1) := by decide +kernel
theorem dX7_init_68 : decode cX7_init 68 = .ok (.aload_n 0, 1) := by decide +kernel
theorem dX7_init_69 : decode cX7_init 69 = .ok (.getfield 37, 3) := by decide +kernel
theorem dX7_init_72 : decode cX7_init 72 = .ok (.invokespecial 43, 3) := by decide +kernel
theorem dX7_init_75 : decode cX7_init 75 = .ok (.putfield 46, 3) := by decide +kernel
theorem dX7_init_78 : decode cX7_init 78 = .ok (.iconst 0, 1) := by decide +kernel
theorem dX7_init_79 : decode cX7_init 79 = .ok (.istore_n 1, 1) := by decide +kernel
theorem dX7_init_80 : decode cX7_init 80 = .ok (.iload_n 1, 1) := by decide +kernel
theorem dX7_init_81 : decode cX7_init 81 = .ok (.aload_n 0, 1) := by decide +kernel
theorem dX7_init_82 : decode cX7_init 82 = .ok (.getfield 26, 3) := by decide +kernel
theorem dX7_init_85 : decode cX7_init 85 = .ok (.arraylength, 1) := by decide +kernel
theorem dX7_init_86 : decode cX7_init 86 = .ok (.if_icmp .ge 22, 3) := by decide +kernel
theorem dX7_init_89 : decode cX7_init 89 = .ok (.aload_n 0, 1) := by decide +kernel
theorem dX7_init_90 : decode cX7_init 90 = .ok (.getfield 26, 3) := by decide +kernel
theorem dX7_init_93 : decode cX7_init 93 = .ok (.iload_n 1, 1) := by decide +kernel
theorem dX7_init_94 : decode cX7_init 94 = .ok (.new 7, 3) := by decide +kernel
theorem dX7_init_97 : decode cX7_init 97 = .ok (.dup, 1) := by decide +kernel
theorem dX7_init_98 : decode cX7_init 98 = .ok (.invokespecial 9, 3) := by decide +kernel
theorem dX7_init_101 : decode cX7_init 101 = .ok (.aastore, 1) := by decide +kernel
theorem dX7_init_102 : decode cX7_init 102 = .ok (.iinc 1 1, 3) := by decide +kernel
theorem dX7_init_105 : decode cX7_init 105 = .ok (.goto (-25), 3) := by decide +kernel
theorem dX7_init_108 : decode cX7_init 108 = .ok (.return_, 1) := by decide +kernel
theorem dX7_set_0 : decode cX7_set 0 = .ok (.iload_n 1, 1) := by decide +kernel
theorem dX7_set_1 : decode cX7_set 1 = .ok (.ifCond .ne 42, 3) := by decide +kernel
theorem dX7_set_4 : decode cX7_set 4 = .ok (.iload_n 2, 1) := by decide +kernel
theorem dX7_set_5 : decode cX7_set 5 = .ok (.iconst 4, 1) := by decide +kernel
theorem dX7_set_6 : decode cX7_set 6 = .ok (.bipush 60, 2) := by decide +kernel
theorem dX7_set_8 : decode cX7_set 8 = .ok (.invokestatic 50, 3) := by decide +kernel
theorem dX7_set_11 : decode cX7_set 11 = .ok (.ifCond .eq 32, 3) := by decide +kernel
theorem dX7_set_14 : decode cX7_set 14 = .ok (.aload_n 0, 1) := by decide +kernel
theorem dX7_set_15 : decode cX7_set 15 = .ok (.getfield 22, 3) := by decide +kernel
theorem dX7_set_18 : decode cX7_set 18 = .ok (.aload_n 0, 1) := by decide +kernel
theorem dX7_set_19 : decode cX7_set 19 = .ok (.getfield 10, 3) := by decide +kernel
theorem dX7_set_22 : decode cX7_set 22 = .ok (.invokevirtual 54, 3) := by decide +kernel
theorem dX7_set_25 : decode cX7_set 25 = .ok (.aload_n 0, 1) := by decide +kernel
theorem dX7_set_26 : decode cX7_set 26 = .ok (.getfield 10, 3) := by decide +kernel
theorem dX7_set_29 : decode cX7_set 29 = .ok (.getfield 58, 3) := by decide +kernel
theorem dX7_set_32 : decode cX7_set 32 = .ok (.istore_n 3, 1) := by decide +kernel
theorem dX7_set_33 : decode cX7_set 33 = .ok (.aload_n 0, 1) := by decide +kernel
theorem dX7_set_34 : decode cX7_set 34 = .ok (.getfield 10, 3) := by decide +kernel
theorem dX7_set_37 : decode cX7_set 37 = .ok (.iload_n 2, 1) := by decide +kernel
theorem dX7_set_38 : decode cX7_set 38 = .ok (.invokevirtual 62, 3) := by decide +kernel
theorem dX7_set_41 : decode cX7_set 41 = .ok (.iload_n 3, 1) := by decide +kernel
theorem dX7_set_42 : decode cX7_set 42 = .ok (.ireturn, 1) := by decide +kernel
theorem dX7_set_43 : decode cX7_set 43 = .ok (.iload_n 1, 1) := by decide +kernel
theorem dX7_set_44 : decode cX7_set 44 = .ok (.iconst 1, 1) := by decide +kernel
theorem dX7_set_45 : decode cX7_set 45 = .ok (.if_icmp .ne 41, 3) := by decide +kernel
theorem dX7_set_48 : decode cX7_set 48 = .ok (.iload_n 2, 1) := by decide +kernel
theorem dX7_set_49 : decode cX7_set 49 = .ok (.iconst 0, 1) := by decide +kernel
theorem dX7_set_50 : decode cX7_set 50 = .ok (.iconst 1, 1) := by decide +kernel
theorem dX7_set_51 : decode cX7_set 51 = .ok (.invokestatic 50, 3) := by decide +kernel
theorem dX7_set_54 : decode cX7_set 54 = .ok (.ifCond .eq 32, 3) := by decide +kernel
theorem dX7_set_57 : decode cX7_set 57 = .ok (.aload_n 0, 1) := by decide +kernel
theorem dX7_set_58 : decode cX7_set 58 = .ok (.getfield 22, 3) := by decide +kernel
theorem dX7_set_61 : decode cX7_set 61 = .ok (.aload_n 0, 1) := by decide +kernel
theorem dX7_set_62 : decode cX7_set 62 = .ok (.getfield 10, 3) := by decide +kernel
theorem dX7_set_65 : decode cX7_set 65 = .ok (.invokevirtual 54, 3) := by decide +kernel
theorem dX7_set_68 : decode cX7_set 68 = .ok (.aload_n 0, 1) := by decide +kernel
theorem dX7_set_69 : decode cX7_set 69 = .ok (.getfield 10, 3) := by decide +kernel
theorem dX7_set_72 : decode cX7_set 72 = .ok (.getfield 66, 3) := by decide +kernel
theorem dX7_set_75 : decode cX7_set 75 = .ok (.istore_n 3, 1) := by decide +kernel
theorem dX7_set_76 : decode cX7_set 76 = .ok (.aload_n 0, 1) := by decide +kernel
theorem dX7_set_77 : decode cX7_set 77 = .ok (.getfield 10, 3) := by decide +kernel
theorem dX7_set_80 : decode cX7_set 80 = .ok (.iload_n 2, 1) := by decide +kernel
theorem dX7_set_81 : decode cX7_set 81 = .ok (.putfield 66, 3) := by decide +kernel
theorem dX7_set_84 : decode cX7_set 84 = .ok (.iload_n 3, 1) := by decide +kernel
theorem dX7_set_85 : decode cX7_set 85 = .ok (.ireturn, 1) := by decide +kernel
theorem dX7_set_86 : decode cX7_set 86 = .ok (.ldc 69, 2) := by decide +kernel
theorem dX7_set_88 : decode cX7_set 88 = .ok (.ireturn, 1) := by decide +kernel
theorem dX7_gauge_0 : decode cX7_gauge 0 = .ok (.aload_n 0, 1) := by decide +kernel
theorem dX7_gauge_1 : decode cX7_gauge 1 = .ok (.getfield 10, 3) := by decide +kernel
theorem dX7_gauge_4 : decode cX7_gauge 4 = .ok (.iload_n 1, 1) := by decide +kernel
theorem dX7_gauge_5 : decode cX7_gauge 5 = .ok (.invokevirtual 70, 3) := by decide +kernel
theorem dX7_gauge_8 : decode cX7_gauge 8 = .ok (.astore 6, 2) := by decide +kernel
theorem dX7_gauge_10 : decode cX7_gauge 10 = .ok (.aload 6, 2) := by decide +kernel
theorem dX7_gauge_12 : decode cX7_gauge 12 = .ok (.ifnonnull 6, 3) := by decide +kernel
theorem dX7_gauge_15 : decode cX7_gauge 15 = .ok (.ldc 74, 2) := by decide +kernel
theorem dX7_gauge_17 : decode cX7_gauge 17 = .ok (.ireturn, 1) := by decide +kernel
theorem dX7_gauge_18 : decode cX7_gauge 18 = .ok (.iload_n 2, 1) := by decide +kernel
theorem dX7_gauge_19 : decode cX7_gauge 19 = .ok (.iconst 1, 1) := by decide +kernel
theorem dX7_gauge_20 : decode cX7_gauge 20 = .ok (.bipush 9, 2) := by decide +kernel
theorem dX7_gauge_22 : decode cX7_gauge 22 = .ok (.invokestatic 50, 3) := by decide +kernel
theorem dX7_gauge_25 : decode cX7_gauge 25 = .ok (.ifCond .eq 17, 3) := by decide +kernel
theorem dX7_gauge_28 : decode cX7_gauge 28 = .ok (.iload_n 3, 1) := by decide +kernel
theorem dX7_gauge_29 : decode cX7_gauge 29 = .ok (.iconst 1, 1) := by decide +kernel
theorem dX7_gauge_30 : decode cX7_gauge 30 = .ok (.bipush 50, 2) := by decide +kernel
theorem dX7_gauge_32 : decode cX7_gauge 32 = .ok (.invokestatic 50, 3) := by decide +kernel
theorem dX7_gauge_35 : decode cX7_gauge 35 = .ok (.ifCond .eq 7, 3) := by decide +kernel
theorem dX7_gauge_38 : decode cX7_gauge 38 = .ok (.iconst 1, 1) := by decide +kernel
theorem dX7_gauge_39 : decode cX7_gauge 39 = .ok (.goto 4, 3) := by decide +kernel
theorem dX7_gauge_42 : decode cX7_gauge 42 = .ok (.iconst 0, 1) := by decide +kernel
theorem dX7_gauge_43 : decode cX7_gauge 43 = .ok (.istore 7, 2) := by decide +kernel
theorem dX7_gauge_45 : decode cX7_gauge 45 = .ok (.iload 7, 2) := by decide +kernel
theorem dX7_gauge_47 : decode cX7_gauge 47 = .ok (.ifCond .eq 26, 3) := by decide +kernel
theorem dX7_gauge_50 : decode cX7_gauge 50 = .ok (.iload 4, 2) := by decide +kernel
theorem dX7_gauge_52 : decode cX7_gauge 52 = .ok (.iconst 0, 1) := by decide +kernel
theorem dX7_gauge_53 : decode cX7_gauge 53 = .ok (.sipush 200, 3) := by decide +kernel
theorem dX7_gauge_56 : decode cX7_gauge 56 = .ok (.invokestatic 50, 3) := by decide +kernel
theorem dX7_gauge_59 : decode cX7_gauge 59 = .ok (.ifCond .eq 14, 3) := by decide +kernel
theorem dX7_gauge_62 : decode cX7_gauge 62 = .ok (.iload 5, 2) := by decide +kernel
theorem dX7_gauge_64 : decode cX7_gauge 64 = .ok (.iconst 0, 1) := by decide +kernel
theorem dX7_gauge_65 : decode cX7_gauge 65 = .ok (.bipush 9, 2) := by decide +kernel
theorem dX7_gauge_67 : decode cX7_gauge 67 = .ok (.invokestatic 50, 3) := by decide +kernel
theorem dX7_gauge_70 : decode cX7_gauge 70 = .ok (.ifCond .ne 6, 3) := by decide +kernel
theorem dX7_gauge_73 : decode cX7_gauge 73 = .ok (.ldc 69, 2) := by decide +kernel
theorem dX7_gauge_75 : decode cX7_gauge 75 = .ok (.ireturn, 1) := by decide +kernel
theorem dX7_gauge_76 : decode cX7_gauge 76 = .ok (.aload_n 0, 1) := by decide +kernel
theorem dX7_gauge_77 : decode cX7_gauge 77 = .ok (.getfield 22, 3) := by decide +kernel
theorem dX7_gauge_80 : decode cX7_gauge 80 = .ok (.aload_n 0, 1) := by decide +kernel
theorem dX7_gauge_81 : decode cX7_gauge 81 = .ok (.getfield 10, 3) := by decide +kernel
theorem dX7_gauge_84 : decode cX7_gauge 84 = .ok (.invokevirtual 54, 3) := by decide +kernel
theorem dX7_gauge_87 : decode cX7_gauge 87 = .ok (.aload 6, 2) := by decide +kernel
theorem dX7_gauge_89 : decode cX7_gauge 89 = .ok (.iload_n 2, 1) := by decide +kernel
theorem dX7_gauge_90 : decode cX7_gauge 90 = .ok (.putfield 75, 3) := by decide +kernel
theorem dX7_gauge_93 : decode cX7_gauge 93 = .ok (.aload 6, 2) := by decide +kernel
theorem dX7_gauge_95 : decode cX7_gauge 95 = .ok (.iload_n 3, 1) := by decide +kernel
theorem dX7_gauge_96 : decode cX7_gauge 96 = .ok (.putfield 80, 3) := by decide +kernel
theorem dX7_gauge_99 : decode cX7_gauge 99 = .ok (.aload 6, 2) := by decide +kernel
theorem dX7_gauge_101 : decode cX7_gauge 101 = .ok (.iload 4, 2) := by decide +kernel
theorem dX7_gauge_103 : decode cX7_gauge 103 = .ok (.putfield 83, 3) := by decide +kernel
theorem dX7_gauge_106 : decode cX7_gauge 106 = .ok (.aload 6, 2) := by decide +kernel
theorem dX7_gauge_108 : decode cX7_gauge 108 = .ok (.iload 5, 2) := by decide +kernel
theorem dX7_gauge_110 : decode cX7_gauge 110 = .ok (.putfield 86, 3) := by decide +kernel
theorem dX7_gauge_113 : decode cX7_gauge 113 = .ok (.aload 6, 2) := by decide +kernel
theorem dX7_gauge_115 : decode cX7_gauge 115 = .ok (.getfield 89, 3) := by decide +kernel
theorem dX7_gauge_118 : decode cX7_gauge 118 = .ok (.ireturn, 1) := by decide +kernel
theorem dX7_rain_0 : decode cX7_rain 0 = .ok (.iload_n 1, 1) := by decide +kernel
theorem dX7_rain_1 : decode cX7_rain 1 = .ok (.iconst 0, 1) := by decide +kernel
theorem dX7_rain_2 : decode cX7_rain 2 = .ok (.bipush 99, 2) := by decide +kernel
theorem dX7_rain_4 : decode cX7_rain 4 = .ok (.invokestatic 50, 3) := by decide +kernel
theorem dX7_rain_7 : decode cX7_rain 7 = .ok (.ifCond .eq 13, 3) := by decide +kernel
theorem dX7_rain_10 : decode cX7_rain 10 = .ok (.iload_n 2, 1) := by decide +kernel
theorem dX7_rain_11 : decode cX7_rain 11 = .ok (.iconst 1, 1) := by decide +kernel
theorem dX7_rain_12 : decode cX7_rain 12 = .ok (.bipush 24, 2) := by decide +kernel
theorem dX7_rain_14 : decode cX7_rain 14 = .ok (.invokestatic 50, 3) := by decide +kernel
theorem dX7_rain_17 : decode cX7_rain 17 = .ok (.ifCond .ne 6, 3) := by decide +kernel
theorem dX7_rain_20 : decode cX7_rain 20 = .ok (.ldc 69, 2) := by decide +kernel
theorem dX7_rain_22 : decode cX7_rain 22 = .ok (.ireturn, 1) := by decide +kernel
theorem dX7_rain_23 : decode cX7_rain 23 = .ok (.aload_n 0, 1) := by decide +kernel
theorem dX7_rain_24 : decode cX7_rain 24 = .ok (.getfield 10, 3) := by decide +kernel
theorem dX7_rain_27 : decode cX7_rain 27 = .ok (.iload_n 2, 1) := by decide +kernel
theorem dX7_rain_28 : decode cX7_rain 28 = .ok (.invokevirtual 92, 3) := by decide +kernel
theorem dX7_rain_31 : decode cX7_rain 31 = .ok (.ifCond .ne 6, 3) := by decide +kernel
theorem dX7_rain_34 : decode cX7_rain 34 = .ok (.ldc 96, 2) := by decide +kernel
theorem dX7_rain_36 : decode cX7_rain 36 = .ok (.ireturn, 1) := by decide +kernel
theorem dX7_rain_37 : decode cX7_rain 37 = .ok (.aload_n 0, 1) := by decide +kernel
theorem dX7_rain_38 : decode cX7_rain 38 = .ok (.getfield 22, 3) := by decide +kernel
theorem dX7_rain_41 : decode cX7_rain 41 = .ok (.aload_n 0, 1) := by decide +kernel
theorem dX7_rain_42 : decode cX7_rain 42 = .ok (.getfield 10, 3) := by decide +kernel
theorem dX7_rain_45 : decode cX7_rain 45 = .ok (.invokevirtual 54, 3) := by decide +kernel
theorem dX7_rain_48 : decode cX7_rain 48 = .ok (.aload_n 0, 1) := by decide +kernel
theorem dX7_rain_49 : decode cX7_rain 49 = .ok (.getfield 10, 3) := by decide +kernel
theorem dX7_rain_52 : decode cX7_rain 52 = .ok (.iload_n 1, 1) := by decide +kernel
theorem dX7_rain_53 : decode cX7_rain 53 = .ok (.iload_n 2, 1) := by decide +kernel
theorem dX7_rain_54 : decode cX7_rain 54 = .ok (.invokevirtual 97, 3) := by decide +kernel
theorem dX7_rain_57 : decode cX7_rain 57 = .ok (.ireturn, 1) := by decide +kernel
theorem dX7_send_0 : decode cX7_send 0 = .ok (.aload_n 0, 1) := by decide +kernel
theorem dX7_send_1 : decode cX7_send 1 = .ok (.getfield 10, 3) := by decide +kernel
theorem dX7_send_4 : decode cX7_send 4 = .ok (.iload_n 1, 1) := by decide +kernel
theorem dX7_send_5 : decode cX7_send 5 = .ok (.invokevirtual 70, 3) := by decide +kernel
theorem dX7_send_8 : decode cX7_send 8 = .ok (.ifnonnull 6, 3) := by decide +kernel
theorem dX7_send_11 : decode cX7_send 11 = .ok (.ldc 74, 2) := by decide +kernel
theorem dX7_send_13 : decode cX7_send 13 = .ok (.ireturn, 1) := by decide +kernel
theorem dX7_send_14 : decode cX7_send 14 = .ok (.aload_n 0, 1) := by decide +kernel
theorem dX7_send_15 : decode cX7_send 15 = .ok (.getfield 10, 3) := by decide +kernel
theorem dX7_send_18 : decode cX7_send 18 = .ok (.invokevirtual 101, 3) := by decide +kernel
theorem dX7_send_21 : decode cX7_send 21 = .ok (.ifCond .eq 6, 3) := by decide +kernel
theorem dX7_send_24 : decode cX7_send 24 = .ok (.ldc 96, 2) := by decide +kernel
theorem dX7_send_26 : decode cX7_send 26 = .ok (.ireturn, 1) := by decide +kernel
theorem dX7_send_27 : decode cX7_send 27 = .ok (.aload_n 0, 1) := by decide +kernel
theorem dX7_send_28 : decode cX7_send 28 = .ok (.getfield 22, 3) := by decide +kernel
theorem dX7_send_31 : decode cX7_send 31 = .ok (.aload_n 0, 1) := by decide +kernel
theorem dX7_send_32 : decode cX7_send 32 = .ok (.getfield 10, 3) := by decide +kernel
theorem dX7_send_35 : decode cX7_send 35 = .ok (.invokevirtual 54, 3) := by decide +kernel
theorem dX7_send_38 : decode cX7_send 38 = .ok (.aload_n 0, 1) := by decide +kernel
theorem dX7_send_39 : decode cX7_send 39 = .ok (.getfield 10, 3) := by decide +kernel
theorem dX7_send_42 : decode cX7_send 42 = .ok (.iload_n 1, 1) := by decide +kernel
theorem dX7_send_43 : decode cX7_send 43 = .ok (.invokevirtual 105, 3) := by decide +kernel
theorem dX7_send_46 : decode cX7_send 46 = .ok (.ireturn, 1) := by decide +kernel
theorem dX7_lose_0 : decode cX7_lose 0 = .ok (.aload_n 0, 1) := by decide +kernel
theorem dX7_lose_1 : decode cX7_lose 1 = .ok (.getfield 10, 3) := by decide +kernel
theorem dX7_lose_4 : decode cX7_lose 4 = .ok (.iload_n 1, 1) := by decide +kernel
theorem dX7_lose_5 : decode cX7_lose 5 = .ok (.invokevirtual 109, 3) := by decide +kernel
theorem dX7_lose_8 : decode cX7_lose 8 = .ok (.astore_n 2, 1) := by decide +kernel
theorem dX7_lose_9 : decode cX7_lose 9 = .ok (.aload_n 2, 1) := by decide +kernel
theorem dX7_lose_10 : decode cX7_lose 10 = .ok (.ifnonnull 6, 3) := by decide +kernel
theorem dX7_lose_13 : decode cX7_lose 13 = .ok (.ldc 74, 2) := by decide +kernel
theorem dX7_lose_15 : decode cX7_lose 15 = .ok (.ireturn, 1) := by decide +kernel
theorem dX7_lose_16 : decode cX7_lose 16 = .ok (.aload_n 0, 1) := by decide +kernel
theorem dX7_lose_17 : decode cX7_lose 17 = .ok (.getfield 22, 3) := by decide +kernel
theorem dX7_lose_20 : decode cX7_lose 20 = .ok (.aload_n 0, 1) := by decide +kernel
theorem dX7_lose_21 : decode cX7_lose 21 = .ok (.getfield 10, 3) := by decide +kernel
theorem dX7_lose_24 : decode cX7_lose 24 = .ok (.invokevirtual 54, 3) := by decide +kernel
theorem dX7_lose_27 : decode cX7_lose 27 = .ok (.aload_n 2, 1) := by decide +kernel
theorem dX7_lose_28 : decode cX7_lose 28 = .ok (.getfield 113, 3) := by decide +kernel
theorem dX7_lose_31 : decode cX7_lose 31 = .ok (.istore_n 3, 1) := by decide +kernel
theorem dX7_lose_32 : decode cX7_lose 32 = .ok (.aload_n 0, 1) := by decide +kernel
theorem dX7_lose_33 : decode cX7_lose 33 = .ok (.getfield 10, 3) := by decide +kernel
theorem dX7_lose_36 : decode cX7_lose 36 = .ok (.aload_n 2, 1) := by decide +kernel
theorem dX7_lose_37 : decode cX7_lose 37 = .ok (.invokevirtual 118, 3) := by decide +kernel
theorem dX7_lose_40 : decode cX7_lose 40 = .ok (.aload_n 0, 1) := by decide +kernel
theorem dX7_lose_41 : decode cX7_lose 41 = .ok (.getfield 10, 3) := by decide +kernel
theorem dX7_lose_44 : decode cX7_lose 44 = .ok (.iload_n 1, 1) := by decide +kernel
theorem dX7_lose_45 : decode cX7_lose 45 = .ok (.invokevirtual 122, 3) := by decide +kernel
theorem dX7_lose_48 : decode cX7_lose 48 = .ok (.iload_n 3, 1) := by decide +kernel
theorem dX7_lose_49 : decode cX7_lose 49 = .ok (.ireturn, 1) := by decide +kernel
theorem dX7_twice_0 : decode cX7_twice 0 = .ok (.aload_n 0, 1) := by decide +kernel
theorem dX7_twice_1 : decode cX7_twice 1 = .ok (.getfield 10, 3) := by decide +kernel
theorem dX7_twice_4 : decode cX7_twice 4 = .ok (.iload_n 1, 1) := by decide +kernel
theorem dX7_twice_5 : decode cX7_twice 5 = .ok (.invokevirtual 109, 3) := by decide +kernel
theorem dX7_twice_8 : decode cX7_twice 8 = .ok (.astore_n 2, 1) := by decide +kernel
theorem dX7_twice_9 : decode cX7_twice 9 = .ok (.aload_n 2, 1) := by decide +kernel
theorem dX7_twice_10 : decode cX7_twice 10 = .ok (.ifnonnull 6, 3) := by decide +kernel
theorem dX7_twice_13 : decode cX7_twice 13 = .ok (.ldc 74, 2) := by decide +kernel
theorem dX7_twice_15 : decode cX7_twice 15 = .ok (.ireturn, 1) := by decide +kernel
theorem dX7_twice_16 : decode cX7_twice 16 = .ok (.aload_n 0, 1) := by decide +kernel
theorem dX7_twice_17 : decode cX7_twice 17 = .ok (.getfield 10, 3) := by decide +kernel
theorem dX7_twice_20 : decode cX7_twice 20 = .ok (.invokevirtual 101, 3) := by decide +kernel
theorem dX7_twice_23 : decode cX7_twice 23 = .ok (.ifCond .eq 6, 3) := by decide +kernel
theorem dX7_twice_26 : decode cX7_twice 26 = .ok (.ldc 96, 2) := by decide +kernel
theorem dX7_twice_28 : decode cX7_twice 28 = .ok (.ireturn, 1) := by decide +kernel
theorem dX7_twice_29 : decode cX7_twice 29 = .ok (.aload_n 0, 1) := by decide +kernel
theorem dX7_twice_30 : decode cX7_twice 30 = .ok (.getfield 22, 3) := by decide +kernel
theorem dX7_twice_33 : decode cX7_twice 33 = .ok (.aload_n 0, 1) := by decide +kernel
theorem dX7_twice_34 : decode cX7_twice 34 = .ok (.getfield 10, 3) := by decide +kernel
theorem dX7_twice_37 : decode cX7_twice 37 = .ok (.invokevirtual 54, 3) := by decide +kernel
theorem dX7_twice_40 : decode cX7_twice 40 = .ok (.aload_n 0, 1) := by decide +kernel
theorem dX7_twice_41 : decode cX7_twice 41 = .ok (.getfield 10, 3) := by decide +kernel
theorem dX7_twice_44 : decode cX7_twice 44 = .ok (.aload_n 2, 1) := by decide +kernel
theorem dX7_twice_45 : decode cX7_twice 45 = .ok (.invokevirtual 125, 3) := by decide +kernel
theorem dX7_twice_48 : decode cX7_twice 48 = .ok (.aload_n 0, 1) := by decide +kernel
theorem dX7_twice_49 : decode cX7_twice 49 = .ok (.getfield 10, 3) := by decide +kernel
theorem dX7_twice_52 : decode cX7_twice 52 = .ok (.getfield 128, 3) := by decide +kernel
theorem dX7_twice_55 : decode cX7_twice 55 = .ok (.ireturn, 1) := by decide +kernel
theorem dX7_run_0 : decode cX7_run 0 = .ok (.aload_n 0, 1) := by decide +kernel
theorem dX7_run_1 : decode cX7_run 1 = .ok (.getfield 46, 3) := by decide +kernel
theorem dX7_run_4 : decode cX7_run 4 = .ok (.invokevirtual 131, 3) := by decide +kernel
theorem dX7_run_7 : decode cX7_run 7 = .ok (.ldc 135, 2) := by decide +kernel
theorem dX7_run_9 : decode cX7_run 9 = .ok (.if_icmp .eq 6, 3) := by decide +kernel
theorem dX7_run_12 : decode cX7_run 12 = .ok (.ldc 136, 2) := by decide +kernel
theorem dX7_run_14 : decode cX7_run 14 = .ok (.ireturn, 1) := by decide +kernel
theorem dX7_run_15 : decode cX7_run 15 = .ok (.aload_n 0, 1) := by decide +kernel
theorem dX7_run_16 : decode cX7_run 16 = .ok (.getfield 22, 3) := by decide +kernel
theorem dX7_run_19 : decode cX7_run 19 = .ok (.aload_n 0, 1) := by decide +kernel
theorem dX7_run_20 : decode cX7_run 20 = .ok (.getfield 10, 3) := by decide +kernel
theorem dX7_run_23 : decode cX7_run 23 = .ok (.invokevirtual 54, 3) := by decide +kernel
theorem dX7_run_26 : decode cX7_run 26 = .ok (.aload_n 0, 1) := by decide +kernel
theorem dX7_run_27 : decode cX7_run 27 = .ok (.getfield 46, 3) := by decide +kernel
theorem dX7_run_30 : decode cX7_run 30 = .ok (.invokevirtual 137, 3) := by decide +kernel
theorem dX7_run_33 : decode cX7_run 33 = .ok (.iconst 0, 1) := by decide +kernel
theorem dX7_run_34 : decode cX7_run 34 = .ok (.istore_n 1, 1) := by decide +kernel
theorem dX7_run_35 : decode cX7_run 35 = .ok (.iconst 0, 1) := by decide +kernel
theorem dX7_run_36 : decode cX7_run 36 = .ok (.istore_n 2, 1) := by decide +kernel
theorem dX7_run_37 : decode cX7_run 37 = .ok (.iload_n 2, 1) := by decide +kernel
theorem dX7_run_38 : decode cX7_run 38 = .ok (.bipush 60, 2) := by decide +kernel
theorem dX7_run_40 : decode cX7_run 40 = .ok (.if_icmp .ge 36, 3) := by decide +kernel
theorem dX7_run_43 : decode cX7_run 43 = .ok (.aload_n 0, 1) := by decide +kernel
theorem dX7_run_44 : decode cX7_run 44 = .ok (.getfield 46, 3) := by decide +kernel
theorem dX7_run_47 : decode cX7_run 47 = .ok (.invokevirtual 140, 3) := by decide +kernel
theorem dX7_run_50 : decode cX7_run 50 = .ok (.ifCond .eq 26, 3) := by decide +kernel
theorem dX7_run_53 : decode cX7_run 53 = .ok (.aload_n 0, 1) := by decide +kernel
theorem dX7_run_54 : decode cX7_run 54 = .ok (.invokevirtual 143, 3) := by decide +kernel
theorem dX7_run_57 : decode cX7_run 57 = .ok (.ifCond .eq 6, 3) := by decide +kernel
theorem dX7_run_60 : decode cX7_run 60 = .ok (.iinc 1 1, 3) := by decide +kernel
theorem dX7_run_63 : decode cX7_run 63 = .ok (.aload_n 0, 1) := by decide +kernel
theorem dX7_run_64 : decode cX7_run 64 = .ok (.getfield 46, 3) := by decide +kernel
theorem dX7_run_67 : decode cX7_run 67 = .ok (.invokevirtual 146, 3) := by decide +kernel
theorem dX7_run_70 : decode cX7_run 70 = .ok (.iinc 2 1, 3) := by decide +kernel
theorem dX7_run_73 : decode cX7_run 73 = .ok (.goto (-36), 3) := by decide +kernel
theorem dX7_run_76 : decode cX7_run 76 = .ok (.aload_n 0, 1) := by decide +kernel
theorem dX7_run_77 : decode cX7_run 77 = .ok (.getfield 37, 3) := by decide +kernel
theorem dX7_run_80 : decode cX7_run 80 = .ok (.iconst 0, 1) := by decide +kernel
theorem dX7_run_81 : decode cX7_run 81 = .ok (.putfield 149, 3) := by decide +kernel
theorem dX7_run_84 : decode cX7_run 84 = .ok (.iload_n 1, 1) := by decide +kernel
theorem dX7_run_85 : decode cX7_run 85 = .ok (.ireturn, 1) := by decide +kernel
theorem dX7_gaugeOf_0 : decode cX7_gaugeOf 0 = .ok (.aload_n 0, 1) := by decide +kernel
theorem dX7_gaugeOf_1 : decode cX7_gaugeOf 1 = .ok (.getfield 10, 3) := by decide +kernel
theorem dX7_gaugeOf_4 : decode cX7_gaugeOf 4 = .ok (.iload_n 1, 1) := by decide +kernel
theorem dX7_gaugeOf_5 : decode cX7_gaugeOf 5 = .ok (.invokevirtual 70, 3) := by decide +kernel
theorem dX7_gaugeOf_8 : decode cX7_gaugeOf 8 = .ok (.astore_n 3, 1) := by decide +kernel
theorem dX7_gaugeOf_9 : decode cX7_gaugeOf 9 = .ok (.aload_n 3, 1) := by decide +kernel
theorem dX7_gaugeOf_10 : decode cX7_gaugeOf 10 = .ok (.ifnonnull 8, 3) := by decide +kernel
theorem dX7_gaugeOf_13 : decode cX7_gaugeOf 13 = .ok (.ldc 74, 2) := by decide +kernel
theorem dX7_gaugeOf_15 : decode cX7_gaugeOf 15 = .ok (.goto 12, 3) := by decide +kernel
theorem dX7_gaugeOf_18 : decode cX7_gaugeOf 18 = .ok (.aload_n 0, 1) := by decide +kernel
theorem dX7_gaugeOf_19 : decode cX7_gaugeOf 19 = .ok (.getfield 10, 3) := by decide +kernel
theorem dX7_gaugeOf_22 : decode cX7_gaugeOf 22 = .ok (.aload_n 3, 1) := by decide +kernel
theorem dX7_gaugeOf_23 : decode cX7_gaugeOf 23 = .ok (.iload_n 2, 1) := by decide +kernel
theorem dX7_gaugeOf_24 : decode cX7_gaugeOf 24 = .ok (.invokevirtual 152, 3) := by decide +kernel
theorem dX7_gaugeOf_27 : decode cX7_gaugeOf 27 = .ok (.ireturn, 1) := by decide +kernel
theorem dX7_ledger_0 : decode cX7_ledger 0 = .ok (.aload_n 0, 1) := by decide +kernel
theorem dX7_ledger_1 : decode cX7_ledger 1 = .ok (.getfield 10, 3) := by decide +kernel
theorem dX7_ledger_4 : decode cX7_ledger 4 = .ok (.iload_n 1, 1) := by decide +kernel
theorem dX7_ledger_5 : decode cX7_ledger 5 = .ok (.invokevirtual 70, 3) := by decide +kernel
theorem dX7_ledger_8 : decode cX7_ledger 8 = .ok (.astore_n 3, 1) := by decide +kernel
theorem dX7_ledger_9 : decode cX7_ledger 9 = .ok (.aload_n 3, 1) := by decide +kernel
theorem dX7_ledger_10 : decode cX7_ledger 10 = .ok (.ifnonnull 6, 3) := by decide +kernel
theorem dX7_ledger_13 : decode cX7_ledger 13 = .ok (.ldc 74, 2) := by decide +kernel
theorem dX7_ledger_15 : decode cX7_ledger 15 = .ok (.ireturn, 1) := by decide +kernel
theorem dX7_ledger_16 : decode cX7_ledger 16 = .ok (.aload_n 3, 1) := by decide +kernel
theorem dX7_ledger_17 : decode cX7_ledger 17 = .ok (.getfield 156, 3) := by decide +kernel
theorem dX7_ledger_20 : decode cX7_ledger 20 = .ok (.astore 4, 2) := by decide +kernel
theorem dX7_ledger_22 : decode cX7_ledger 22 = .ok (.iload_n 2, 1) := by decide +kernel
theorem dX7_ledger_23 : decode cX7_ledger 23 = .ok (.tableswitch 99 0 7 #[45, 51, 57, 70, 75, 81, 87, 93], 45) := by decide +kernel
theorem dX7_ledger_68 : decode cX7_ledger 68 = .ok (.aload 4, 2) := by decide +kernel
theorem dX7_ledger_70 : decode cX7_ledger 70 = .ok (.getfield 160, 3) := by decide +kernel
theorem dX7_ledger_73 : decode cX7_ledger 73 = .ok (.ireturn, 1) := by decide +kernel
theorem dX7_ledger_74 : decode cX7_ledger 74 = .ok (.aload 4, 2) := by decide +kernel
theorem dX7_ledger_76 : decode cX7_ledger 76 = .ok (.getfield 165, 3) := by decide +kernel
theorem dX7_ledger_79 : decode cX7_ledger 79 = .ok (.ireturn, 1) := by decide +kernel
theorem dX7_ledger_80 : decode cX7_ledger 80 = .ok (.aload_n 0, 1) := by decide +kernel
theorem dX7_ledger_81 : decode cX7_ledger 81 = .ok (.getfield 10, 3) := by decide +kernel
theorem dX7_ledger_84 : decode cX7_ledger 84 = .ok (.aload 4, 2) := by decide +kernel
theorem dX7_ledger_86 : decode cX7_ledger 86 = .ok (.getfield 168, 3) := by decide +kernel
theorem dX7_ledger_89 : decode cX7_ledger 89 = .ok (.invokevirtual 171, 3) := by decide +kernel
theorem dX7_ledger_92 : decode cX7_ledger 92 = .ok (.ireturn, 1) := by decide +kernel
theorem dX7_ledger_93 : decode cX7_ledger 93 = .ok (.aload_n 3, 1) := by decide +kernel
theorem dX7_ledger_94 : decode cX7_ledger 94 = .ok (.invokevirtual 174, 3) := by decide +kernel
theorem dX7_ledger_97 : decode cX7_ledger 97 = .ok (.ireturn, 1) := by decide +kernel
theorem dX7_ledger_98 : decode cX7_ledger 98 = .ok (.aload 4, 2) := by decide +kernel
theorem dX7_ledger_100 : decode cX7_ledger 100 = .ok (.getfield 177, 3) := by decide +kernel
theorem dX7_ledger_103 : decode cX7_ledger 103 = .ok (.ireturn, 1) := by decide +kernel
theorem dX7_ledger_104 : decode cX7_ledger 104 = .ok (.aload 4, 2) := by decide +kernel
theorem dX7_ledger_106 : decode cX7_ledger 106 = .ok (.getfield 180, 3) := by decide +kernel
theorem dX7_ledger_109 : decode cX7_ledger 109 = .ok (.ireturn, 1) := by decide +kernel
theorem dX7_ledger_110 : decode cX7_ledger 110 = .ok (.aload 4, 2) := by decide +kernel
theorem dX7_ledger_112 : decode cX7_ledger 112 = .ok (.getfield 183, 3) := by decide +kernel
theorem dX7_ledger_115 : decode cX7_ledger 115 = .ok (.ireturn, 1) := by decide +kernel
theorem dX7_ledger_116 : decode cX7_ledger 116 = .ok (.aload 4, 2) := by decide +kernel
theorem dX7_ledger_118 : decode cX7_ledger 118 = .ok (.getfield 186, 3) := by decide +kernel
theorem dX7_ledger_121 : decode cX7_ledger 121 = .ok (.ireturn, 1) := by decide +kernel
theorem dX7_ledger_122 : decode cX7_ledger 122 = .ok (.ldc 69, 2) := by decide +kernel
theorem dX7_ledger_124 : decode cX7_ledger 124 = .ok (.ireturn, 1) := by decide +kernel
theorem dX7_runner_0 : decode cX7_runner 0 = .ok (.aload_n 0, 1) := by decide +kernel
theorem dX7_runner_1 : decode cX7_runner 1 = .ok (.getfield 10, 3) := by decide +kernel
theorem dX7_runner_4 : decode cX7_runner 4 = .ok (.iload_n 1, 1) := by decide +kernel
theorem dX7_runner_5 : decode cX7_runner 5 = .ok (.invokevirtual 109, 3) := by decide +kernel
theorem dX7_runner_8 : decode cX7_runner 8 = .ok (.astore_n 3, 1) := by decide +kernel
theorem dX7_runner_9 : decode cX7_runner 9 = .ok (.aload_n 3, 1) := by decide +kernel
theorem dX7_runner_10 : decode cX7_runner 10 = .ok (.ifnonnull 6, 3) := by decide +kernel
theorem dX7_runner_13 : decode cX7_runner 13 = .ok (.ldc 74, 2) := by decide +kernel
theorem dX7_runner_15 : decode cX7_runner 15 = .ok (.ireturn, 1) := by decide +kernel
theorem dX7_runner_16 : decode cX7_runner 16 = .ok (.iload_n 2, 1) := by decide +kernel
theorem dX7_runner_17 : decode cX7_runner 17 = .ok (.tableswitch 58 0 3 #[31, 36, 48, 53], 31) := by decide +kernel
theorem dX7_runner_48 : decode cX7_runner 48 = .ok (.aload_n 3, 1) := by decide +kernel
theorem dX7_runner_49 : decode cX7_runner 49 = .ok (.getfield 113, 3) := by decide +kernel
theorem dX7_runner_52 : decode cX7_runner 52 = .ok (.ireturn, 1) := by decide +kernel
theorem dX7_runner_53 : decode cX7_runner 53 = .ok (.aload_n 0, 1) := by decide +kernel
theorem dX7_runner_54 : decode cX7_runner 54 = .ok (.getfield 10, 3) := by decide +kernel
theorem dX7_runner_57 : decode cX7_runner 57 = .ok (.aload_n 3, 1) := by decide +kernel
theorem dX7_runner_58 : decode cX7_runner 58 = .ok (.getfield 189, 3) := by decide +kernel
theorem dX7_runner_61 : decode cX7_runner 61 = .ok (.invokevirtual 171, 3) := by decide +kernel
theorem dX7_runner_64 : decode cX7_runner 64 = .ok (.ireturn, 1) := by decide +kernel
theorem dX7_runner_65 : decode cX7_runner 65 = .ok (.aload_n 3, 1) := by decide +kernel
theorem dX7_runner_66 : decode cX7_runner 66 = .ok (.getfield 192, 3) := by decide +kernel
theorem dX7_runner_69 : decode cX7_runner 69 = .ok (.ireturn, 1) := by decide +kernel
theorem dX7_runner_70 : decode cX7_runner 70 = .ok (.aload_n 3, 1) := by decide +kernel
theorem dX7_runner_71 : decode cX7_runner 71 = .ok (.getfield 195, 3) := by decide +kernel
theorem dX7_runner_74 : decode cX7_runner 74 = .ok (.ireturn, 1) := by decide +kernel
theorem dX7_runner_75 : decode cX7_runner 75 = .ok (.ldc 69, 2) := by decide +kernel
theorem dX7_runner_77 : decode cX7_runner 77 = .ok (.ireturn, 1) := by decide +kernel
theorem dX7_count_0 : decode cX7_count 0 = .ok (.iload_n 1, 1) := by decide +kernel
theorem dX7_count_1 : decode cX7_count 1 = .ok (.tableswitch 161 0 10 #[59, 67, 75, 83, 91, 101, 120, 129, 137, 145, 153], 59) := by decide +kernel
theorem dX7_count_60 : decode cX7_count 60 = .ok (.aload_n 0, 1) := by decide +kernel
theorem dX7_count_61 : decode cX7_count 61 = .ok (.getfield 10, 3) := by decide +kernel
theorem dX7_count_64 : decode cX7_count 64 = .ok (.getfield 58, 3) := by decide +kernel
theorem dX7_count_67 : decode cX7_count 67 = .ok (.ireturn, 1) := by decide +kernel
theorem dX7_count_68 : decode cX7_count 68 = .ok (.aload_n 0, 1) := by decide +kernel
theorem dX7_count_69 : decode cX7_count 69 = .ok (.getfield 10, 3) := by decide +kernel
theorem dX7_count_72 : decode cX7_count 72 = .ok (.getfield 66, 3) := by decide +kernel
theorem dX7_count_75 : decode cX7_count 75 = .ok (.ireturn, 1) := by decide +kernel
theorem dX7_count_76 : decode cX7_count 76 = .ok (.aload_n 0, 1) := by decide +kernel
theorem dX7_count_77 : decode cX7_count 77 = .ok (.getfield 10, 3) := by decide +kernel
theorem dX7_count_80 : decode cX7_count 80 = .ok (.getfield 198, 3) := by decide +kernel
theorem dX7_count_83 : decode cX7_count 83 = .ok (.ireturn, 1) := by decide +kernel
theorem dX7_count_84 : decode cX7_count 84 = .ok (.aload_n 0, 1) := by decide +kernel
theorem dX7_count_85 : decode cX7_count 85 = .ok (.getfield 10, 3) := by decide +kernel
theorem dX7_count_88 : decode cX7_count 88 = .ok (.getfield 128, 3) := by decide +kernel
theorem dX7_count_91 : decode cX7_count 91 = .ok (.ireturn, 1) := by decide +kernel
theorem dX7_count_92 : decode cX7_count 92 = .ok (.aload_n 0, 1) := by decide +kernel
theorem dX7_count_93 : decode cX7_count 93 = .ok (.getfield 10, 3) := by decide +kernel
theorem dX7_count_96 : decode cX7_count 96 = .ok (.bipush 7, 2) := by decide +kernel
theorem dX7_count_98 : decode cX7_count 98 = .ok (.invokevirtual 201, 3) := by decide +kernel
theorem dX7_count_101 : decode cX7_count 101 = .ok (.ireturn, 1) := by decide +kernel
theorem dX7_count_102 : decode cX7_count 102 = .ok (.aload_n 0, 1) := by decide +kernel
theorem dX7_count_103 : decode cX7_count 103 = .ok (.getfield 10, 3) := by decide +kernel
theorem dX7_count_106 : decode cX7_count 106 = .ok (.bipush 8, 2) := by decide +kernel
theorem dX7_count_108 : decode cX7_count 108 = .ok (.invokevirtual 201, 3) := by decide +kernel
theorem dX7_count_111 : decode cX7_count 111 = .ok (.aload_n 0, 1) := by decide +kernel
theorem dX7_count_112 : decode cX7_count 112 = .ok (.getfield 10, 3) := by decide +kernel
theorem dX7_count_115 : decode cX7_count 115 = .ok (.iconst 4, 1) := by decide +kernel
theorem dX7_count_116 : decode cX7_count 116 = .ok (.invokevirtual 201, 3) := by decide +kernel
theorem dX7_count_119 : decode cX7_count 119 = .ok (.iadd, 1) := by decide +kernel
theorem dX7_count_120 : decode cX7_count 120 = .ok (.ireturn, 1) := by decide +kernel
theorem dX7_count_121 : decode cX7_count 121 = .ok (.aload_n 0, 1) := by decide +kernel
theorem dX7_count_122 : decode cX7_count 122 = .ok (.getfield 10, 3) := by decide +kernel
theorem dX7_count_125 : decode cX7_count 125 = .ok (.iconst 5, 1) := by decide +kernel
theorem dX7_count_126 : decode cX7_count 126 = .ok (.invokevirtual 201, 3) := by decide +kernel
theorem dX7_count_129 : decode cX7_count 129 = .ok (.ireturn, 1) := by decide +kernel
theorem dX7_count_130 : decode cX7_count 130 = .ok (.aload_n 0, 1) := by decide +kernel
theorem dX7_count_131 : decode cX7_count 131 = .ok (.getfield 10, 3) := by decide +kernel
theorem dX7_count_134 : decode cX7_count 134 = .ok (.invokevirtual 204, 3) := by decide +kernel
theorem dX7_count_137 : decode cX7_count 137 = .ok (.ireturn, 1) := by decide +kernel
theorem dX7_count_138 : decode cX7_count 138 = .ok (.aload_n 0, 1) := by decide +kernel
theorem dX7_count_139 : decode cX7_count 139 = .ok (.getfield 10, 3) := by decide +kernel
theorem dX7_count_142 : decode cX7_count 142 = .ok (.invokevirtual 207, 3) := by decide +kernel
theorem dX7_count_145 : decode cX7_count 145 = .ok (.ireturn, 1) := by decide +kernel
theorem dX7_count_146 : decode cX7_count 146 = .ok (.aload_n 0, 1) := by decide +kernel
theorem dX7_count_147 : decode cX7_count 147 = .ok (.getfield 37, 3) := by decide +kernel
theorem dX7_count_150 : decode cX7_count 150 = .ok (.getfield 149, 3) := by decide +kernel
theorem dX7_count_153 : decode cX7_count 153 = .ok (.ireturn, 1) := by decide +kernel
theorem dX7_count_154 : decode cX7_count 154 = .ok (.aload_n 0, 1) := by decide +kernel
theorem dX7_count_155 : decode cX7_count 155 = .ok (.getfield 22, 3) := by decide +kernel
theorem dX7_count_158 : decode cX7_count 158 = .ok (.getfield 210, 3) := by decide +kernel
theorem dX7_count_161 : decode cX7_count 161 = .ok (.ireturn, 1) := by decide +kernel
theorem dX7_count_162 : decode cX7_count 162 = .ok (.ldc 69, 2) := by decide +kernel
theorem dX7_count_164 : decode cX7_count 164 = .ok (.ireturn, 1) := by decide +kernel
theorem dX7_untilRound_0 : decode cX7_untilRound 0 = .ok (.aload_n 0, 1) := by decide +kernel
theorem dX7_untilRound_1 : decode cX7_untilRound 1 = .ok (.getfield 16, 3) := by decide +kernel
theorem dX7_untilRound_4 : decode cX7_untilRound 4 = .ok (.aload_n 0, 1) := by decide +kernel
theorem dX7_untilRound_5 : decode cX7_untilRound 5 = .ok (.getfield 10, 3) := by decide +kernel
theorem dX7_untilRound_8 : decode cX7_untilRound 8 = .ok (.invokevirtual 213, 3) := by decide +kernel
theorem dX7_untilRound_11 : decode cX7_untilRound 11 = .ok (.aload_n 0, 1) := by decide +kernel
theorem dX7_untilRound_12 : decode cX7_untilRound 12 = .ok (.getfield 16, 3) := by decide +kernel
theorem dX7_untilRound_15 : decode cX7_untilRound 15 = .ok (.iload_n 1, 1) := by decide +kernel
theorem dX7_untilRound_16 : decode cX7_untilRound 16 = .ok (.invokevirtual 70, 3) := by decide +kernel
theorem dX7_untilRound_19 : decode cX7_untilRound 19 = .ok (.astore_n 3, 1) := by decide +kernel
theorem dX7_untilRound_20 : decode cX7_untilRound 20 = .ok (.aload_n 3, 1) := by decide +kernel
theorem dX7_untilRound_21 : decode cX7_untilRound 21 = .ok (.ifnonnull 6, 3) := by decide +kernel
theorem dX7_untilRound_24 : decode cX7_untilRound 24 = .ok (.ldc 74, 2) := by decide +kernel
theorem dX7_untilRound_26 : decode cX7_untilRound 26 = .ok (.ireturn, 1) := by decide +kernel
theorem dX7_untilRound_27 : decode cX7_untilRound 27 = .ok (.iload_n 2, 1) := by decide +kernel
theorem dX7_untilRound_28 : decode cX7_untilRound 28 = .ok (.iconst 0, 1) := by decide +kernel
theorem dX7_untilRound_29 : decode cX7_untilRound 29 = .ok (.bipush 99, 2) := by decide +kernel
theorem dX7_untilRound_31 : decode cX7_untilRound 31 = .ok (.invokestatic 50, 3) := by decide +kernel
theorem dX7_untilRound_34 : decode cX7_untilRound 34 = .ok (.ifCond .ne 6, 3) := by decide +kernel
theorem dX7_untilRound_37 : decode cX7_untilRound 37 = .ok (.ldc 69, 2) := by decide +kernel
theorem dX7_untilRound_39 : decode cX7_untilRound 39 = .ok (.ireturn, 1) := by decide +kernel
theorem dX7_untilRound_40 : decode cX7_untilRound 40 = .ok (.iconst 0, 1) := by decide +kernel
theorem dX7_untilRound_41 : decode cX7_untilRound 41 = .ok (.istore 4, 2) := by decide +kernel
theorem dX7_untilRound_43 : decode cX7_untilRound 43 = .ok (.iload 4, 2) := by decide +kernel
theorem dX7_untilRound_45 : decode cX7_untilRound 45 = .ok (.sipush 500, 3) := by decide +kernel
theorem dX7_untilRound_48 : decode cX7_untilRound 48 = .ok (.if_icmp .gt 32, 3) := by decide +kernel
theorem dX7_untilRound_51 : decode cX7_untilRound 51 = .ok (.aload_n 3, 1) := by decide +kernel
theorem dX7_untilRound_52 : decode cX7_untilRound 52 = .ok (.invokevirtual 216, 3) := by decide +kernel
theorem dX7_untilRound_55 : decode cX7_untilRound 55 = .ok (.aload_n 0, 1) := by decide +kernel
theorem dX7_untilRound_56 : decode cX7_untilRound 56 = .ok (.getfield 16, 3) := by decide +kernel
theorem dX7_untilRound_59 : decode cX7_untilRound 59 = .ok (.getfield 58, 3) := by decide +kernel
theorem dX7_untilRound_62 : decode cX7_untilRound 62 = .ok (.if_icmp .lt 6, 3) := by decide +kernel
theorem dX7_untilRound_65 : decode cX7_untilRound 65 = .ok (.iload 4, 2) := by decide +kernel
theorem dX7_untilRound_67 : decode cX7_untilRound 67 = .ok (.ireturn, 1) := by decide +kernel
theorem dX7_untilRound_68 : decode cX7_untilRound 68 = .ok (.aload_n 3, 1) := by decide +kernel
theorem dX7_untilRound_69 : decode cX7_untilRound 69 = .ok (.iload_n 2, 1) := by decide +kernel
theorem dX7_untilRound_70 : decode cX7_untilRound 70 = .ok (.invokevirtual 219, 3) := by decide +kernel
theorem dX7_untilRound_73 : decode cX7_untilRound 73 = .ok (.pop, 1) := by decide +kernel
theorem dX7_untilRound_74 : decode cX7_untilRound 74 = .ok (.iinc 4 1, 3) := by decide +kernel
theorem dX7_untilRound_77 : decode cX7_untilRound 77 = .ok (.goto (-34), 3) := by decide +kernel
theorem dX7_untilRound_80 : decode cX7_untilRound 80 = .ok (.ldc 135, 2) := by decide +kernel
theorem dX7_untilRound_82 : decode cX7_untilRound 82 = .ok (.ireturn, 1) := by decide +kernel
theorem dX7_ifSent_0 : decode cX7_ifSent 0 = .ok (.aload_n 0, 1) := by decide +kernel
theorem dX7_ifSent_1 : decode cX7_ifSent 1 = .ok (.getfield 16, 3) := by decide +kernel
theorem dX7_ifSent_4 : decode cX7_ifSent 4 = .ok (.aload_n 0, 1) := by decide +kernel
theorem dX7_ifSent_5 : decode cX7_ifSent 5 = .ok (.getfield 10, 3) := by decide +kernel
theorem dX7_ifSent_8 : decode cX7_ifSent 8 = .ok (.invokevirtual 213, 3) := by decide +kernel
theorem dX7_ifSent_11 : decode cX7_ifSent 11 = .ok (.aload_n 0, 1) := by decide +kernel
theorem dX7_ifSent_12 : decode cX7_ifSent 12 = .ok (.getfield 16, 3) := by decide +kernel
theorem dX7_ifSent_15 : decode cX7_ifSent 15 = .ok (.iload_n 1, 1) := by decide +kernel
theorem dX7_ifSent_16 : decode cX7_ifSent 16 = .ok (.invokevirtual 70, 3) := by decide +kernel
theorem dX7_ifSent_19 : decode cX7_ifSent 19 = .ok (.astore_n 2, 1) := by decide +kernel
theorem dX7_ifSent_20 : decode cX7_ifSent 20 = .ok (.aload_n 2, 1) := by decide +kernel
theorem dX7_ifSent_21 : decode cX7_ifSent 21 = .ok (.ifnonnull 6, 3) := by decide +kernel
theorem dX7_ifSent_24 : decode cX7_ifSent 24 = .ok (.ldc 74, 2) := by decide +kernel
theorem dX7_ifSent_26 : decode cX7_ifSent 26 = .ok (.ireturn, 1) := by decide +kernel
theorem dX7_ifSent_27 : decode cX7_ifSent 27 = .ok (.aload_n 0, 1) := by decide +kernel
theorem dX7_ifSent_28 : decode cX7_ifSent 28 = .ok (.getfield 16, 3) := by decide +kernel
theorem dX7_ifSent_31 : decode cX7_ifSent 31 = .ok (.iconst 0, 1) := by decide +kernel
theorem dX7_ifSent_32 : decode cX7_ifSent 32 = .ok (.putfield 128, 3) := by decide +kernel
theorem dX7_ifSent_35 : decode cX7_ifSent 35 = .ok (.aload_n 2, 1) := by decide +kernel
theorem dX7_ifSent_36 : decode cX7_ifSent 36 = .ok (.iconst 0, 1) := by decide +kernel
theorem dX7_ifSent_37 : decode cX7_ifSent 37 = .ok (.putfield 86, 3) := by decide +kernel
theorem dX7_ifSent_40 : decode cX7_ifSent 40 = .ok (.aload_n 0, 1) := by decide +kernel
theorem dX7_ifSent_41 : decode cX7_ifSent 41 = .ok (.getfield 16, 3) := by decide +kernel
theorem dX7_ifSent_44 : decode cX7_ifSent 44 = .ok (.iload_n 1, 1) := by decide +kernel
theorem dX7_ifSent_45 : decode cX7_ifSent 45 = .ok (.invokevirtual 105, 3) := by decide +kernel
theorem dX7_ifSent_48 : decode cX7_ifSent 48 = .ok (.pop, 1) := by decide +kernel
theorem dX7_ifSent_49 : decode cX7_ifSent 49 = .ok (.aload_n 2, 1) := by decide +kernel
theorem dX7_ifSent_50 : decode cX7_ifSent 50 = .ok (.invokevirtual 174, 3) := by decide +kernel
theorem dX7_ifSent_53 : decode cX7_ifSent 53 = .ok (.ireturn, 1) := by decide +kernel
theorem dX7_ifAllCome_0 : decode cX7_ifAllCome 0 = .ok (.aload_n 0, 1) := by decide +kernel
theorem dX7_ifAllCome_1 : decode cX7_ifAllCome 1 = .ok (.getfield 16, 3) := by decide +kernel
theorem dX7_ifAllCome_4 : decode cX7_ifAllCome 4 = .ok (.aload_n 0, 1) := by decide +kernel
theorem dX7_ifAllCome_5 : decode cX7_ifAllCome 5 = .ok (.getfield 10, 3) := by decide +kernel
theorem dX7_ifAllCome_8 : decode cX7_ifAllCome 8 = .ok (.invokevirtual 213, 3) := by decide +kernel
theorem dX7_ifAllCome_11 : decode cX7_ifAllCome 11 = .ok (.aload_n 0, 1) := by decide +kernel
theorem dX7_ifAllCome_12 : decode cX7_ifAllCome 12 = .ok (.getfield 16, 3) := by decide +kernel
theorem dX7_ifAllCome_15 : decode cX7_ifAllCome 15 = .ok (.iload_n 1, 1) := by decide +kernel
theorem dX7_ifAllCome_16 : decode cX7_ifAllCome 16 = .ok (.invokevirtual 70, 3) := by decide +kernel
theorem dX7_ifAllCome_19 : decode cX7_ifAllCome 19 = .ok (.astore_n 2, 1) := by decide +kernel
theorem dX7_ifAllCome_20 : decode cX7_ifAllCome 20 = .ok (.aload_n 2, 1) := by decide +kernel
theorem dX7_ifAllCome_21 : decode cX7_ifAllCome 21 = .ok (.ifnonnull 6, 3) := by decide +kernel
theorem dX7_ifAllCome_24 : decode cX7_ifAllCome 24 = .ok (.ldc 74, 2) := by decide +kernel
theorem dX7_ifAllCome_26 : decode cX7_ifAllCome 26 = .ok (.ireturn, 1) := by decide +kernel
theorem dX7_ifAllCome_27 : decode cX7_ifAllCome 27 = .ok (.aload_n 0, 1) := by decide +kernel
theorem dX7_ifAllCome_28 : decode cX7_ifAllCome 28 = .ok (.getfield 16, 3) := by decide +kernel
theorem dX7_ifAllCome_31 : decode cX7_ifAllCome 31 = .ok (.iconst 0, 1) := by decide +kernel
theorem dX7_ifAllCome_32 : decode cX7_ifAllCome 32 = .ok (.aload_n 0, 1) := by decide +kernel
theorem dX7_ifAllCome_33 : decode cX7_ifAllCome 33 = .ok (.getfield 16, 3) := by decide +kernel
theorem dX7_ifAllCome_36 : decode cX7_ifAllCome 36 = .ok (.invokevirtual 222, 3) := by decide +kernel
theorem dX7_ifAllCome_39 : decode cX7_ifAllCome 39 = .ok (.invokevirtual 97, 3) := by decide +kernel
theorem dX7_ifAllCome_42 : decode cX7_ifAllCome 42 = .ok (.pop, 1) := by decide +kernel
theorem dX7_ifAllCome_43 : decode cX7_ifAllCome 43 = .ok (.aload_n 2, 1) := by decide +kernel
theorem dX7_ifAllCome_44 : decode cX7_ifAllCome 44 = .ok (.invokevirtual 174, 3) := by decide +kernel
theorem dX7_ifAllCome_47 : decode cX7_ifAllCome 47 = .ok (.ireturn, 1) := by decide +kernel
theorem dX7_mostUntold_0 : decode cX7_mostUntold 0 = .ok (.iconst 0, 1) := by decide +kernel
theorem dX7_mostUntold_1 : decode cX7_mostUntold 1 = .ok (.istore_n 1, 1) := by decide +kernel
theorem dX7_mostUntold_2 : decode cX7_mostUntold 2 = .ok (.ldc 135, 2) := by decide +kernel
theorem dX7_mostUntold_4 : decode cX7_mostUntold 4 = .ok (.istore_n 2, 1) := by decide +kernel
theorem dX7_mostUntold_5 : decode cX7_mostUntold 5 = .ok (.iconst 0, 1) := by decide +kernel
theorem dX7_mostUntold_6 : decode cX7_mostUntold 6 = .ok (.istore_n 3, 1) := by decide +kernel
theorem dX7_mostUntold_7 : decode cX7_mostUntold 7 = .ok (.iload_n 3, 1) := by decide +kernel
theorem dX7_mostUntold_8 : decode cX7_mostUntold 8 = .ok (.bipush 6, 2) := by decide +kernel
theorem dX7_mostUntold_10 : decode cX7_mostUntold 10 = .ok (.if_icmp .ge 34, 3) := by decide +kernel
theorem dX7_mostUntold_13 : decode cX7_mostUntold 13 = .ok (.aload_n 0, 1) := by decide +kernel
theorem dX7_mostUntold_14 : decode cX7_mostUntold 14 = .ok (.getfield 10, 3) := by decide +kernel
theorem dX7_mostUntold_17 : decode cX7_mostUntold 17 = .ok (.getfield 225, 3) := by decide +kernel
theorem dX7_mostUntold_20 : decode cX7_mostUntold 20 = .ok (.iload_n 3, 1) := by decide +kernel
theorem dX7_mostUntold_21 : decode cX7_mostUntold 21 = .ok (.aaload, 1) := by decide +kernel
theorem dX7_mostUntold_22 : decode cX7_mostUntold 22 = .ok (.invokevirtual 216, 3) := by decide +kernel
theorem dX7_mostUntold_25 : decode cX7_mostUntold 25 = .ok (.istore 4, 2) := by decide +kernel
theorem dX7_mostUntold_27 : decode cX7_mostUntold 27 = .ok (.iload 4, 2) := by decide +kernel
theorem dX7_mostUntold_29 : decode cX7_mostUntold 29 = .ok (.iload_n 1, 1) := by decide +kernel
theorem dX7_mostUntold_30 : decode cX7_mostUntold 30 = .ok (.if_icmp .le 8, 3) := by decide +kernel
theorem dX7_mostUntold_33 : decode cX7_mostUntold 33 = .ok (.iload 4, 2) := by decide +kernel
theorem dX7_mostUntold_35 : decode cX7_mostUntold 35 = .ok (.istore_n 1, 1) := by decide +kernel
theorem dX7_mostUntold_36 : decode cX7_mostUntold 36 = .ok (.iload_n 3, 1) := by decide +kernel
theorem dX7_mostUntold_37 : decode cX7_mostUntold 37 = .ok (.istore_n 2, 1) := by decide +kernel
theorem dX7_mostUntold_38 : decode cX7_mostUntold 38 = .ok (.iinc 3 1, 3) := by decide +kernel
theorem dX7_mostUntold_41 : decode cX7_mostUntold 41 = .ok (.goto (-34), 3) := by decide +kernel
theorem dX7_mostUntold_44 : decode cX7_mostUntold 44 = .ok (.iload_n 2, 1) := by decide +kernel
theorem dX7_mostUntold_45 : decode cX7_mostUntold 45 = .ok (.ireturn, 1) := by decide +kernel
theorem dX7_put_0 : decode cX7_put 0 = .ok (.lload_n 1, 1) := by decide +kernel
theorem dX7_put_1 : decode cX7_put 1 = .ok (.invokestatic 229, 3) := by decide +kernel
theorem dX7_put_4 : decode cX7_put 4 = .ok (.istore_n 3, 1) := by decide +kernel
theorem dX7_put_5 : decode cX7_put 5 = .ok (.iload_n 3, 1) := by decide +kernel
theorem dX7_put_6 : decode cX7_put 6 = .ok (.ifCond .ne 6, 3) := by decide +kernel
theorem dX7_put_9 : decode cX7_put 9 = .ok (.ldc 69, 2) := by decide +kernel
theorem dX7_put_11 : decode cX7_put 11 = .ok (.ireturn, 1) := by decide +kernel
theorem dX7_put_12 : decode cX7_put 12 = .ok (.aload_n 0, 1) := by decide +kernel
theorem dX7_put_13 : decode cX7_put 13 = .ok (.getfield 37, 3) := by decide +kernel
theorem dX7_put_16 : decode cX7_put 16 = .ok (.getfield 149, 3) := by decide +kernel
theorem dX7_put_19 : decode cX7_put 19 = .ok (.iload_n 3, 1) := by decide +kernel
theorem dX7_put_20 : decode cX7_put 20 = .ok (.iadd, 1) := by decide +kernel
theorem dX7_put_21 : decode cX7_put 21 = .ok (.bipush 60, 2) := by decide +kernel
theorem dX7_put_23 : decode cX7_put 23 = .ok (.if_icmp .le 6, 3) := by decide +kernel
theorem dX7_put_26 : decode cX7_put 26 = .ok (.ldc 96, 2) := by decide +kernel
theorem dX7_put_28 : decode cX7_put 28 = .ok (.ireturn, 1) := by decide +kernel
theorem dX7_put_29 : decode cX7_put 29 = .ok (.iload_n 3, 1) := by decide +kernel
theorem dX7_put_30 : decode cX7_put 30 = .ok (.iconst 1, 1) := by decide +kernel
theorem dX7_put_31 : decode cX7_put 31 = .ok (.isub, 1) := by decide +kernel
theorem dX7_put_32 : decode cX7_put 32 = .ok (.istore 4, 2) := by decide +kernel
theorem dX7_put_34 : decode cX7_put 34 = .ok (.iload 4, 2) := by decide +kernel
theorem dX7_put_36 : decode cX7_put 36 = .ok (.ifCond .lt 23, 3) := by decide +kernel
theorem dX7_put_39 : decode cX7_put 39 = .ok (.aload_n 0, 1) := by decide +kernel
theorem dX7_put_40 : decode cX7_put 40 = .ok (.getfield 37, 3) := by decide +kernel
theorem dX7_put_43 : decode cX7_put 43 = .ok (.lload_n 1, 1) := by decide +kernel
theorem dX7_put_44 : decode cX7_put 44 = .ok (.iload 4, 2) := by decide +kernel
theorem dX7_put_46 : decode cX7_put 46 = .ok (.invokestatic 233, 3) := by decide +kernel
theorem dX7_put_49 : decode cX7_put 49 = .ok (.i2c, 1) := by decide +kernel
theorem dX7_put_50 : decode cX7_put 50 = .ok (.invokevirtual 237, 3) := by decide +kernel
theorem dX7_put_53 : decode cX7_put 53 = .ok (.iinc 4 (-1), 3) := by decide +kernel
theorem dX7_put_56 : decode cX7_put 56 = .ok (.goto (-22), 3) := by decide +kernel
theorem dX7_put_59 : decode cX7_put 59 = .ok (.aload_n 0, 1) := by decide +kernel
theorem dX7_put_60 : decode cX7_put 60 = .ok (.getfield 37, 3) := by decide +kernel
theorem dX7_put_63 : decode cX7_put 63 = .ok (.getfield 149, 3) := by decide +kernel
theorem dX7_put_66 : decode cX7_put 66 = .ok (.ireturn, 1) := by decide +kernel
theorem dX7_wipe_0 : decode cX7_wipe 0 = .ok (.aload_n 0, 1) := by decide +kernel
theorem dX7_wipe_1 : decode cX7_wipe 1 = .ok (.getfield 37, 3) := by decide +kernel
theorem dX7_wipe_4 : decode cX7_wipe 4 = .ok (.getfield 149, 3) := by decide +kernel
theorem dX7_wipe_7 : decode cX7_wipe 7 = .ok (.istore_n 1, 1) := by decide +kernel
theorem dX7_wipe_8 : decode cX7_wipe 8 = .ok (.aload_n 0, 1) := by decide +kernel
theorem dX7_wipe_9 : decode cX7_wipe 9 = .ok (.getfield 37, 3) := by decide +kernel
theorem dX7_wipe_12 : decode cX7_wipe 12 = .ok (.iconst 0, 1) := by decide +kernel
theorem dX7_wipe_13 : decode cX7_wipe 13 = .ok (.putfield 149, 3) := by decide +kernel
theorem dX7_wipe_16 : decode cX7_wipe 16 = .ok (.iload_n 1, 1) := by decide +kernel
theorem dX7_wipe_17 : decode cX7_wipe 17 = .ok (.ireturn, 1) := by decide +kernel
theorem dX7_fault_0 : decode cX7_fault 0 = .ok (.aload_n 0, 1) := by decide +kernel
theorem dX7_fault_1 : decode cX7_fault 1 = .ok (.getfield 46, 3) := by decide +kernel
theorem dX7_fault_4 : decode cX7_fault 4 = .ok (.invokevirtual 131, 3) := by decide +kernel
theorem dX7_fault_7 : decode cX7_fault 7 = .ok (.ireturn, 1) := by decide +kernel
theorem dX7_undo_0 : decode cX7_undo 0 = .ok (.aload_n 0, 1) := by decide +kernel
theorem dX7_undo_1 : decode cX7_undo 1 = .ok (.getfield 22, 3) := by decide +kernel
theorem dX7_undo_4 : decode cX7_undo 4 = .ok (.aload_n 0, 1) := by decide +kernel
theorem dX7_undo_5 : decode cX7_undo 5 = .ok (.getfield 10, 3) := by decide +kernel
theorem dX7_undo_8 : decode cX7_undo 8 = .ok (.invokevirtual 241, 3) := by decide +kernel
theorem dX7_undo_11 : decode cX7_undo 11 = .ok (.ifCond .eq 13, 3) := by decide +kernel
theorem dX7_undo_14 : decode cX7_undo 14 = .ok (.aload_n 0, 1) := by decide +kernel
theorem dX7_undo_15 : decode cX7_undo 15 = .ok (.getfield 22, 3) := by decide +kernel
theorem dX7_undo_18 : decode cX7_undo 18 = .ok (.getfield 210, 3) := by decide +kernel
theorem dX7_undo_21 : decode cX7_undo 21 = .ok (.goto 5, 3) := by decide +kernel
theorem dX7_undo_24 : decode cX7_undo 24 = .ok (.ldc 245, 2) := by decide +kernel
theorem dX7_undo_26 : decode cX7_undo 26 = .ok (.ireturn, 1) := by decide +kernel
theorem dX7_save_0 : decode cX7_save 0 = .ok (.iload_n 1, 1) := by decide +kernel
theorem dX7_save_1 : decode cX7_save 1 = .ok (.iconst 0, 1) := by decide +kernel
theorem dX7_save_2 : decode cX7_save 2 = .ok (.iconst 1, 1) := by decide +kernel
theorem dX7_save_3 : decode cX7_save 3 = .ok (.invokestatic 50, 3) := by decide +kernel
theorem dX7_save_6 : decode cX7_save 6 = .ok (.ifCond .ne 6, 3) := by decide +kernel
theorem dX7_save_9 : decode cX7_save 9 = .ok (.ldc 69, 2) := by decide +kernel
theorem dX7_save_11 : decode cX7_save 11 = .ok (.ireturn, 1) := by decide +kernel
theorem dX7_save_12 : decode cX7_save 12 = .ok (.aload_n 0, 1) := by decide +kernel
theorem dX7_save_13 : decode cX7_save 13 = .ok (.getfield 26, 3) := by decide +kernel
theorem dX7_save_16 : decode cX7_save 16 = .ok (.iload_n 1, 1) := by decide +kernel
theorem dX7_save_17 : decode cX7_save 17 = .ok (.aaload, 1) := by decide +kernel
theorem dX7_save_18 : decode cX7_save 18 = .ok (.aload_n 0, 1) := by decide +kernel
theorem dX7_save_19 : decode cX7_save 19 = .ok (.getfield 10, 3) := by decide +kernel
theorem dX7_save_22 : decode cX7_save 22 = .ok (.invokevirtual 213, 3) := by decide +kernel
theorem dX7_save_25 : decode cX7_save 25 = .ok (.aload_n 0, 1) := by decide +kernel
theorem dX7_save_26 : decode cX7_save 26 = .ok (.getfield 30, 3) := by decide +kernel
theorem dX7_save_29 : decode cX7_save 29 = .ok (.iload_n 1, 1) := by decide +kernel
theorem dX7_save_30 : decode cX7_save 30 = .ok (.iconst 1, 1) := by decide +kernel
theorem dX7_save_31 : decode cX7_save 31 = .ok (.bastore, 1) := by decide +kernel
theorem dX7_save_32 : decode cX7_save 32 = .ok (.aload_n 0, 1) := by decide +kernel
theorem dX7_save_33 : decode cX7_save 33 = .ok (.getfield 10, 3) := by decide +kernel
theorem dX7_save_36 : decode cX7_save 36 = .ok (.getfield 198, 3) := by decide +kernel
theorem dX7_save_39 : decode cX7_save 39 = .ok (.ireturn, 1) := by decide +kernel
theorem dX7_restore_0 : decode cX7_restore 0 = .ok (.iload_n 1, 1) := by decide +kernel
theorem dX7_restore_1 : decode cX7_restore 1 = .ok (.iconst 0, 1) := by decide +kernel
theorem dX7_restore_2 : decode cX7_restore 2 = .ok (.iconst 1, 1) := by decide +kernel
theorem dX7_restore_3 : decode cX7_restore 3 = .ok (.invokestatic 50, 3) := by decide +kernel
theorem dX7_restore_6 : decode cX7_restore 6 = .ok (.ifCond .ne 6, 3) := by decide +kernel
theorem dX7_restore_9 : decode cX7_restore 9 = .ok (.ldc 69, 2) := by decide +kernel
theorem dX7_restore_11 : decode cX7_restore 11 = .ok (.ireturn, 1) := by decide +kernel
theorem dX7_restore_12 : decode cX7_restore 12 = .ok (.aload_n 0, 1) := by decide +kernel
theorem dX7_restore_13 : decode cX7_restore 13 = .ok (.getfield 30, 3) := by decide +kernel
theorem dX7_restore_16 : decode cX7_restore 16 = .ok (.iload_n 1, 1) := by decide +kernel
theorem dX7_restore_17 : decode cX7_restore 17 = .ok (.baload, 1) := by decide +kernel
theorem dX7_restore_18 : decode cX7_restore 18 = .ok (.ifCond .ne 6, 3) := by decide +kernel
theorem dX7_restore_21 : decode cX7_restore 21 = .ok (.ldc 245, 2) := by decide +kernel
theorem dX7_restore_23 : decode cX7_restore 23 = .ok (.ireturn, 1) := by decide +kernel
theorem dX7_restore_24 : decode cX7_restore 24 = .ok (.aload_n 0, 1) := by decide +kernel
theorem dX7_restore_25 : decode cX7_restore 25 = .ok (.getfield 22, 3) := by decide +kernel
theorem dX7_restore_28 : decode cX7_restore 28 = .ok (.aload_n 0, 1) := by decide +kernel
theorem dX7_restore_29 : decode cX7_restore 29 = .ok (.getfield 10, 3) := by decide +kernel
theorem dX7_restore_32 : decode cX7_restore 32 = .ok (.invokevirtual 54, 3) := by decide +kernel
theorem dX7_restore_35 : decode cX7_restore 35 = .ok (.aload_n 0, 1) := by decide +kernel
theorem dX7_restore_36 : decode cX7_restore 36 = .ok (.getfield 10, 3) := by decide +kernel
theorem dX7_restore_39 : decode cX7_restore 39 = .ok (.aload_n 0, 1) := by decide +kernel
theorem dX7_restore_40 : decode cX7_restore 40 = .ok (.getfield 26, 3) := by decide +kernel
theorem dX7_restore_43 : decode cX7_restore 43 = .ok (.iload_n 1, 1) := by decide +kernel
theorem dX7_restore_44 : decode cX7_restore 44 = .ok (.aaload, 1) := by decide +kernel
theorem dX7_restore_45 : decode cX7_restore 45 = .ok (.invokevirtual 213, 3) := by decide +kernel
theorem dX7_restore_48 : decode cX7_restore 48 = .ok (.aload_n 0, 1) := by decide +kernel
theorem dX7_restore_49 : decode cX7_restore 49 = .ok (.getfield 10, 3) := by decide +kernel
theorem dX7_restore_52 : decode cX7_restore 52 = .ok (.getfield 198, 3) := by decide +kernel
theorem dX7_restore_55 : decode cX7_restore 55 = .ok (.ireturn, 1) := by decide +kernel
theorem dX7_within_0 : decode cX7_within 0 = .ok (.iload_n 0, 1) := by decide +kernel
theorem dX7_within_1 : decode cX7_within 1 = .ok (.iload_n 1, 1) := by decide +kernel
theorem dX7_within_2 : decode cX7_within 2 = .ok (.if_icmp .lt 12, 3) := by decide +kernel
theorem dX7_within_5 : decode cX7_within 5 = .ok (.iload_n 0, 1) := by decide +kernel
theorem dX7_within_6 : decode cX7_within 6 = .ok (.iload_n 2, 1) := by decide +kernel
theorem dX7_within_7 : decode cX7_within 7 = .ok (.if_icmp .gt 7, 3) := by decide +kernel
theorem dX7_within_10 : decode cX7_within 10 = .ok (.iconst 1, 1) := by decide +kernel
theorem dX7_within_11 : decode cX7_within 11 = .ok (.goto 4, 3) := by decide +kernel
theorem dX7_within_14 : decode cX7_within 14 = .ok (.iconst 0, 1) := by decide +kernel
theorem dX7_within_15 : decode cX7_within 15 = .ok (.ireturn, 1) := by decide +kernel
theorem dX7_obeyOrder_0 : decode cX7_obeyOrder 0 = .ok (.aload_n 0, 1) := by decide +kernel
theorem dX7_obeyOrder_1 : decode cX7_obeyOrder 1 = .ok (.getfield 46, 3) := by decide +kernel
theorem dX7_obeyOrder_4 : decode cX7_obeyOrder 4 = .ok (.getfield 246, 3) := by decide +kernel
theorem dX7_obeyOrder_7 : decode cX7_obeyOrder 7 = .ok (.bipush 115, 2) := by decide +kernel
theorem dX7_obeyOrder_9 : decode cX7_obeyOrder 9 = .ok (.if_icmp .ne 26, 3) := by decide +kernel
theorem dX7_obeyOrder_12 : decode cX7_obeyOrder 12 = .ok (.aload_n 0, 1) := by decide +kernel
theorem dX7_obeyOrder_13 : decode cX7_obeyOrder 13 = .ok (.getfield 10, 3) := by decide +kernel
theorem dX7_obeyOrder_16 : decode cX7_obeyOrder 16 = .ok (.aload_n 0, 1) := by decide +kernel
theorem dX7_obeyOrder_17 : decode cX7_obeyOrder 17 = .ok (.getfield 46, 3) := by decide +kernel
theorem dX7_obeyOrder_20 : decode cX7_obeyOrder 20 = .ok (.getfield 250, 3) := by decide +kernel
theorem dX7_obeyOrder_23 : decode cX7_obeyOrder 23 = .ok (.invokevirtual 105, 3) := by decide +kernel
theorem dX7_obeyOrder_26 : decode cX7_obeyOrder 26 = .ok (.ifCond .lt 7, 3) := by decide +kernel
theorem dX7_obeyOrder_29 : decode cX7_obeyOrder 29 = .ok (.iconst 1, 1) := by decide +kernel
theorem dX7_obeyOrder_30 : decode cX7_obeyOrder 30 = .ok (.goto 4, 3) := by decide +kernel
theorem dX7_obeyOrder_33 : decode cX7_obeyOrder 33 = .ok (.iconst 0, 1) := by decide +kernel
theorem dX7_obeyOrder_34 : decode cX7_obeyOrder 34 = .ok (.ireturn, 1) := by decide +kernel
theorem dX7_obeyOrder_35 : decode cX7_obeyOrder 35 = .ok (.aload_n 0, 1) := by decide +kernel
theorem dX7_obeyOrder_36 : decode cX7_obeyOrder 36 = .ok (.getfield 10, 3) := by decide +kernel
theorem dX7_obeyOrder_39 : decode cX7_obeyOrder 39 = .ok (.aload_n 0, 1) := by decide +kernel
theorem dX7_obeyOrder_40 : decode cX7_obeyOrder 40 = .ok (.getfield 46, 3) := by decide +kernel
theorem dX7_obeyOrder_43 : decode cX7_obeyOrder 43 = .ok (.getfield 251, 3) := by decide +kernel
theorem dX7_obeyOrder_46 : decode cX7_obeyOrder 46 = .ok (.invokevirtual 92, 3) := by decide +kernel
theorem dX7_obeyOrder_49 : decode cX7_obeyOrder 49 = .ok (.ifCond .ne 5, 3) := by decide +kernel
theorem dX7_obeyOrder_52 : decode cX7_obeyOrder 52 = .ok (.iconst 0, 1) := by decide +kernel
theorem dX7_obeyOrder_53 : decode cX7_obeyOrder 53 = .ok (.ireturn, 1) := by decide +kernel
theorem dX7_obeyOrder_54 : decode cX7_obeyOrder 54 = .ok (.aload_n 0, 1) := by decide +kernel
theorem dX7_obeyOrder_55 : decode cX7_obeyOrder 55 = .ok (.getfield 10, 3) := by decide +kernel
theorem dX7_obeyOrder_58 : decode cX7_obeyOrder 58 = .ok (.aload_n 0, 1) := by decide +kernel
theorem dX7_obeyOrder_59 : decode cX7_obeyOrder 59 = .ok (.getfield 46, 3) := by decide +kernel
theorem dX7_obeyOrder_62 : decode cX7_obeyOrder 62 = .ok (.getfield 252, 3) := by decide +kernel
theorem dX7_obeyOrder_65 : decode cX7_obeyOrder 65 = .ok (.aload_n 0, 1) := by decide +kernel
theorem dX7_obeyOrder_66 : decode cX7_obeyOrder 66 = .ok (.getfield 46, 3) := by decide +kernel
theorem dX7_obeyOrder_69 : decode cX7_obeyOrder 69 = .ok (.getfield 251, 3) := by decide +kernel
theorem dX7_obeyOrder_72 : decode cX7_obeyOrder 72 = .ok (.invokevirtual 97, 3) := by decide +kernel
theorem dX7_obeyOrder_75 : decode cX7_obeyOrder 75 = .ok (.pop, 1) := by decide +kernel
theorem dX7_obeyOrder_76 : decode cX7_obeyOrder 76 = .ok (.iconst 1, 1) := by decide +kernel
theorem dX7_obeyOrder_77 : decode cX7_obeyOrder 77 = .ok (.ireturn, 1) := by decide +kernel
theorem dX7_charactersIn_0 : decode cX7_charactersIn 0 = .ok (.iconst 0, 1) := by decide +kernel
theorem dX7_charactersIn_1 : decode cX7_charactersIn 1 = .ok (.istore_n 2, 1) := by decide +kernel
theorem dX7_charactersIn_2 : decode cX7_charactersIn 2 = .ok (.iload_n 2, 1) := by decide +kernel
theorem dX7_charactersIn_3 : decode cX7_charactersIn 3 = .ok (.bipush 8, 2) := by decide +kernel
theorem dX7_charactersIn_5 : decode cX7_charactersIn 5 = .ok (.if_icmp .ge 34, 3) := by decide +kernel
theorem dX7_charactersIn_8 : decode cX7_charactersIn 8 = .ok (.lload_n 0, 1) := by decide +kernel
theorem dX7_charactersIn_9 : decode cX7_charactersIn 9 = .ok (.iload_n 2, 1) := by decide +kernel
theorem dX7_charactersIn_10 : decode cX7_charactersIn 10 = .ok (.invokestatic 233, 3) := by decide +kernel
theorem dX7_charactersIn_13 : decode cX7_charactersIn 13 = .ok (.ifCond .eq 26, 3) := by decide +kernel
theorem dX7_charactersIn_16 : decode cX7_charactersIn 16 = .ok (.lload_n 0, 1) := by decide +kernel
theorem dX7_charactersIn_17 : decode cX7_charactersIn 17 = .ok (.iload_n 2, 1) := by decide +kernel
theorem dX7_charactersIn_18 : decode cX7_charactersIn 18 = .ok (.invokestatic 233, 3) := by decide +kernel
theorem dX7_charactersIn_21 : decode cX7_charactersIn 21 = .ok (.bipush 33, 2) := by decide +kernel
theorem dX7_charactersIn_23 : decode cX7_charactersIn 23 = .ok (.bipush 126, 2) := by decide +kernel
theorem dX7_charactersIn_25 : decode cX7_charactersIn 25 = .ok (.invokestatic 50, 3) := by decide +kernel
theorem dX7_charactersIn_28 : decode cX7_charactersIn 28 = .ok (.ifCond .ne 5, 3) := by decide +kernel
theorem dX7_charactersIn_31 : decode cX7_charactersIn 31 = .ok (.iconst 0, 1) := by decide +kernel
theorem dX7_charactersIn_32 : decode cX7_charactersIn 32 = .ok (.ireturn, 1) := by decide +kernel
theorem dX7_charactersIn_33 : decode cX7_charactersIn 33 = .ok (.iinc 2 1, 3) := by decide +kernel
theorem dX7_charactersIn_36 : decode cX7_charactersIn 36 = .ok (.goto (-34), 3) := by decide +kernel
theorem dX7_charactersIn_39 : decode cX7_charactersIn 39 = .ok (.iload_n 2, 1) := by decide +kernel
theorem dX7_charactersIn_40 : decode cX7_charactersIn 40 = .ok (.bipush 8, 2) := by decide +kernel
theorem dX7_charactersIn_42 : decode cX7_charactersIn 42 = .ok (.if_icmp .eq 14, 3) := by decide +kernel
theorem dX7_charactersIn_45 : decode cX7_charactersIn 45 = .ok (.lload_n 0, 1) := by decide +kernel
theorem dX7_charactersIn_46 : decode cX7_charactersIn 46 = .ok (.bipush 8, 2) := by decide +kernel
theorem dX7_charactersIn_48 : decode cX7_charactersIn 48 = .ok (.iload_n 2, 1) := by decide +kernel
theorem dX7_charactersIn_49 : decode cX7_charactersIn 49 = .ok (.imul, 1) := by decide +kernel
theorem dX7_charactersIn_50 : decode cX7_charactersIn 50 = .ok (.lushr, 1) := by decide +kernel
theorem dX7_charactersIn_51 : decode cX7_charactersIn 51 = .ok (.lconst 0, 1) := by decide +kernel
theorem dX7_charactersIn_52 : decode cX7_charactersIn 52 = .ok (.lcmp, 1) := by decide +kernel
theorem dX7_charactersIn_53 : decode cX7_charactersIn 53 = .ok (.ifCond .ne 7, 3) := by decide +kernel
theorem dX7_charactersIn_56 : decode cX7_charactersIn 56 = .ok (.iconst 1, 1) := by decide +kernel
theorem dX7_charactersIn_57 : decode cX7_charactersIn 57 = .ok (.goto 4, 3) := by decide +kernel
theorem dX7_charactersIn_60 : decode cX7_charactersIn 60 = .ok (.iconst 0, 1) := by decide +kernel
theorem dX7_charactersIn_61 : decode cX7_charactersIn 61 = .ok (.istore_n 3, 1) := by decide +kernel
theorem dX7_charactersIn_62 : decode cX7_charactersIn 62 = .ok (.iload_n 3, 1) := by decide +kernel
theorem dX7_charactersIn_63 : decode cX7_charactersIn 63 = .ok (.ifCond .eq 7, 3) := by decide +kernel
theorem dX7_charactersIn_66 : decode cX7_charactersIn 66 = .ok (.iload_n 2, 1) := by decide +kernel
theorem dX7_charactersIn_67 : decode cX7_charactersIn 67 = .ok (.goto 4, 3) := by decide +kernel
theorem dX7_charactersIn_70 : decode cX7_charactersIn 70 = .ok (.iconst 0, 1) := by decide +kernel
theorem dX7_charactersIn_71 : decode cX7_charactersIn 71 = .ok (.ireturn, 1) := by decide +kernel
theorem dX7_codeAt_0 : decode cX7_codeAt 0 = .ok (.lload_n 0, 1) := by decide +kernel
theorem dX7_codeAt_1 : decode cX7_codeAt 1 = .ok (.bipush 8, 2) := by decide +kernel
theorem dX7_codeAt_3 : decode cX7_codeAt 3 = .ok (.iload_n 2, 1) := by decide +kernel
theorem dX7_codeAt_4 : decode cX7_codeAt 4 = .ok (.imul, 1) := by decide +kernel
theorem dX7_codeAt_5 : decode cX7_codeAt 5 = .ok (.lushr, 1) := by decide +kernel
theorem dX7_codeAt_6 : decode cX7_codeAt 6 = .ok (.l2i, 1) := by decide +kernel
theorem dX7_codeAt_7 : decode cX7_codeAt 7 = .ok (.sipush 255, 3) := by decide +kernel
theorem dX7_codeAt_10 : decode cX7_codeAt 10 = .ok (.iand, 1) := by decide +kernel
theorem dX7_codeAt_11 : decode cX7_codeAt 11 = .ok (.ireturn, 1) := by decide +kernel
/-! THE PAD AND ITS READER: three cells in a row: the pad a, its signs a+1, the reader a+2 (at, kind, amount, hours, gauge) -/
def RepT (g : GG) (A : Nat → Prop) (M : MM) (a : Nat) (f : Nat → Int32) (len : Int32) (rs : Nat → Int32) : Prop :=
  A a ∧ A (a + 1) ∧ A (a + 2) ∧ M a = .inr (3, [.ref (a + 1), .int len]) ∧ M (a + 1) = .inl (g.2 0, 60, .inl f) ∧ M (a + 2) = .inr (2, [.ref a, .int (rs 0), .int (rs 1), .int (rs 2), .int (rs 3), .int (rs 4)])
def FrT (a : Nat) (M0 M : MM) : Prop := ∀ q, ¬ (a ≤ q ∧ q < a + 3) → M q = M0 q
theorem FrT.rf {a : Nat} {M : MM} : FrT a M M := fun _ _ => rfl
theorem FrT.tr {a : Nat} {M0 M1 M2 : MM} (h1 : FrT a M0 M1) (h2 : FrT a M1 M2) : FrT a M0 M2 := fun q h => (h2 q h).trans (h1 q h)
theorem FrT.up {a : Nat} {M0 M : MM} (hF : FrT a M0 M) {q : Nat} {e : va_E} (h1 : a ≤ q) (h2 : q < a + 3) : FrT a M0 (va_up M q e) := fun z h => by
  rw [va_up_ne _ _ (by omega)]
  exact hF z h
theorem RepT.agr {g : GG} {A : Nat → Prop} {M M1 : MM} {a : Nat} {f : Nat → Int32} {len : Int32} {rs : Nat → Int32} (h : RepT g A M a f len rs) (ha : ∀ q, a ≤ q → q < a + 3 → M1 q = M q) : RepT g A M1 a f len rs := by
  obtain ⟨h1, h2, h3, h4, h5, h6⟩ := h
  exact ⟨h1, h2, h3, by rw [ha _ (by omega) (by omega)]; exact h4, by rw [ha _ (by omega) (by omega)]; exact h5, by rw [ha _ (by omega) (by omega)]; exact h6⟩
theorem RepT.eqr {g : GG} {A : Nat → Prop} {M : MM} {a : Nat} {f : Nat → Int32} {len : Int32} {rs rs1 : Nat → Int32} (h : RepT g A M a f len rs) (e : rs1 = rs) : RepT g A M a f len rs1 := by rw [e]; exact h
theorem RepT.eql {g : GG} {A : Nat → Prop} {M : MM} {a : Nat} {f f1 : Nat → Int32} {len len1 : Int32} {rs : Nat → Int32} (h : RepT g A M a f len rs) (e : len1 = len) (e2 : f1 = f) : RepT g A M a f1 len1 rs := by rw [e, e2]; exact h
section TROWS
variable {p : Program} {l : Launch} {e : Env} {R : Room} {s : State} {m : MethodId} {args : Array Value} {below : List Frame} {meth : Method} {c : Code} {H H0 : Heap} {locs : List Loc} {cells slots : Nat} {Q : State → Prop} {cc : ByteArray} {pc : Nat} {ls : Array Slot} {rest : List Value} {g : GG} {A : Nat → Prop} {M M0 : MM} {own : String} {index : Nat} {Ts : List Cond} {a : Nat} {f : Nat → Int32} {len : Int32} {rs : Nat → Int32}
theorem rt_getPs (hx : p.tables.exec = Jvm.exec) (hb : c.code = cc) (hts : ∀ w ∈ Ts, w.before args s = true) (hin : ∀ w ∈ u_ws RX3 TX3 2, w ∈ Ts) (hown : s.vm.findClass own = some m.cls) (hK : KK g s) (hM : HD g A M H) (hR : RepT g A M a f len rs) (hlink : (Cond.fieldLink own index (TX3 0).1 (TX3 0).2.1 (TX3 0).2.2.1).before args s = true) (hdg : decode cc pc = .ok (.getfield index, 3)) (kk : W p l e R s m args below meth c H locs cells slots Q (F0 m (pc + 3) ls (.ref (a + 1) :: rest))) : W p l e R s m args below meth c H locs cells slots Q (F0 m (pc) ls (.ref (a) :: rest)) :=
  m_get (ci := 3) (C := RX3) (T := TX3) (N := 2) hx hb hts hin hown hK hM hR.1 hR.2.2.2.1 rfl 0 (by decide) hlink rfl hdg kk
theorem rt_getPl (hx : p.tables.exec = Jvm.exec) (hb : c.code = cc) (hts : ∀ w ∈ Ts, w.before args s = true) (hin : ∀ w ∈ u_ws RX3 TX3 2, w ∈ Ts) (hown : s.vm.findClass own = some m.cls) (hK : KK g s) (hM : HD g A M H) (hR : RepT g A M a f len rs) (hlink : (Cond.fieldLink own index (TX3 1).1 (TX3 1).2.1 (TX3 1).2.2.1).before args s = true) (hdg : decode cc pc = .ok (.getfield index, 3)) (kk : W p l e R s m args below meth c H locs cells slots Q (F0 m (pc + 3) ls (.int len :: rest))) : W p l e R s m args below meth c H locs cells slots Q (F0 m (pc) ls (.ref (a) :: rest)) :=
  m_get (ci := 3) (C := RX3) (T := TX3) (N := 2) hx hb hts hin hown hK hM hR.1 hR.2.2.2.1 rfl 1 (by decide) hlink rfl hdg kk
theorem rt_getDp (hx : p.tables.exec = Jvm.exec) (hb : c.code = cc) (hts : ∀ w ∈ Ts, w.before args s = true) (hin : ∀ w ∈ u_ws RX2 TX2 6, w ∈ Ts) (hown : s.vm.findClass own = some m.cls) (hK : KK g s) (hM : HD g A M H) (hR : RepT g A M a f len rs) (hlink : (Cond.fieldLink own index (TX2 0).1 (TX2 0).2.1 (TX2 0).2.2.1).before args s = true) (hdg : decode cc pc = .ok (.getfield index, 3)) (kk : W p l e R s m args below meth c H locs cells slots Q (F0 m (pc + 3) ls (.ref a :: rest))) : W p l e R s m args below meth c H locs cells slots Q (F0 m (pc) ls (.ref (a + 2) :: rest)) :=
  m_get (ci := 2) (C := RX2) (T := TX2) (N := 6) hx hb hts hin hown hK hM hR.2.2.1 hR.2.2.2.2.2 rfl 0 (by decide) hlink rfl hdg kk
theorem rt_getD (hx : p.tables.exec = Jvm.exec) (hb : c.code = cc) (hts : ∀ w ∈ Ts, w.before args s = true) (hin : ∀ w ∈ u_ws RX2 TX2 6, w ∈ Ts) (hown : s.vm.findClass own = some m.cls) (hK : KK g s) (hM : HD g A M H) (hR : RepT g A M a f len rs) (k : Nat) (hk : k < 5) (hlink : (Cond.fieldLink own index (TX2 (k + 1)).1 (TX2 (k + 1)).2.1 (TX2 (k + 1)).2.2.1).before args s = true) (hdg : decode cc pc = .ok (.getfield index, 3)) (kk : W p l e R s m args below meth c H locs cells slots Q (F0 m (pc + 3) ls (.int (rs k) :: rest))) : W p l e R s m args below meth c H locs cells slots Q (F0 m (pc) ls (.ref (a + 2) :: rest)) :=
  m_get (ci := 2) (C := RX2) (T := TX2) (N := 6) hx hb hts hin hown hK hM hR.2.2.1 hR.2.2.2.2.2 rfl (k + 1) (by omega) hlink (by match k, hk with
    | 0, _ => rfl
    | 1, _ => rfl
    | 2, _ => rfl
    | 3, _ => rfl
    | 4, _ => rfl) hdg kk
theorem rt_putD (hx : p.tables.exec = Jvm.exec) (hb : c.code = cc) (hts : ∀ w ∈ Ts, w.before args s = true) (hin : ∀ w ∈ u_ws RX2 TX2 6, w ∈ Ts) (hown : s.vm.findClass own = some m.cls) (hK : KK g s) (hM : HD g A M H) (hS : va_S A H0 H locs) (hR : RepT g A M a f len rs) (hF : FrT a M0 M) (k : Nat) (hk : k < 5) (hk1 : k ≠ 1) (hlink : (Cond.fieldLink own index (TX2 (k + 1)).1 (TX2 (k + 1)).2.1 (TX2 (k + 1)).2.2.1).before args s = true) {x : Int32} (hdg : decode cc pc = .ok (.putfield index, 3)) (kk : ∀ (M1 : MM) (H1 : Heap) (locs1 : List Loc), HD g A M1 H1 → RepT g A M1 a f len (va_up rs k x) → FrT a M0 M1 → va_S A H0 H1 locs1 → W p l e R s m args below meth c H1 locs1 cells slots Q (F0 m (pc + 3) ls rest)) : W p l e R s m args below meth c H locs cells slots Q (F0 m (pc) ls (.int x :: .ref (a + 2) :: rest)) := by
  have e1 : (TX2 (k + 1)).2.2.2 = false ∧ tyX2 (k + 1) = .int := by
    match k, hk, hk1 with
    | 0, _, _ => exact ⟨rfl, rfl⟩
    | 2, _, _ => exact ⟨rfl, rfl⟩
    | 3, _, _ => exact ⟨rfl, rfl⟩
    | 4, _, _ => exact ⟨rfl, rfl⟩
  refine m_put (ci := 2) (C := RX2) (T := TX2) (N := 6) hx hb hts hin tyX2 tyX2_ok nmX2 hown hK hM hS hR.2.2.1 hR.2.2.2.2.2 rfl (k + 1) (by omega) hlink e1.1 (by rw [e1.2]; rfl) (by rw [e1.2]; rfl) (by simp; omega) hdg (fun H1 locs1 hM1 hS1 => ?_)
  have e2 : (Sum.inr (2, ([.ref a, .int (rs 0), .int (rs 1), .int (rs 2), .int (rs 3), .int (rs 4)] : List Value).set (k + 1) (.int x)) : va_E) = .inr (2, [.ref a, .int (va_up rs k x 0), .int (va_up rs k x 1), .int (va_up rs k x 2), .int (va_up rs k x 3), .int (va_up rs k x 4)]) := by
    match k, hk with
    | 0, _ => rfl
    | 1, _ => rfl
    | 2, _ => rfl
    | 3, _ => rfl
    | 4, _ => rfl
  rw [e2] at hM1
  obtain ⟨h1, h2, h3, h4, h5, h6⟩ := hR
  exact kk _ H1 locs1 hM1 ⟨h1, h2, h3, by rw [va_up_ne _ _ (by omega)]; exact h4, by rw [va_up_ne _ _ (by omega)]; exact h5, va_up_self _ _ _⟩ (hF.up (by omega) (by omega)) hS1
theorem rt_putDk (hx : p.tables.exec = Jvm.exec) (hb : c.code = cc) (hts : ∀ w ∈ Ts, w.before args s = true) (hin : ∀ w ∈ u_ws RX2 TX2 6, w ∈ Ts) (hown : s.vm.findClass own = some m.cls) (hK : KK g s) (hM : HD g A M H) (hS : va_S A H0 H locs) (hR : RepT g A M a f len rs) (hF : FrT a M0 M) (hlink : (Cond.fieldLink own index (TX2 2).1 (TX2 2).2.1 (TX2 2).2.2.1).before args s = true) {x : Int32} (hch : narrow .char (.int x) = .int x ∧ fits .char (.int x) = true) (hdg : decode cc pc = .ok (.putfield index, 3)) (kk : ∀ (M1 : MM) (H1 : Heap) (locs1 : List Loc), HD g A M1 H1 → RepT g A M1 a f len (va_up rs 1 x) → FrT a M0 M1 → va_S A H0 H1 locs1 → W p l e R s m args below meth c H1 locs1 cells slots Q (F0 m (pc + 3) ls rest)) : W p l e R s m args below meth c H locs cells slots Q (F0 m (pc) ls (.int x :: .ref (a + 2) :: rest)) := by
  refine m_put (ci := 2) (C := RX2) (T := TX2) (N := 6) hx hb hts hin tyX2 tyX2_ok nmX2 hown hK hM hS hR.2.2.1 hR.2.2.2.2.2 rfl 2 (by decide) hlink rfl hch.1 hch.2 (Nat.le_of_ble_eq_true rfl) hdg (fun H1 locs1 hM1 hS1 => ?_)
  have e2 : (Sum.inr (2, ([.ref a, .int (rs 0), .int (rs 1), .int (rs 2), .int (rs 3), .int (rs 4)] : List Value).set 2 (.int x)) : va_E) = .inr (2, [.ref a, .int (va_up rs 1 x 0), .int (va_up rs 1 x 1), .int (va_up rs 1 x 2), .int (va_up rs 1 x 3), .int (va_up rs 1 x 4)]) := rfl
  rw [e2] at hM1
  obtain ⟨h1, h2, h3, h4, h5, h6⟩ := hR
  exact kk _ H1 locs1 hM1 ⟨h1, h2, h3, by rw [va_up_ne _ _ (by omega)]; exact h4, by rw [va_up_ne _ _ (by omega)]; exact h5, va_up_self _ _ _⟩ (hF.up (by omega) (by omega)) hS1
theorem rt_putPl (hx : p.tables.exec = Jvm.exec) (hb : c.code = cc) (hts : ∀ w ∈ Ts, w.before args s = true) (hin : ∀ w ∈ u_ws RX3 TX3 2, w ∈ Ts) (hown : s.vm.findClass own = some m.cls) (hK : KK g s) (hM : HD g A M H) (hS : va_S A H0 H locs) (hR : RepT g A M a f len rs) (hF : FrT a M0 M) (hlink : (Cond.fieldLink own index (TX3 1).1 (TX3 1).2.1 (TX3 1).2.2.1).before args s = true) {x : Int32} (hdg : decode cc pc = .ok (.putfield index, 3)) (kk : ∀ (M1 : MM) (H1 : Heap) (locs1 : List Loc), HD g A M1 H1 → RepT g A M1 a f x rs → FrT a M0 M1 → va_S A H0 H1 locs1 → W p l e R s m args below meth c H1 locs1 cells slots Q (F0 m (pc + 3) ls rest)) : W p l e R s m args below meth c H locs cells slots Q (F0 m (pc) ls (.int x :: .ref a :: rest)) := by
  refine m_put (ci := 3) (C := RX3) (T := TX3) (N := 2) hx hb hts hin tyX3 tyX3_ok nmX3 hown hK hM hS hR.1 hR.2.2.2.1 rfl 1 (by decide) hlink rfl rfl rfl (Nat.le_of_ble_eq_true rfl) hdg (fun H1 locs1 hM1 hS1 => ?_)
  obtain ⟨h1, h2, h3, h4, h5, h6⟩ := hR
  exact kk _ H1 locs1 hM1 ⟨h1, h2, h3, va_up_self _ _ _, by rw [va_up_ne _ _ (by omega)]; exact h5, by rw [va_up_ne _ _ (by omega)]; exact h6⟩ (hF.up (by omega) (by omega)) hS1
theorem rt_lenS (hx : p.tables.exec = Jvm.exec) (hb : c.code = cc) (hK : KK g s) (hM : HD g A M H) (hR : RepT g A M a f len rs) (hdg : decode cc pc = .ok (.arraylength, 1)) (kk : W p l e R s m args below meth c H locs cells slots Q (F0 m (pc + 1) ls (.int (nI 60) :: rest))) : W p l e R s m args below meth c H locs cells slots Q (F0 m (pc) ls (.ref (a + 1) :: rest)) :=
  m_alen hx hb hK hM hR.2.1 0 hR.2.2.2.2.1 rfl rfl hdg kk
theorem rt_cald (hx : p.tables.exec = Jvm.exec) (hb : c.code = cc) (hK : KK g s) (hM : HD g A M H) (hR : RepT g A M a f len rs) {i : Nat} (hi : i < 60) (hdg : decode cc pc = .ok (.caload, 1)) (kk : W p l e R s m args below meth c H locs cells slots Q (F0 m (pc + 1) ls (.int (f i) :: rest))) : W p l e R s m args below meth c H locs cells slots Q (F0 m (pc) ls (.int (nI i) :: .ref (a + 1) :: rest)) := by
  refine m_cald hx hb hK hM hR.2.1 hR.2.2.2.2.1 (vp_in_nI hi (by omega)) hdg ?_
  rw [nI_clamp (by omega)]
  exact kk
theorem rt_cast (hx : p.tables.exec = Jvm.exec) (hb : c.code = cc) (hK : KK g s) (hM : HD g A M H) (hS : va_S A H0 H locs) (hR : RepT g A M a f len rs) (hF : FrT a M0 M) {i : Nat} (hi : i < 60) {x : Int32} (hdg : decode cc pc = .ok (.castore, 1)) (kk : ∀ (M1 : MM) (H1 : Heap) (locs1 : List Loc), HD g A M1 H1 → RepT g A M1 a (va_up f i (vp_nar .char x)) len rs → FrT a M0 M1 → va_S A H0 H1 locs1 → W p l e R s m args below meth c H1 locs1 cells slots Q (F0 m (pc + 1) ls rest)) : W p l e R s m args below meth c H locs cells slots Q (F0 m (pc) ls (.int x :: .int (nI i) :: .ref (a + 1) :: rest)) := by
  refine m_cast hx hb hK hM hS hR.2.1 hR.2.2.2.2.1 (vp_in_nI hi (by omega)) hdg (fun H1 locs1 hM1 hS1 => ?_)
  rw [nI_clamp (show i < 2 ^ 31 by omega)] at hM1
  obtain ⟨h1, h2, h3, h4, h5, h6⟩ := hR
  exact kk _ H1 locs1 hM1 ⟨h1, h2, h3, by rw [va_up_ne _ _ (by omega)]; exact h4, va_up_self _ _ _, by rw [va_up_ne _ _ (by omega)]; exact h6⟩ (hF.up (by omega) (by omega)) hS1
end TROWS
/-! what is read -/
def sgC (f : Nat → Int32) (L q : Nat) : Int32 := if q < L then f q else 0
def dgC (f : Nat → Int32) (L q : Nat) : Int32 := if 48 ≤ sgC f L q ∧ sgC f L q ≤ 57 then sgC f L q - 48 else -1
def rnC (f : Nat → Int32) (L q : Nat) (lo hi : Int32) : Int32 × Nat :=
  if dgC f L q < lo ∨ hi < dgC f L q then (-1, q)
  else if dgC f L q = 0 ∨ dgC f L (q + 1) < 0 then (dgC f L q, q + 1)
  else if hi < 10 * dgC f L q + dgC f L (q + 1) then (-1, q + 1)
  else (10 * dgC f L q + dgC f L (q + 1), q + 2)
theorem rnC_q (f : Nat → Int32) (L q : Nat) (lo hi : Int32) : (rnC f L q lo hi).2 ≤ q + 2 := by
  unfold rnC
  split
  · exact Nat.le_add_right _ _
  · split
    · exact Nat.le_succ _
    · split
      · exact Nat.le_succ _
      · exact Nat.le_refl _
def raiC (f : Nat → Int32) (L q : Nat) : Bool × Nat × Int32 × Int32 :=
  if (rnC f L q 0 99).1 < 0 ∨ ¬ sgC f L (rnC f L q 0 99).2 = 104 then (false, (rnC f L q 0 99).2, 0, 0)
  else (decide (0 ≤ (rnC f L ((rnC f L q 0 99).2 + 1) 1 24).1), (rnC f L ((rnC f L q 0 99).2 + 1) 1 24).2, (rnC f L q 0 99).1, (rnC f L ((rnC f L q 0 99).2 + 1) 1 24).1)
/-- an order: whether it can be read, where it ends (or the fault), its kind, its numbers -/
def ordC (f : Nat → Int32) (L q : Nat) : Bool × Nat × Int32 × Int32 × Int32 :=
  if sgC f L q = 114 then ((raiC f L (q + 1)).1, (raiC f L (q + 1)).2.1, 114, (raiC f L (q + 1)).2.2.1, (raiC f L (q + 1)).2.2.2)
  else if sgC f L q = 115 then (decide (0 ≤ (rnC f L (q + 1) 0 5).1), (rnC f L (q + 1) 0 5).2, 115, (rnC f L (q + 1) 0 5).1, 0)
  else (false, q, 0, 0, 0)
/-- the fault from the order at q on, at most z orders: 60 and more if there is none -/
def fauC (f : Nat → Int32) (L : Nat) : Nat → Nat → Option Nat
  | 0, q => some q
  | z + 1, q => if (ordC f L q).1 = true then (if L ≤ (ordC f L q).2.1 then none else if sgC f L (ordC f L q).2.1 = 59 then fauC f L z ((ordC f L q).2.1 + 1) else some (ordC f L q).2.1) else some (ordC f L q).2.1
def codC (x : Int64) (p : Int32) : Int32 := ((x.toUInt64 >>> ((8 * p).toInt64.toUInt64 &&& Int64.toUInt64 63)).toInt64).toInt32 &&& 255
def shrC (x : Int64) (p : Int32) : Int64 := (x.toUInt64 >>> ((8 * p).toInt64.toUInt64 &&& Int64.toUInt64 63)).toInt64
def winC (x lo hi : Int32) : Int32 := if lo ≤ x ∧ x ≤ hi then 1 else 0
/-- the characters of a number: none if a code is out of range -/
def chW (x : Int64) : Nat → Nat → Option Nat
  | 0, p => some p
  | z + 1, p => if codC x (nI p) = 0 then some p else if winC (codC x (nI p)) 33 126 = 0 then none else chW x z (p + 1)
def chC (x : Int64) : Int32 := match chW x 8 0 with
  | none => 0
  | some p => if p = 8 ∨ shrC x (nI p) = 0 then nI p else 0
theorem chW_le (x : Int64) : ∀ (z p q : Nat), chW x z p = some q → p ≤ q ∧ q ≤ p + z := by
  intro z
  induction z with
  | zero => intro p q h; cases h; exact ⟨Nat.le_refl _, Nat.le_refl _⟩
  | succ z ih =>
    intro p q h
    unfold chW at h
    split at h
    · cases h; omega
    · split at h
      · cases h
      · have := ih _ _ h; omega
end
section
theorem nar_ite {P : Prop} [Decidable P] : narrow .boolean (.int (if P then (1 : Int32) else 0)) = .int (if P then (1 : Int32) else 0) := by
  by_cases h : P
  · rw [if_pos h]; rfl
  · rw [if_neg h]; rfl
theorem rs_same {rs : Nat → Int32} {q : Nat} (h : rs 0 = nI q) : va_up rs 0 (nI q) = rs := by
  funext j
  unfold va_up
  by_cases hj : j = 0
  · rw [if_pos hj, hj, h]
  · rw [if_neg hj]
theorem rs_one {rs : Nat → Int32} {q : Nat} (h : rs 0 = nI q) : va_up rs 0 (nI (q + 1)) = va_up rs 0 (rs 0 + 1) := by rw [h, nI_1]
theorem rs_two {rs : Nat → Int32} {q : Nat} (h : rs 0 = nI q) : va_up rs 0 (nI (q + 2)) = va_up (va_up rs 0 (rs 0 + 1)) 0 (va_up rs 0 (rs 0 + 1) 0 + 1) := by
  rw [va_upup, va_up_self, h, nI_1, nI_1]
section
variable {g : GG} {A : Nat → Prop} {M0 M1 : MM} {a : Nat} {f : Nat → Int32} {len : Int32} {rs : Nat → Int32} {L q : Nat} {lo hi : Int32}
theorem rn_end0 {r : Int32} {q' : Nat} (e : rnC f L q lo hi = (r, q')) (hR : RepT g A M1 a f len (va_up rs 0 (nI q'))) (hF : FrT a M0 M1) : r = (rnC f L q lo hi).1 ∧ RepT g A M1 a f len (va_up rs 0 (nI (rnC f L q lo hi).2)) ∧ FrT a M0 M1 := by
  rw [e]
  exact ⟨rfl, hR, hF⟩
theorem rn_a (c : dgC f L q < lo) : rnC f L q lo hi = (-1, q) := if_pos (Or.inl c)
theorem rn_b (c : ¬ dgC f L q ≤ hi) : rnC f L q lo hi = (-1, q) := if_pos (Or.inr (Int32.not_le.mp c))
theorem rn_c (c1 : ¬ dgC f L q < lo) (c2 : dgC f L q ≤ hi) (c3 : dgC f L q = 0) : rnC f L q lo hi = (dgC f L q, q + 1) := (if_neg (fun z => z.elim c1 (Int32.not_lt.mpr c2))).trans (if_pos (Or.inl c3))
theorem rn_d (c1 : ¬ dgC f L q < lo) (c2 : dgC f L q ≤ hi) (c4 : ¬ 0 ≤ dgC f L (q + 1)) : rnC f L q lo hi = (dgC f L q, q + 1) := (if_neg (fun z => z.elim c1 (Int32.not_lt.mpr c2))).trans (if_pos (Or.inr (Int32.not_le.mp c4)))
theorem rn_e (c1 : ¬ dgC f L q < lo) (c2 : dgC f L q ≤ hi) (c3 : ¬ dgC f L q = 0) (c4 : 0 ≤ dgC f L (q + 1)) (c5 : ¬ 10 * dgC f L q + dgC f L (q + 1) ≤ hi) : rnC f L q lo hi = (-1, q + 1) := (if_neg (fun z => z.elim c1 (Int32.not_lt.mpr c2))).trans ((if_neg (fun z => z.elim c3 (Int32.not_lt.mpr c4))).trans (if_pos (Int32.not_le.mp c5)))
theorem rn_f (c1 : ¬ dgC f L q < lo) (c2 : dgC f L q ≤ hi) (c3 : ¬ dgC f L q = 0) (c4 : 0 ≤ dgC f L (q + 1)) (c5 : 10 * dgC f L q + dgC f L (q + 1) ≤ hi) : rnC f L q lo hi = (10 * dgC f L q + dgC f L (q + 1), q + 2) := (if_neg (fun z => z.elim c1 (Int32.not_lt.mpr c2))).trans ((if_neg (fun z => z.elim c3 (Int32.not_lt.mpr c4))).trans (if_neg (Int32.not_lt.mpr c5)))
end
theorem win_y {x lo hi : Int32} (c : ¬ x < lo) (c2 : ¬ hi < x) : 1 = winC x lo hi := (if_pos (⟨Int32.not_lt.mp c, Int32.not_lt.mp c2⟩ : lo ≤ x ∧ x ≤ hi)).symm
theorem win_1 {x lo hi : Int32} (c : x < lo) : 0 = winC x lo hi := (if_neg (fun z : lo ≤ x ∧ x ≤ hi => absurd z.1 (Int32.not_le.mpr c))).symm
theorem win_2 {x lo hi : Int32} (c : hi < x) : 0 = winC x lo hi := (if_neg (fun z : lo ≤ x ∧ x ≤ hi => absurd z.2 (Int32.not_le.mpr c))).symm
section
variable {x : Int64} {q : Nat}
theorem chw_0 (h : 8 ≤ q) (h2 : q ≤ 8) : chW x (8 - q) q = some q := by
  rw [show 8 - q = 0 by omega]
  rfl
theorem chw_s (h : q < 8) : chW x (8 - q) q = if codC x (nI q) = 0 then some q else if winC (codC x (nI q)) 33 126 = 0 then none else chW x (8 - (q + 1)) (q + 1) := by
  rw [show 8 - q = (8 - (q + 1)) + 1 by omega]
  rfl
theorem chw_1 (h : q < 8) (c : codC x (nI q) = 0) : chW x (8 - q) q = some q := by rw [chw_s h, if_pos c]
theorem chw_2 (h : q < 8) (c : ¬ codC x (nI q) = 0) (c2 : winC (codC x (nI q)) 33 126 = 0) : chW x (8 - q) q = none := by rw [chw_s h, if_neg c, if_pos c2]
theorem chw_3 (h : q < 8) (c : ¬ codC x (nI q) = 0) (c2 : ¬ winC (codC x (nI q)) 33 126 = 0) : chW x (8 - (q + 1)) (q + 1) = chW x (8 - q) q := by rw [chw_s h, if_neg c, if_neg c2]
theorem chc_n (h : chW x 8 0 = none) : 0 = chC x := by unfold chC; rw [h]
theorem chc_s (h : chW x 8 0 = some q) : chC x = if q = 8 ∨ shrC x (nI q) = 0 then nI q else 0 := by unfold chC; rw [h]
theorem chc_q (h : chW x 8 0 = some q) : q ≤ 8 := by have := chW_le x 8 0 q h; omega
theorem chc_a (h : chW x 8 0 = some q) (c : nI q = 8) : nI q = chC x := by
  rw [chc_s h, if_pos (Or.inl ?_)]
  have := chc_q h
  exact (nI_eq (by omega) (by decide)).mp c
theorem cmp0 {a : Int64} (c : lg_cmp a 0 = 0) : a = 0 := (lg_cmp_eq a 0).mp c
theorem chc_b (h : chW x 8 0 = some q) (c : lg_cmp (shrC x (nI q)) 0 = 0) : nI q = chC x := by rw [chc_s h, if_pos (Or.inr (cmp0 c))]
theorem chc_c (h : chW x 8 0 = some q) (c1 : ¬ nI q = 8) (c2 : ¬ lg_cmp (shrC x (nI q)) 0 = 0) : 0 = chC x := by
  rw [chc_s h, if_neg]
  rintro (z | z)
  · exact c1 (by rw [z]; rfl)
  · exact c2 ((lg_cmp_eq _ 0).mpr z)
end
theorem ite_ok {o : Bool} (c : ¬ (if o = true then (1 : Int32) else 0) = 0) : o = true := Classical.byContradiction (fun h => c (if_neg h))
theorem ite_no {o : Bool} (c : (if o = true then (1 : Int32) else 0) = 0) : ¬ o = true := ite10.mp c
theorem dec_ite (x : Int32) : (if 0 ≤ x then (1 : Int32) else 0) = if decide (0 ≤ x) = true then 1 else 0 := by
  by_cases h : 0 ≤ x
  · rw [if_pos h, if_pos (decide_eq_true h)]
  · rw [if_neg h, if_neg (fun q => h (of_decide_eq_true q))]
theorem rg_neg {r1 x : Int32} (e : r1 = x) (c : r1 < 0) : (0 : Int32) = if 0 ≤ x then 1 else 0 := by rw [← e, if_neg (Int32.not_le.mpr c)]
theorem rg_pos {r1 x : Int32} (e : r1 = x) (c : ¬ r1 < 0) : (1 : Int32) = if 0 ≤ x then 1 else 0 := by rw [← e, if_pos (Int32.not_lt.mp c)]
theorem rd_neg {r1 x : Int32} (e : r1 = x) (c : r1 < 0) : (0 : Int32) = if decide (0 ≤ x) = true then 1 else 0 := (rg_neg e c).trans (dec_ite x)
theorem rd_pos {r1 x : Int32} (e : r1 = x) (c : ¬ r1 < 0) : (1 : Int32) = if decide (0 ≤ x) = true then 1 else 0 := (rg_pos e c).trans (dec_ite x)
theorem nI_nlt_of {a b : Nat} (ha : a < 2 ^ 31) (hb : b < 2 ^ 31) (h : nI a < nI b) : a < b := (nI_ltI ha hb).mp h
section
variable {f : Nat → Int32} {L q : Nat}
theorem dg_a (c : sgC f L q < 48) : -1 = dgC f L q := (if_neg (fun z : 48 ≤ sgC f L q ∧ sgC f L q ≤ 57 => absurd z.1 (Int32.not_le.mpr c))).symm
theorem dg_b (c : 57 < sgC f L q) : -1 = dgC f L q := (if_neg (fun z : 48 ≤ sgC f L q ∧ sgC f L q ≤ 57 => absurd z.2 (Int32.not_le.mpr c))).symm
theorem dg_c (c : ¬ sgC f L q < 48) (c2 : ¬ 57 < sgC f L q) : sgC f L q - 48 = dgC f L q := (if_pos (⟨Int32.not_lt.mp c, Int32.not_lt.mp c2⟩ : 48 ≤ sgC f L q ∧ sgC f L q ≤ 57)).symm
theorem rai_1 {r1 : Int32} (e : r1 = (rnC f L q 0 99).1) (c : r1 < 0) : raiC f L q = (false, (rnC f L q 0 99).2, 0, 0) := if_pos (Or.inl (by rw [← e]; exact c))
theorem rai_2 (c : ¬ sgC f L (rnC f L q 0 99).2 = 104) : raiC f L q = (false, (rnC f L q 0 99).2, 0, 0) := if_pos (Or.inr c)
theorem rai_3 {r1 : Int32} (e : r1 = (rnC f L q 0 99).1) (c : ¬ r1 < 0) (c2 : sgC f L (rnC f L q 0 99).2 = 104) : raiC f L q = (decide (0 ≤ (rnC f L ((rnC f L q 0 99).2 + 1) 1 24).1), (rnC f L ((rnC f L q 0 99).2 + 1) 1 24).2, (rnC f L q 0 99).1, (rnC f L ((rnC f L q 0 99).2 + 1) 1 24).1) := if_neg (fun z => z.elim (by rw [← e]; exact c) (fun z => z c2))
theorem ord_n (c : ¬ sgC f L q = 114) (c2 : ¬ sgC f L q = 115) : ordC f L q = (false, q, 0, 0, 0) := (if_neg c).trans (if_neg c2)
theorem ord_r (c : sgC f L q = 114) : ordC f L q = ((raiC f L (q + 1)).1, (raiC f L (q + 1)).2.1, 114, (raiC f L (q + 1)).2.2.1, (raiC f L (q + 1)).2.2.2) := if_pos c
theorem ord_s (c : sgC f L q = 115) : ordC f L q = (decide (0 ≤ (rnC f L (q + 1) 0 5).1), (rnC f L (q + 1) 0 5).2, 115, (rnC f L (q + 1) 0 5).1, 0) := (if_neg (by rw [c]; decide)).trans (if_pos c)
theorem raiC_q (f : Nat → Int32) (L q : Nat) : (raiC f L q).2.1 ≤ q + 5 := by
  have h1 := rnC_q f L q 0 99
  have h2 := rnC_q f L ((rnC f L q 0 99).2 + 1) 1 24
  unfold raiC
  split
  · show (rnC f L q 0 99).2 ≤ _; omega
  · show (rnC f L ((rnC f L q 0 99).2 + 1) 1 24).2 ≤ _; omega
theorem ordC_q (f : Nat → Int32) (L q : Nat) : (ordC f L q).2.1 ≤ q + 6 := by
  unfold ordC
  split
  · have := raiC_q f L (q + 1); show (raiC f L (q + 1)).2.1 ≤ _; omega
  · split
    · have := rnC_q f L (q + 1) 0 5; show (rnC f L (q + 1) 0 5).2 ≤ _; omega
    · show q ≤ _; omega
theorem sg_chr (hch : ∀ i, i < 60 → narrow .char (.int (f i)) = .int (f i) ∧ fits .char (.int (f i)) = true) (hL : L ≤ 60) (q : Nat) : narrow .char (.int (sgC f L q)) = .int (sgC f L q) ∧ fits .char (.int (sgC f L q)) = true := by
  unfold sgC
  split
  · exact hch q (by omega)
  · exact ⟨rfl, rfl⟩
theorem fau_s {o : Nat} (ho : o < 60) : fauC f L (60 - o) q = if (ordC f L q).1 = true then (if L ≤ (ordC f L q).2.1 then none else if sgC f L (ordC f L q).2.1 = 59 then fauC f L (60 - (o + 1)) ((ordC f L q).2.1 + 1) else some (ordC f L q).2.1) else some (ordC f L q).2.1 := by
  rw [show 60 - o = (60 - (o + 1)) + 1 by omega]
  rfl
theorem fau_0 {o : Nat} (h : 60 ≤ o) (h2 : o ≤ 60) : fauC f L (60 - o) q = some q := by
  rw [show 60 - o = 0 by omega]
  rfl
theorem fau_1 {o : Nat} (ho : o < 60) (ok : (ordC f L q).1 = true) (h : L ≤ (ordC f L q).2.1) : fauC f L (60 - o) q = none := by rw [fau_s ho, if_pos ok, if_pos h]
theorem fau_2 {o : Nat} (ho : o < 60) (ok : (ordC f L q).1 = true) (h : (ordC f L q).2.1 < L) (h2 : ¬ sgC f L (ordC f L q).2.1 = 59) : fauC f L (60 - o) q = some (ordC f L q).2.1 := by rw [fau_s ho, if_pos ok, if_neg (by omega), if_neg h2]
theorem fau_4 {o : Nat} (ho : o < 60) (ok : ¬ (ordC f L q).1 = true) : fauC f L (60 - o) q = some (ordC f L q).2.1 := by rw [fau_s ho, if_neg ok]
theorem fau_3 {o : Nat} (ho : o < 60) (ok : (ordC f L q).1 = true) {r : Int32} (h : r < nI L) (h2 : sgC f L (ordC f L q).2.1 = 59) : fauC f L (60 - (o + 1)) ((ordC f L q).2.1 + 1) = fauC f L (60 - o) q := by
  have hlt : (ordC f L q).2.1 < L := by
    apply Classical.byContradiction
    intro hn
    unfold sgC at h2
    rw [if_neg hn] at h2
    revert h2; decide
  rw [fau_s ho, if_pos ok, if_neg (by omega), if_pos h2]
end
set_option maxHeartbeats 4000000 in
set_option maxRecDepth 100000 in
/-- the sign at a place -/
theorem k_X3_signAt (l : Launch) (g : GG) (A : Nat → Prop) (M0 : MM) (a : Nat) (f : Nat → Int32) (L : Nat) (rs : Nat → Int32) (hR : RepT g A M0 a f (nI L) rs) (hL : L ≤ 60) (hch : ∀ i, i < 60 → narrow .char (.int (f i)) = .int (f i) ∧ fits .char (.int (f i)) = true) (q : Nat) (hq : q < 2 ^ 31) : Met l yX3_signAt (Uw yX3_signAt cX3_signAt 2 (Option.some ClassFile.FieldType.char)) (rmD 0) (PreM [.ref (a), .int (nI q)] g A M0) (PosI (fun r M1 => r = (sgC f L q) ∧ M1 = M0) g A) 0 0 A := by
  refine mk_Met (own := RX3) rfl rfl (by decide) (Nat.le_of_ble_eq_true rfl) ?_
  intro p e s m below meth c ls aa Q haa hQ hx hb hr hlk hml hown hts hK hM hS hl hnm
  obtain ⟨M, hMM⟩ : ∃ M, M = M0 := ⟨_, rfl⟩
  rw [← hMM] at hM hR
  have ht : ∀ w ∈ lw_good, w.before _ s = true := fun w h => hts w (List.mem_cons_of_mem _ h)
  have hF : FrT a M0 M := by rw [hMM]; exact FrT.rf
  have hl : lv_has ls 2 [(0, .ref (a)), (1, .int (nI q))] := hl
  refine lv_iload_n hx hb dX3_signAt_0 rfl (lv_at hl 1 rfl) ?_
  refine lv_if_lt (tgt := 30) hx hb dX3_signAt_1 (by decide) (fun c_1 => absurd c_1 (nI_pos hq)) (fun c_1 => ?_)
  refine lv_iload_n hx hb dX3_signAt_4 rfl (lv_at hl 1 rfl) ?_
  refine lv_aload_n hx hb dX3_signAt_5 rfl (lv_at hl 0 rfl) ?_
  refine rt_getPl hx hb ht ui_X3 hown hK hM hR (ht _ uw_236) dX3_signAt_6 ?_
  refine lv_icmp_ge (tgt := 30) hx hb dX3_signAt_9 (by decide) (fun c_9 => ?_) (fun c_9 => ?_)
  · have hqL : ¬ q < L := fun z => (nI_ge z (by omega)) c_9
    refine lv_iconst (v := 0) hx hb dX3_signAt_30 (by first | rfl | decide) ?_
    subst hQ
    exact m_zret hx hb hr (rfl) hlk hK hM hS dX3_signAt_31 (⟨by unfold sgC; first | rw [if_pos hqL] | rw [if_neg hqL], hMM⟩)
  · have hqL : q < L := nI_lt_of (by omega) (by omega) c_9
    refine lv_iload_n hx hb dX3_signAt_12 rfl (lv_at hl 1 rfl) ?_
    refine lv_aload_n hx hb dX3_signAt_13 rfl (lv_at hl 0 rfl) ?_
    refine rt_getPs hx hb ht ui_X3 hown hK hM hR (ht _ uw_235) dX3_signAt_14 ?_
    refine rt_lenS hx hb hK hM hR dX3_signAt_17 ?_
    refine lv_icmp_ge (tgt := 30) hx hb dX3_signAt_18 (by decide) (fun c_18 => absurd c_18 (nI_ge (show q < 60 by omega) (by decide))) (fun c_18 => ?_)
    refine lv_aload_n hx hb dX3_signAt_21 rfl (lv_at hl 0 rfl) ?_
    refine rt_getPs hx hb ht ui_X3 hown hK hM hR (ht _ uw_235) dX3_signAt_22 ?_
    refine lv_iload_n hx hb dX3_signAt_25 rfl (lv_at hl 1 rfl) ?_
    refine rt_cald hx hb hK hM hR (show q < 60 by omega) dX3_signAt_26 ?_
    refine lv_goto (tgt := 31) hx hb dX3_signAt_27 (by decide) ?_
    subst hQ
    exact m_zret hx hb hr ((hch q (by omega)).1) hlk hK hM hS dX3_signAt_31 (⟨by unfold sgC; first | rw [if_pos hqL] | rw [if_neg hqL], hMM⟩)

set_option maxHeartbeats 4000000 in
set_option maxRecDepth 100000 in
/-- the digit at a place -/
theorem k_X3_digitAt (l : Launch) (g : GG) (A : Nat → Prop) (M0 : MM) (a : Nat) (f : Nat → Int32) (L : Nat) (rs : Nat → Int32) (hR : RepT g A M0 a f (nI L) rs) (hL : L ≤ 60) (hch : ∀ i, i < 60 → narrow .char (.int (f i)) = .int (f i) ∧ fits .char (.int (f i)) = true) (q : Nat) (hq : q < 2 ^ 31) : Met l yX3_digitAt (Uw yX3_digitAt cX3_digitAt 3 (Option.some ClassFile.FieldType.int)) (rmD 1) (PreM [.ref (a), .int (nI q)] g A M0) (PosI (fun r M1 => r = (dgC f L q) ∧ M1 = M0) g A) 0 0 A := by
  refine mk_Met (own := RX3) rfl rfl (by decide) (Nat.le_of_ble_eq_true rfl) ?_
  intro p e s m below meth c ls aa Q haa hQ hx hb hr hlk hml hown hts hK hM hS hl hnm
  obtain ⟨M, hMM⟩ : ∃ M, M = M0 := ⟨_, rfl⟩
  rw [← hMM] at hM hR
  have ht : ∀ w ∈ lw_good, w.before _ s = true := fun w h => hts w (List.mem_cons_of_mem _ h)
  have hF : FrT a M0 M := by rw [hMM]; exact FrT.rf
  have hl : lv_has ls 3 [(0, .ref (a)), (1, .int (nI q))] := hl
  refine lv_aload_n hx hb dX3_digitAt_0 rfl (lv_at hl 0 rfl) ?_
  refine lv_iload_n hx hb dX3_digitAt_1 rfl (lv_at hl 1 rfl) ?_
  refine m_callRI (val := sgC f L q) (As := [.int (nI q)]) (rest := []) ⟨hx, hb, hml, hown, ht⟩ (k_X3_signAt l g A M a f L rs hR hL hch q hq) (cwV 1 ht (gU uw_461 uw_446 uw_447 uw_40 uw_448) rfl rfl rfl (by decide +kernel) ⟨by decide, by decide⟩) hK hM hS (m_recv hK hM hR.1 hR.2.2.2.1 rfl) rfl hl.1 rfl (Nat.le_of_ble_eq_true rfl) dX3_digitAt_2 ⟨by decide, by decide⟩ (fun H locs hM hS => ?_)
  refine lv_istore_n (lv' := [(2, .int (sgC f L q)), (0, .ref (a)), (1, .int (nI q))]) hx hb dX3_digitAt_5 rfl hl (by decide) rfl (fun ls hl => ?_)
  refine lv_iload_n hx hb dX3_digitAt_6 rfl (lv_at hl 0 rfl) ?_
  refine lv_bipush (v := 48) hx hb dX3_digitAt_7 (by first | rfl | decide) ?_
  refine lv_icmp_lt (tgt := 25) hx hb dX3_digitAt_9 (by decide) (fun c_9 => ?_) (fun c_9 => ?_)
  · refine lv_iconst (v := (-1)) hx hb dX3_digitAt_25 (by first | rfl | decide) ?_
    subst hQ
    exact m_zret hx hb hr (rfl) hlk hK hM hS dX3_digitAt_26 (⟨dg_a c_9, hMM⟩)
  · refine lv_iload_n hx hb dX3_digitAt_12 rfl (lv_at hl 0 rfl) ?_
    refine lv_bipush (v := 57) hx hb dX3_digitAt_13 (by first | rfl | decide) ?_
    refine lv_icmp_gt (tgt := 25) hx hb dX3_digitAt_15 (by decide) (fun c_15 => ?_) (fun c_15 => ?_)
    · refine lv_iconst (v := (-1)) hx hb dX3_digitAt_25 (by first | rfl | decide) ?_
      subst hQ
      exact m_zret hx hb hr (rfl) hlk hK hM hS dX3_digitAt_26 (⟨dg_b c_15, hMM⟩)
    · refine lv_iload_n hx hb dX3_digitAt_18 rfl (lv_at hl 0 rfl) ?_
      refine lv_bipush (v := 48) hx hb dX3_digitAt_19 (by first | rfl | decide) ?_
      refine lv_isub hx hb dX3_digitAt_21 ?_
      refine lv_goto (tgt := 26) hx hb dX3_digitAt_22 (by decide) ?_
      subst hQ
      exact m_zret hx hb hr (rfl) hlk hK hM hS dX3_digitAt_26 (⟨dg_c c_9 c_15, hMM⟩)

set_option maxHeartbeats 4000000 in
set_option maxRecDepth 100000 in
/-- a sign more -/
theorem k_X3_append (l : Launch) (g : GG) (A : Nat → Prop) (M0 : MM) (a : Nat) (f : Nat → Int32) (L : Nat) (rs : Nat → Int32) (hR : RepT g A M0 a f (nI L) rs) (hL : L ≤ 60) (x : Int32) (hL1 : L < 60) : Met l yX3_append (Uw yX3_append cX3_append 2 (Option.none : Option ClassFile.FieldType)) (rmD 0) (PreM [.ref (a), .int (x)] g A M0) (PosV (fun M1 => RepT g A M1 a (va_up f L (vp_nar .char x)) (nI (L + 1)) (rs) ∧ FrT a M0 M1) g A) 0 0 A := by
  refine mk_Met (own := RX3) rfl rfl (by decide) (Nat.le_of_ble_eq_true rfl) ?_
  intro p e s m below meth c ls aa Q haa hQ hx hb hr hlk hml hown hts hK hM hS hl hnm
  obtain ⟨M, hMM⟩ : ∃ M, M = M0 := ⟨_, rfl⟩
  rw [← hMM] at hM hR
  have ht : ∀ w ∈ lw_good, w.before _ s = true := fun w h => hts w (List.mem_cons_of_mem _ h)
  have hF : FrT a M0 M := by rw [hMM]; exact FrT.rf
  have hl : lv_has ls 2 [(0, .ref (a)), (1, .int (x))] := hl
  refine lv_aload_n hx hb dX3_append_0 rfl (lv_at hl 0 rfl) ?_
  refine rt_getPl hx hb ht ui_X3 hown hK hM hR (ht _ uw_236) dX3_append_1 ?_
  refine lv_if_lt (tgt := 39) hx hb dX3_append_4 (by decide) (fun c_4 => absurd c_4 (nI_pos (by omega))) (fun c_4 => ?_)
  refine lv_aload_n hx hb dX3_append_7 rfl (lv_at hl 0 rfl) ?_
  refine rt_getPl hx hb ht ui_X3 hown hK hM hR (ht _ uw_236) dX3_append_8 ?_
  refine lv_aload_n hx hb dX3_append_11 rfl (lv_at hl 0 rfl) ?_
  refine rt_getPs hx hb ht ui_X3 hown hK hM hR (ht _ uw_235) dX3_append_12 ?_
  refine rt_lenS hx hb hK hM hR dX3_append_15 ?_
  refine lv_icmp_ge (tgt := 39) hx hb dX3_append_16 (by decide) (fun c_16 => absurd c_16 (nI_ge hL1 (by decide))) (fun c_16 => ?_)
  refine lv_aload_n hx hb dX3_append_19 rfl (lv_at hl 0 rfl) ?_
  refine rt_getPs hx hb ht ui_X3 hown hK hM hR (ht _ uw_235) dX3_append_20 ?_
  refine lv_aload_n hx hb dX3_append_23 rfl (lv_at hl 0 rfl) ?_
  refine rt_getPl hx hb ht ui_X3 hown hK hM hR (ht _ uw_236) dX3_append_24 ?_
  refine lv_iload_n hx hb dX3_append_27 rfl (lv_at hl 1 rfl) ?_
  refine rt_cast hx hb hK hM hS hR hF hL1 dX3_append_28 (fun M H locs hM hR hF hS => ?_)
  refine lv_aload_n hx hb dX3_append_29 rfl (lv_at hl 0 rfl) ?_
  refine lv_dup hx hb dX3_append_30 rfl ?_
  refine rt_getPl hx hb ht ui_X3 hown hK hM hR (ht _ uw_236) dX3_append_31 ?_
  refine lv_iconst (v := 1) hx hb dX3_append_34 (by first | rfl | decide) ?_
  refine lv_iadd hx hb dX3_append_35 ?_
  refine rt_putPl hx hb ht ui_X3 hown hK hM hS hR hF (ht _ uw_236) dX3_append_36 (fun M H locs hM hR hF hS => ?_)
  subst hQ
  exact m_vret hx hb hr hlk hK hM hS dX3_append_39 (⟨RepT.eql hR (nI_1 L).symm rfl, hF⟩)

set_option maxHeartbeats 4000000 in
set_option maxRecDepth 100000 in
/-- back to the start -/
theorem k_X2_goToStart (l : Launch) (g : GG) (A : Nat → Prop) (M0 : MM) (a : Nat) (f : Nat → Int32) (L : Nat) (rs : Nat → Int32) (hR : RepT g A M0 a f (nI L) rs) (hL : L ≤ 60)  : Met l yX2_goToStart (Uw yX2_goToStart cX2_goToStart 1 (Option.none : Option ClassFile.FieldType)) (rmD 0) (PreM [.ref (a + 2)] g A M0) (PosV (fun M1 => RepT g A M1 a (f) (nI L) (va_up rs 0 0) ∧ FrT a M0 M1) g A) 0 0 A := by
  refine mk_Met (own := RX2) rfl rfl (by decide) (Nat.le_of_ble_eq_true rfl) ?_
  intro p e s m below meth c ls aa Q haa hQ hx hb hr hlk hml hown hts hK hM hS hl hnm
  obtain ⟨M, hMM⟩ : ∃ M, M = M0 := ⟨_, rfl⟩
  rw [← hMM] at hM hR
  have ht : ∀ w ∈ lw_good, w.before _ s = true := fun w h => hts w (List.mem_cons_of_mem _ h)
  have hF : FrT a M0 M := by rw [hMM]; exact FrT.rf
  have hl : lv_has ls 1 [(0, .ref (a + 2))] := hl
  refine lv_aload_n hx hb dX2_goToStart_0 rfl (lv_at hl 0 rfl) ?_
  refine lv_iconst (v := 0) hx hb dX2_goToStart_1 (by first | rfl | decide) ?_
  refine rt_putD hx hb ht ui_X2 hown hK hM hS hR hF 0 (by decide) (by decide) (ht _ uw_253) dX2_goToStart_2 (fun M H locs hM hR hF hS => ?_)
  subst hQ
  exact m_vret hx hb hr hlk hK hM hS dX2_goToStart_5 (⟨hR, hF⟩)

set_option maxHeartbeats 4000000 in
set_option maxRecDepth 100000 in
/-- one place on -/
theorem k_X2_passSeparator (l : Launch) (g : GG) (A : Nat → Prop) (M0 : MM) (a : Nat) (f : Nat → Int32) (L : Nat) (rs : Nat → Int32) (hR : RepT g A M0 a f (nI L) rs) (hL : L ≤ 60)  : Met l yX2_passSeparator (Uw yX2_passSeparator cX2_passSeparator 1 (Option.none : Option ClassFile.FieldType)) (rmD 0) (PreM [.ref (a + 2)] g A M0) (PosV (fun M1 => RepT g A M1 a (f) (nI L) (va_up rs 0 (rs 0 + 1)) ∧ FrT a M0 M1) g A) 0 0 A := by
  refine mk_Met (own := RX2) rfl rfl (by decide) (Nat.le_of_ble_eq_true rfl) ?_
  intro p e s m below meth c ls aa Q haa hQ hx hb hr hlk hml hown hts hK hM hS hl hnm
  obtain ⟨M, hMM⟩ : ∃ M, M = M0 := ⟨_, rfl⟩
  rw [← hMM] at hM hR
  have ht : ∀ w ∈ lw_good, w.before _ s = true := fun w h => hts w (List.mem_cons_of_mem _ h)
  have hF : FrT a M0 M := by rw [hMM]; exact FrT.rf
  have hl : lv_has ls 1 [(0, .ref (a + 2))] := hl
  refine lv_aload_n hx hb dX2_passSeparator_0 rfl (lv_at hl 0 rfl) ?_
  refine lv_dup hx hb dX2_passSeparator_1 rfl ?_
  refine rt_getD hx hb ht ui_X2 hown hK hM hR 0 (by decide) (ht _ uw_253) dX2_passSeparator_2 ?_
  refine lv_iconst (v := 1) hx hb dX2_passSeparator_5 (by first | rfl | decide) ?_
  refine lv_iadd hx hb dX2_passSeparator_6 ?_
  refine rt_putD hx hb ht ui_X2 hown hK hM hS hR hF 0 (by decide) (by decide) (ht _ uw_253) dX2_passSeparator_7 (fun M H locs hM hR hF hS => ?_)
  subst hQ
  exact m_vret hx hb hr hlk hK hM hS dX2_passSeparator_10 (⟨hR, hF⟩)

set_option maxHeartbeats 4000000 in
set_option maxRecDepth 100000 in
/-- a number of one or two digits -/
theorem k_X2_readNumber (l : Launch) (g : GG) (A : Nat → Prop) (M0 : MM) (a : Nat) (f : Nat → Int32) (L : Nat) (rs : Nat → Int32) (hR : RepT g A M0 a f (nI L) rs) (hL : L ≤ 60) (hch : ∀ i, i < 60 → narrow .char (.int (f i)) = .int (f i) ∧ fits .char (.int (f i)) = true) (q : Nat) (hq : q < 1000) (hat : rs 0 = nI q) (lo hi : Int32) : Met l yX2_readNumber (Uw yX2_readNumber cX2_readNumber 6 (Option.some ClassFile.FieldType.int)) (rmD 2) (PreM [.ref (a + 2), .int (lo), .int (hi)] g A M0) (PosI (fun r M1 => r = (rnC f L q lo hi).1 ∧ RepT g A M1 a (f) (nI L) (va_up rs 0 (nI (rnC f L q lo hi).2)) ∧ FrT a M0 M1) g A) 0 0 A := by
  refine mk_Met (own := RX2) rfl rfl (by decide) (Nat.le_of_ble_eq_true rfl) ?_
  intro p e s m below meth c ls aa Q haa hQ hx hb hr hlk hml hown hts hK hM hS hl hnm
  obtain ⟨M, hMM⟩ : ∃ M, M = M0 := ⟨_, rfl⟩
  rw [← hMM] at hM hR
  have ht : ∀ w ∈ lw_good, w.before _ s = true := fun w h => hts w (List.mem_cons_of_mem _ h)
  have hF : FrT a M0 M := by rw [hMM]; exact FrT.rf
  have hl : lv_has ls 6 [(0, .ref (a + 2)), (1, .int (lo)), (2, .int (hi))] := hl
  refine lv_aload_n hx hb dX2_readNumber_0 rfl (lv_at hl 0 rfl) ?_
  refine rt_getDp hx hb ht ui_X2 hown hK hM hR (ht _ uw_252) dX2_readNumber_1 ?_
  refine lv_aload_n hx hb dX2_readNumber_4 rfl (lv_at hl 0 rfl) ?_
  refine rt_getD hx hb ht ui_X2 hown hK hM hR 0 (by decide) (ht _ uw_253) dX2_readNumber_5 ?_
  refine m_callRI (val := dgC f L q) (As := [.int (rs 0)]) (rest := []) ⟨hx, hb, hml, hown, ht⟩ ((by have z := k_X3_digitAt l g A M a f L rs hR hL hch q (by omega); rw [← hat] at z; exact z)) (cwV 1 ht (gU uw_457 uw_458 uw_459 uw_40 uw_460) rfl rfl rfl (by decide +kernel) ⟨by decide, by decide⟩) hK hM hS (m_recv hK hM hR.1 hR.2.2.2.1 rfl) rfl hl.1 rfl (Nat.le_of_ble_eq_true rfl) dX2_readNumber_8 ⟨by decide, by decide⟩ (fun H locs hM hS => ?_)
  refine lv_istore_n (lv' := [(3, .int (dgC f L q)), (0, .ref (a + 2)), (1, .int (lo)), (2, .int (hi))]) hx hb dX2_readNumber_11 rfl hl (by decide) rfl (fun ls hl => ?_)
  refine lv_iload_n hx hb dX2_readNumber_12 rfl (lv_at hl 0 rfl) ?_
  refine lv_iload_n hx hb dX2_readNumber_13 rfl (lv_at hl 2 rfl) ?_
  refine lv_icmp_lt (tgt := 22) hx hb dX2_readNumber_14 (by decide) (fun c_14 => ?_) (fun c_14 => ?_)
  · refine lv_iconst (v := (-1)) hx hb dX2_readNumber_22 (by first | rfl | decide) ?_
    subst hQ
    exact m_zret hx hb hr (rfl) hlk hK hM hS dX2_readNumber_23 (by first | exact rn_end0 (rn_a c_14) (RepT.eqr hR (rs_same hat)) hF | exact rn_end0 (rn_b (lo := lo) c_19) (RepT.eqr hR (rs_same hat)) hF)
  · refine lv_iload_n hx hb dX2_readNumber_17 rfl (lv_at hl 0 rfl) ?_
    refine lv_iload_n hx hb dX2_readNumber_18 rfl (lv_at hl 3 rfl) ?_
    refine lv_icmp_le (tgt := 24) hx hb dX2_readNumber_19 (by decide) (fun c_19 => ?_) (fun c_19 => ?_)
    · refine lv_aload_n hx hb dX2_readNumber_24 rfl (lv_at hl 1 rfl) ?_
      refine lv_dup hx hb dX2_readNumber_25 rfl ?_
      refine rt_getD hx hb ht ui_X2 hown hK hM hR 0 (by decide) (ht _ uw_253) dX2_readNumber_26 ?_
      refine lv_iconst (v := 1) hx hb dX2_readNumber_29 (by first | rfl | decide) ?_
      refine lv_iadd hx hb dX2_readNumber_30 ?_
      refine rt_putD hx hb ht ui_X2 hown hK hM hS hR hF 0 (by decide) (by decide) (ht _ uw_253) dX2_readNumber_31 (fun M H locs hM hR hF hS => ?_)
      refine lv_aload_n hx hb dX2_readNumber_34 rfl (lv_at hl 1 rfl) ?_
      refine rt_getDp hx hb ht ui_X2 hown hK hM hR (ht _ uw_252) dX2_readNumber_35 ?_
      refine lv_aload_n hx hb dX2_readNumber_38 rfl (lv_at hl 1 rfl) ?_
      refine rt_getD hx hb ht ui_X2 hown hK hM hR 0 (by decide) (ht _ uw_253) dX2_readNumber_39 ?_
      refine m_callRI (val := dgC f L (q + 1)) (As := [.int ((va_up rs 0 ((rs 0) + (1))) 0)]) (rest := []) ⟨hx, hb, hml, hown, ht⟩ ((by have z := k_X3_digitAt l g A M a f L _ hR hL hch (q + 1) (by omega); rw [← nI_1, ← hat] at z; exact z)) (cwV 1 ht (gU uw_457 uw_458 uw_459 uw_40 uw_460) rfl rfl rfl (by decide +kernel) ⟨by decide, by decide⟩) hK hM hS (m_recv hK hM hR.1 hR.2.2.2.1 rfl) rfl hl.1 rfl (Nat.le_of_ble_eq_true rfl) dX2_readNumber_42 ⟨by decide, by decide⟩ (fun H locs hM hS => ?_)
      refine lv_istore (lv' := [(4, .int (dgC f L (q + 1))), (3, .int (dgC f L q)), (0, .ref (a + 2)), (1, .int (lo)), (2, .int (hi))]) hx hb dX2_readNumber_45 hl (by decide) rfl (fun ls hl => ?_)
      refine lv_iload_n hx hb dX2_readNumber_47 rfl (lv_at hl 1 rfl) ?_
      refine lv_if_eq (tgt := 56) hx hb dX2_readNumber_48 (by decide) (fun c_48 => ?_) (fun c_48 => ?_)
      · refine lv_iload_n hx hb dX2_readNumber_56 rfl (lv_at hl 1 rfl) ?_
        subst hQ
        exact m_zret hx hb hr (rfl) hlk hK hM hS dX2_readNumber_57 (by first | exact rn_end0 (rn_c c_14 c_19 c_48) (RepT.eqr hR (rs_one hat)) hF | exact rn_end0 (rn_d c_14 c_19 c_53) (RepT.eqr hR (rs_one hat)) hF)
      · refine lv_iload hx hb dX2_readNumber_51 (lv_at hl 0 rfl) ?_
        refine lv_if_ge (tgt := 58) hx hb dX2_readNumber_53 (by decide) (fun c_53 => ?_) (fun c_53 => ?_)
        · refine lv_bipush (v := 10) hx hb dX2_readNumber_58 (by first | rfl | decide) ?_
          refine lv_iload_n hx hb dX2_readNumber_60 rfl (lv_at hl 1 rfl) ?_
          refine lv_imul hx hb dX2_readNumber_61 ?_
          refine lv_iload hx hb dX2_readNumber_62 (lv_at hl 0 rfl) ?_
          refine lv_iadd hx hb dX2_readNumber_64 ?_
          refine lv_istore (lv' := [(5, .int (((10) * (dgC f L q)) + (dgC f L (q + 1)))), (4, .int (dgC f L (q + 1))), (3, .int (dgC f L q)), (0, .ref (a + 2)), (1, .int (lo)), (2, .int (hi))]) hx hb dX2_readNumber_65 hl (by decide) rfl (fun ls hl => ?_)
          refine lv_iload hx hb dX2_readNumber_67 (lv_at hl 0 rfl) ?_
          refine lv_iload_n hx hb dX2_readNumber_69 rfl (lv_at hl 5 rfl) ?_
          refine lv_icmp_le (tgt := 75) hx hb dX2_readNumber_70 (by decide) (fun c_70 => ?_) (fun c_70 => ?_)
          · refine lv_aload_n hx hb dX2_readNumber_75 rfl (lv_at hl 3 rfl) ?_
            refine lv_dup hx hb dX2_readNumber_76 rfl ?_
            refine rt_getD hx hb ht ui_X2 hown hK hM hR 0 (by decide) (ht _ uw_253) dX2_readNumber_77 ?_
            refine lv_iconst (v := 1) hx hb dX2_readNumber_80 (by first | rfl | decide) ?_
            refine lv_iadd hx hb dX2_readNumber_81 ?_
            refine rt_putD hx hb ht ui_X2 hown hK hM hS hR hF 0 (by decide) (by decide) (ht _ uw_253) dX2_readNumber_82 (fun M H locs hM hR hF hS => ?_)
            refine lv_iload hx hb dX2_readNumber_85 (lv_at hl 0 rfl) ?_
            subst hQ
            exact m_zret hx hb hr (rfl) hlk hK hM hS dX2_readNumber_87 (rn_end0 (rn_f c_14 c_19 c_48 c_53 c_70) (RepT.eqr hR (rs_two hat)) hF)
          · refine lv_iconst (v := (-1)) hx hb dX2_readNumber_73 (by first | rfl | decide) ?_
            subst hQ
            exact m_zret hx hb hr (rfl) hlk hK hM hS dX2_readNumber_74 (rn_end0 (rn_e c_14 c_19 c_48 c_53 c_70) (RepT.eqr hR (rs_one hat)) hF)
        · refine lv_iload_n hx hb dX2_readNumber_56 rfl (lv_at hl 1 rfl) ?_
          subst hQ
          exact m_zret hx hb hr (rfl) hlk hK hM hS dX2_readNumber_57 (by first | exact rn_end0 (rn_c c_14 c_19 c_48) (RepT.eqr hR (rs_one hat)) hF | exact rn_end0 (rn_d c_14 c_19 c_53) (RepT.eqr hR (rs_one hat)) hF)
    · refine lv_iconst (v := (-1)) hx hb dX2_readNumber_22 (by first | rfl | decide) ?_
      subst hQ
      exact m_zret hx hb hr (rfl) hlk hK hM hS dX2_readNumber_23 (by first | exact rn_end0 (rn_a c_14) (RepT.eqr hR (rs_same hat)) hF | exact rn_end0 (rn_b (lo := lo) c_19) (RepT.eqr hR (rs_same hat)) hF)

set_option maxHeartbeats 4000000 in
set_option maxRecDepth 100000 in
/-- the gauge of an order -/
theorem k_X2_readGauge (l : Launch) (g : GG) (A : Nat → Prop) (M0 : MM) (a : Nat) (f : Nat → Int32) (L : Nat) (rs : Nat → Int32) (hR : RepT g A M0 a f (nI L) rs) (hL : L ≤ 60) (hch : ∀ i, i < 60 → narrow .char (.int (f i)) = .int (f i) ∧ fits .char (.int (f i)) = true) (q : Nat) (hq : q < 1000) (hat : rs 0 = nI q)  : Met l yX2_readGauge (Uw yX2_readGauge cX2_readGauge 1 (Option.some ClassFile.FieldType.boolean)) (rmD 3) (PreM [.ref (a + 2)] g A M0) (PosI (fun r M1 => r = (if 0 ≤ (rnC f L q 0 5).1 then 1 else 0) ∧ ∃ rs1, RepT g A M1 a (f) (nI L) (rs1) ∧ FrT a M0 M1 ∧ rs1 0 = nI (rnC f L q 0 5).2 ∧ rs1 1 = rs 1 ∧ rs1 4 = (rnC f L q 0 5).1) g A) 0 0 A := by
  refine mk_Met (own := RX2) rfl rfl (by decide) (Nat.le_of_ble_eq_true rfl) ?_
  intro p e s m below meth c ls aa Q haa hQ hx hb hr hlk hml hown hts hK hM hS hl hnm
  obtain ⟨M, hMM⟩ : ∃ M, M = M0 := ⟨_, rfl⟩
  rw [← hMM] at hM hR
  have ht : ∀ w ∈ lw_good, w.before _ s = true := fun w h => hts w (List.mem_cons_of_mem _ h)
  have hF : FrT a M0 M := by rw [hMM]; exact FrT.rf
  have hl : lv_has ls 1 [(0, .ref (a + 2))] := hl
  refine lv_aload_n hx hb dX2_readGauge_0 rfl (lv_at hl 0 rfl) ?_
  refine lv_aload_n hx hb dX2_readGauge_1 rfl (lv_at hl 0 rfl) ?_
  refine lv_iconst (v := 0) hx hb dX2_readGauge_2 (by first | rfl | decide) ?_
  refine lv_iconst (v := 5) hx hb dX2_readGauge_3 (by first | rfl | decide) ?_
  refine m_callI (As := [.int (0), .int (5)]) (rest := [.ref (a + 2)]) ⟨hx, hb, hml, hown, ht⟩ (k_X2_readNumber l g A M a f L rs hR hL hch q (by omega) hat (0) (5)) (cwV 2 ht (gU uw_453 uw_455 uw_8 uw_41 uw_456) rfl rfl rfl (by decide +kernel) ⟨by decide, by decide⟩) hK hM hS (m_recv hK hM hR.2.2.1 hR.2.2.2.2.2 rfl) rfl hl.1 rfl (Nat.le_of_ble_eq_true rfl) dX2_readGauge_4 ⟨by decide, by decide⟩ (fun r1 M H locs hp hM hS => ?_)
  obtain ⟨e_r1, hR, hF1⟩ := hp
  have hF := hF.tr hF1
  refine rt_putD hx hb ht ui_X2 hown hK hM hS hR hF 4 (by decide) (by decide) (ht _ uw_260) dX2_readGauge_7 (fun M H locs hM hR hF hS => ?_)
  refine lv_aload_n hx hb dX2_readGauge_10 rfl (lv_at hl 0 rfl) ?_
  refine rt_getD hx hb ht ui_X2 hown hK hM hR 4 (by decide) (ht _ uw_260) dX2_readGauge_11 ?_
  refine lv_if_lt (tgt := 21) hx hb dX2_readGauge_14 (by decide) (fun c_14 => ?_) (fun c_14 => ?_)
  · refine lv_iconst (v := 0) hx hb dX2_readGauge_21 (by first | rfl | decide) ?_
    subst hQ
    exact m_zret hx hb hr (rfl) hlk hK hM hS dX2_readGauge_22 (⟨rg_neg e_r1 c_14, _, hR, hF, rfl, rfl, e_r1⟩)
  · refine lv_iconst (v := 1) hx hb dX2_readGauge_17 (by first | rfl | decide) ?_
    refine lv_goto (tgt := 22) hx hb dX2_readGauge_18 (by decide) ?_
    subst hQ
    exact m_zret hx hb hr (rfl) hlk hK hM hS dX2_readGauge_22 (⟨rg_pos e_r1 c_14, _, hR, hF, rfl, rfl, e_r1⟩)

set_option maxHeartbeats 4000000 in
set_option maxRecDepth 100000 in
/-- the amount and the hours of an order -/
theorem k_X2_readRain (l : Launch) (g : GG) (A : Nat → Prop) (M0 : MM) (a : Nat) (f : Nat → Int32) (L : Nat) (rs : Nat → Int32) (hR : RepT g A M0 a f (nI L) rs) (hL : L ≤ 60) (hch : ∀ i, i < 60 → narrow .char (.int (f i)) = .int (f i) ∧ fits .char (.int (f i)) = true) (q : Nat) (hq : q < 1000) (hat : rs 0 = nI q) (hq2 : q < 900) : Met l yX2_readRain (Uw yX2_readRain cX2_readRain 1 (Option.some ClassFile.FieldType.boolean)) (rmD 3) (PreM [.ref (a + 2)] g A M0) (PosI (fun r M1 => r = (if (raiC f L q).1 = true then 1 else 0) ∧ ∃ rs1, RepT g A M1 a (f) (nI L) (rs1) ∧ FrT a M0 M1 ∧ rs1 0 = nI (raiC f L q).2.1 ∧ rs1 1 = rs 1 ∧ ((raiC f L q).1 = true → rs1 2 = (raiC f L q).2.2.1 ∧ rs1 3 = (raiC f L q).2.2.2)) g A) 0 0 A := by
  refine mk_Met (own := RX2) rfl rfl (by decide) (Nat.le_of_ble_eq_true rfl) ?_
  intro p e s m below meth c ls aa Q haa hQ hx hb hr hlk hml hown hts hK hM hS hl hnm
  obtain ⟨M, hMM⟩ : ∃ M, M = M0 := ⟨_, rfl⟩
  rw [← hMM] at hM hR
  have ht : ∀ w ∈ lw_good, w.before _ s = true := fun w h => hts w (List.mem_cons_of_mem _ h)
  have hF : FrT a M0 M := by rw [hMM]; exact FrT.rf
  have hl : lv_has ls 1 [(0, .ref (a + 2))] := hl
  refine lv_aload_n hx hb dX2_readRain_0 rfl (lv_at hl 0 rfl) ?_
  refine lv_aload_n hx hb dX2_readRain_1 rfl (lv_at hl 0 rfl) ?_
  refine lv_iconst (v := 0) hx hb dX2_readRain_2 (by first | rfl | decide) ?_
  refine lv_bipush (v := 99) hx hb dX2_readRain_3 (by first | rfl | decide) ?_
  refine m_callI (As := [.int (0), .int (99)]) (rest := [.ref (a + 2)]) ⟨hx, hb, hml, hown, ht⟩ (k_X2_readNumber l g A M a f L rs hR hL hch q (by omega) hat (0) (99)) (cwV 2 ht (gU uw_453 uw_455 uw_8 uw_41 uw_456) rfl rfl rfl (by decide +kernel) ⟨by decide, by decide⟩) hK hM hS (m_recv hK hM hR.2.2.1 hR.2.2.2.2.2 rfl) rfl hl.1 rfl (Nat.le_of_ble_eq_true rfl) dX2_readRain_5 ⟨by decide, by decide⟩ (fun r1 M H locs hp hM hS => ?_)
  obtain ⟨e_r1, hR, hF1⟩ := hp
  have hF := hF.tr hF1
  refine rt_putD hx hb ht ui_X2 hown hK hM hS hR hF 2 (by decide) (by decide) (ht _ uw_256) dX2_readRain_8 (fun M H locs hM hR hF hS => ?_)
  refine lv_aload_n hx hb dX2_readRain_11 rfl (lv_at hl 0 rfl) ?_
  refine rt_getD hx hb ht ui_X2 hown hK hM hR 2 (by decide) (ht _ uw_256) dX2_readRain_12 ?_
  refine lv_if_lt (tgt := 34) hx hb dX2_readRain_15 (by decide) (fun c_15 => ?_) (fun c_15 => ?_)
  · refine lv_iconst (v := 0) hx hb dX2_readRain_34 (by first | rfl | decide) ?_
    subst hQ
    exact m_zret hx hb hr (rfl) hlk hK hM hS dX2_readRain_35 (by
        first
          | (rw [rai_1 e_r1 c_15]; exact ⟨rfl, _, hR, hF, rfl, rfl, fun z => by cases z⟩)
          | (rw [rai_2 c_31]; exact ⟨rfl, _, hR, hF, rfl, rfl, fun z => by cases z⟩))
  · refine lv_aload_n hx hb dX2_readRain_18 rfl (lv_at hl 0 rfl) ?_
    refine rt_getDp hx hb ht ui_X2 hown hK hM hR (ht _ uw_252) dX2_readRain_19 ?_
    refine lv_aload_n hx hb dX2_readRain_22 rfl (lv_at hl 0 rfl) ?_
    refine rt_getD hx hb ht ui_X2 hown hK hM hR 0 (by decide) (ht _ uw_253) dX2_readRain_23 ?_
    refine m_callRI (val := sgC f L (rnC f L q 0 99).2) (As := [.int ((va_up (va_up rs 0 (nI (rnC f L q (0) (99)).2)) 2 (r1)) 0)]) (rest := []) ⟨hx, hb, hml, hown, ht⟩ (k_X3_signAt l g A M a f L _ hR hL hch (rnC f L q 0 99).2 (by have := rnC_q f L q 0 99; omega)) (cwV 1 ht (gU uw_445 uw_446 uw_447 uw_40 uw_448) rfl rfl rfl (by decide +kernel) ⟨by decide, by decide⟩) hK hM hS (m_recv hK hM hR.1 hR.2.2.2.1 rfl) rfl hl.1 rfl (Nat.le_of_ble_eq_true rfl) dX2_readRain_26 ⟨by decide, by decide⟩ (fun H locs hM hS => ?_)
    refine lv_bipush (v := 104) hx hb dX2_readRain_29 (by first | rfl | decide) ?_
    refine lv_icmp_eq (tgt := 36) hx hb dX2_readRain_31 (by decide) (fun c_31 => ?_) (fun c_31 => ?_)
    · refine lv_aload_n hx hb dX2_readRain_36 rfl (lv_at hl 0 rfl) ?_
      refine lv_dup hx hb dX2_readRain_37 rfl ?_
      refine rt_getD hx hb ht ui_X2 hown hK hM hR 0 (by decide) (ht _ uw_253) dX2_readRain_38 ?_
      refine lv_iconst (v := 1) hx hb dX2_readRain_41 (by first | rfl | decide) ?_
      refine lv_iadd hx hb dX2_readRain_42 ?_
      refine rt_putD hx hb ht ui_X2 hown hK hM hS hR hF 0 (by decide) (by decide) (ht _ uw_253) dX2_readRain_43 (fun M H locs hM hR hF hS => ?_)
      refine lv_aload_n hx hb dX2_readRain_46 rfl (lv_at hl 0 rfl) ?_
      refine lv_aload_n hx hb dX2_readRain_47 rfl (lv_at hl 0 rfl) ?_
      refine lv_iconst (v := 1) hx hb dX2_readRain_48 (by first | rfl | decide) ?_
      refine lv_bipush (v := 24) hx hb dX2_readRain_49 (by first | rfl | decide) ?_
      refine m_callI (As := [.int (1), .int (24)]) (rest := [.ref (a + 2)]) ⟨hx, hb, hml, hown, ht⟩ (k_X2_readNumber l g A M a f L (va_up (va_up (va_up rs 0 (nI (rnC f L q (0) (99)).2)) 2 (r1)) 0 (((va_up (va_up rs 0 (nI (rnC f L q (0) (99)).2)) 2 (r1)) 0) + (1))) hR hL hch ((rnC f L q 0 99).2 + 1) (by have := rnC_q f L q 0 99; omega) (by show nI _ + 1 = _; exact nI_1 _) (1) (24)) (cwV 2 ht (gU uw_453 uw_455 uw_8 uw_41 uw_456) rfl rfl rfl (by decide +kernel) ⟨by decide, by decide⟩) hK hM hS (m_recv hK hM hR.2.2.1 hR.2.2.2.2.2 rfl) rfl hl.1 rfl (Nat.le_of_ble_eq_true rfl) dX2_readRain_51 ⟨by decide, by decide⟩ (fun r2 M H locs hp hM hS => ?_)
      obtain ⟨e_r2, hR, hF1⟩ := hp
      have hF := hF.tr hF1
      refine rt_putD hx hb ht ui_X2 hown hK hM hS hR hF 3 (by decide) (by decide) (ht _ uw_258) dX2_readRain_54 (fun M H locs hM hR hF hS => ?_)
      refine lv_aload_n hx hb dX2_readRain_57 rfl (lv_at hl 0 rfl) ?_
      refine rt_getD hx hb ht ui_X2 hown hK hM hR 3 (by decide) (ht _ uw_258) dX2_readRain_58 ?_
      refine lv_if_lt (tgt := 68) hx hb dX2_readRain_61 (by decide) (fun c_61 => ?_) (fun c_61 => ?_)
      · refine lv_iconst (v := 0) hx hb dX2_readRain_68 (by first | rfl | decide) ?_
        subst hQ
        exact m_zret hx hb hr (rfl) hlk hK hM hS dX2_readRain_69 (by
            rw [rai_3 e_r1 c_15 c_31]
            exact ⟨rd_neg e_r2 c_61, _, hR, hF, rfl, rfl, fun _ => ⟨e_r1, e_r2⟩⟩)
      · refine lv_iconst (v := 1) hx hb dX2_readRain_64 (by first | rfl | decide) ?_
        refine lv_goto (tgt := 69) hx hb dX2_readRain_65 (by decide) ?_
        subst hQ
        exact m_zret hx hb hr (rfl) hlk hK hM hS dX2_readRain_69 (by
            rw [rai_3 e_r1 c_15 c_31]
            exact ⟨rd_pos e_r2 c_61, _, hR, hF, rfl, rfl, fun _ => ⟨e_r1, e_r2⟩⟩)
    · refine lv_iconst (v := 0) hx hb dX2_readRain_34 (by first | rfl | decide) ?_
      subst hQ
      exact m_zret hx hb hr (rfl) hlk hK hM hS dX2_readRain_35 (by
          first
            | (rw [rai_1 e_r1 c_15]; exact ⟨rfl, _, hR, hF, rfl, rfl, fun z => by cases z⟩)
            | (rw [rai_2 c_31]; exact ⟨rfl, _, hR, hF, rfl, rfl, fun z => by cases z⟩))

set_option maxHeartbeats 4000000 in
set_option maxRecDepth 100000 in
/-- an order -/
theorem k_X2_readOrder (l : Launch) (g : GG) (A : Nat → Prop) (M0 : MM) (a : Nat) (f : Nat → Int32) (L : Nat) (rs : Nat → Int32) (hR : RepT g A M0 a f (nI L) rs) (hL : L ≤ 60) (hch : ∀ i, i < 60 → narrow .char (.int (f i)) = .int (f i) ∧ fits .char (.int (f i)) = true) (q : Nat) (hq : q < 1000) (hat : rs 0 = nI q) (hq2 : q < 800) : Met l yX2_readOrder (Uw yX2_readOrder cX2_readOrder 1 (Option.some ClassFile.FieldType.boolean)) (rmD 4) (PreM [.ref (a + 2)] g A M0) (PosI (fun r M1 => r = (if (ordC f L q).1 = true then 1 else 0) ∧ ∃ rs1, RepT g A M1 a (f) (nI L) (rs1) ∧ FrT a M0 M1 ∧ rs1 0 = nI (ordC f L q).2.1 ∧ ((ordC f L q).1 = true → rs1 1 = (ordC f L q).2.2.1 ∧ ((ordC f L q).2.2.1 = 114 → rs1 2 = (ordC f L q).2.2.2.1 ∧ rs1 3 = (ordC f L q).2.2.2.2) ∧ ((ordC f L q).2.2.1 = 115 → rs1 4 = (ordC f L q).2.2.2.1))) g A) 0 0 A := by
  refine mk_Met (own := RX2) rfl rfl (by decide) (Nat.le_of_ble_eq_true rfl) ?_
  intro p e s m below meth c ls aa Q haa hQ hx hb hr hlk hml hown hts hK hM hS hl hnm
  obtain ⟨M, hMM⟩ : ∃ M, M = M0 := ⟨_, rfl⟩
  rw [← hMM] at hM hR
  have ht : ∀ w ∈ lw_good, w.before _ s = true := fun w h => hts w (List.mem_cons_of_mem _ h)
  have hF : FrT a M0 M := by rw [hMM]; exact FrT.rf
  have hl : lv_has ls 1 [(0, .ref (a + 2))] := hl
  refine lv_aload_n hx hb dX2_readOrder_0 rfl (lv_at hl 0 rfl) ?_
  refine lv_aload_n hx hb dX2_readOrder_1 rfl (lv_at hl 0 rfl) ?_
  refine rt_getDp hx hb ht ui_X2 hown hK hM hR (ht _ uw_252) dX2_readOrder_2 ?_
  refine lv_aload_n hx hb dX2_readOrder_5 rfl (lv_at hl 0 rfl) ?_
  refine rt_getD hx hb ht ui_X2 hown hK hM hR 0 (by decide) (ht _ uw_253) dX2_readOrder_6 ?_
  refine m_callRI (val := sgC f L q) (As := [.int (rs 0)]) (rest := [.ref (a + 2)]) ⟨hx, hb, hml, hown, ht⟩ ((by have z := k_X3_signAt l g A M a f L rs hR hL hch q (by omega); rw [← hat] at z; exact z)) (cwV 1 ht (gU uw_445 uw_446 uw_447 uw_40 uw_448) rfl rfl rfl (by decide +kernel) ⟨by decide, by decide⟩) hK hM hS (m_recv hK hM hR.1 hR.2.2.2.1 rfl) rfl hl.1 rfl (Nat.le_of_ble_eq_true rfl) dX2_readOrder_9 ⟨by decide, by decide⟩ (fun H locs hM hS => ?_)
  refine rt_putDk hx hb ht ui_X2 hown hK hM hS hR hF (ht _ uw_254) (sg_chr hch hL q) dX2_readOrder_12 (fun M H locs hM hR hF hS => ?_)
  refine lv_aload_n hx hb dX2_readOrder_15 rfl (lv_at hl 0 rfl) ?_
  refine rt_getD hx hb ht ui_X2 hown hK hM hR 1 (by decide) (ht _ uw_254) dX2_readOrder_16 ?_
  refine lv_bipush (v := 114) hx hb dX2_readOrder_19 (by first | rfl | decide) ?_
  refine lv_icmp_eq (tgt := 35) hx hb dX2_readOrder_21 (by decide) (fun c_21 => ?_) (fun c_21 => ?_)
  · refine lv_aload_n hx hb dX2_readOrder_35 rfl (lv_at hl 0 rfl) ?_
    refine lv_dup hx hb dX2_readOrder_36 rfl ?_
    refine rt_getD hx hb ht ui_X2 hown hK hM hR 0 (by decide) (ht _ uw_253) dX2_readOrder_37 ?_
    refine lv_iconst (v := 1) hx hb dX2_readOrder_40 (by first | rfl | decide) ?_
    refine lv_iadd hx hb dX2_readOrder_41 ?_
    refine rt_putD hx hb ht ui_X2 hown hK hM hS hR hF 0 (by decide) (by decide) (ht _ uw_253) dX2_readOrder_42 (fun M H locs hM hR hF hS => ?_)
    refine lv_aload_n hx hb dX2_readOrder_45 rfl (lv_at hl 0 rfl) ?_
    refine rt_getD hx hb ht ui_X2 hown hK hM hR 1 (by decide) (ht _ uw_254) dX2_readOrder_46 ?_
    refine lv_bipush (v := 114) hx hb dX2_readOrder_49 (by first | rfl | decide) ?_
    refine lv_icmp_ne (tgt := 61) hx hb dX2_readOrder_51 (by decide) (fun c_51 => ?_) (fun c_51 => ?_)
    · refine lv_aload_n hx hb dX2_readOrder_61 rfl (lv_at hl 0 rfl) ?_
      refine m_callI (As := []) (rest := []) ⟨hx, hb, hml, hown, ht⟩ (k_X2_readGauge l g A M a f L (va_up (va_up rs 1 (sgC f L q)) 0 (((va_up rs 1 (sgC f L q)) 0) + (1))) hR hL hch (q + 1) (by omega) (by show rs 0 + 1 = _; rw [hat]; exact nI_1 q)) (cwV 0 ht (gU uw_462 uw_464 uw_9 uw_41 uw_465) rfl rfl rfl (by decide +kernel) ⟨by decide, by decide⟩) hK hM hS (m_recv hK hM hR.2.2.1 hR.2.2.2.2.2 rfl) rfl hl.1 rfl (Nat.le_of_ble_eq_true rfl) dX2_readOrder_62 ⟨by decide, by decide⟩ (fun r1 M H locs hp hM hS => ?_)
      obtain ⟨e_r1, hx2⟩ := hp
      subst hQ
      exact m_zret hx hb hr (by rw [e_r1]; exact nar_ite) hlk hK hM hS dX2_readOrder_65 (by
          obtain ⟨rs1, hR, hF1, k0, k1, k2⟩ := hx2
          have hF := hF.tr hF1
          have c115 : sgC f L q = 115 := by first | exact c_30 | exact absurd c_21 c_51
          rw [ord_s c115]
          exact ⟨e_r1.trans (dec_ite _), rs1, hR, hF, k0, fun z => ⟨k1.trans c115, fun z2 => absurd (show (115 : Int32) = 114 from z2) (by decide), fun _ => k2⟩⟩)
    · refine lv_aload_n hx hb dX2_readOrder_54 rfl (lv_at hl 0 rfl) ?_
      refine m_callI (As := []) (rest := []) ⟨hx, hb, hml, hown, ht⟩ (k_X2_readRain l g A M a f L (va_up (va_up rs 1 (sgC f L q)) 0 (((va_up rs 1 (sgC f L q)) 0) + (1))) hR hL hch (q + 1) (by omega) (by show rs 0 + 1 = _; rw [hat]; exact nI_1 q) (by omega)) (cwV 0 ht (gU uw_449 uw_451 uw_7 uw_41 uw_452) rfl rfl rfl (by decide +kernel) ⟨by decide, by decide⟩) hK hM hS (m_recv hK hM hR.2.2.1 hR.2.2.2.2.2 rfl) rfl hl.1 rfl (Nat.le_of_ble_eq_true rfl) dX2_readOrder_55 ⟨by decide, by decide⟩ (fun r1 M H locs hp hM hS => ?_)
      obtain ⟨e_r1, hx2⟩ := hp
      refine lv_goto (tgt := 65) hx hb dX2_readOrder_58 (by decide) ?_
      subst hQ
      exact m_zret hx hb hr (by rw [e_r1]; exact nar_ite) hlk hK hM hS dX2_readOrder_65 (by
          obtain ⟨rs1, hR, hF1, k0, k1, k2⟩ := hx2
          have hF := hF.tr hF1
          rw [ord_r c_51]
          exact ⟨e_r1, rs1, hR, hF, k0, fun z => ⟨k1.trans c_51, fun _ => k2 z, fun z2 => absurd (show (114 : Int32) = 115 from z2) (by decide)⟩⟩)
  · refine lv_aload_n hx hb dX2_readOrder_24 rfl (lv_at hl 0 rfl) ?_
    refine rt_getD hx hb ht ui_X2 hown hK hM hR 1 (by decide) (ht _ uw_254) dX2_readOrder_25 ?_
    refine lv_bipush (v := 115) hx hb dX2_readOrder_28 (by first | rfl | decide) ?_
    refine lv_icmp_eq (tgt := 35) hx hb dX2_readOrder_30 (by decide) (fun c_30 => ?_) (fun c_30 => ?_)
    · refine lv_aload_n hx hb dX2_readOrder_35 rfl (lv_at hl 0 rfl) ?_
      refine lv_dup hx hb dX2_readOrder_36 rfl ?_
      refine rt_getD hx hb ht ui_X2 hown hK hM hR 0 (by decide) (ht _ uw_253) dX2_readOrder_37 ?_
      refine lv_iconst (v := 1) hx hb dX2_readOrder_40 (by first | rfl | decide) ?_
      refine lv_iadd hx hb dX2_readOrder_41 ?_
      refine rt_putD hx hb ht ui_X2 hown hK hM hS hR hF 0 (by decide) (by decide) (ht _ uw_253) dX2_readOrder_42 (fun M H locs hM hR hF hS => ?_)
      refine lv_aload_n hx hb dX2_readOrder_45 rfl (lv_at hl 0 rfl) ?_
      refine rt_getD hx hb ht ui_X2 hown hK hM hR 1 (by decide) (ht _ uw_254) dX2_readOrder_46 ?_
      refine lv_bipush (v := 114) hx hb dX2_readOrder_49 (by first | rfl | decide) ?_
      refine lv_icmp_ne (tgt := 61) hx hb dX2_readOrder_51 (by decide) (fun c_51 => ?_) (fun c_51 => ?_)
      · refine lv_aload_n hx hb dX2_readOrder_61 rfl (lv_at hl 0 rfl) ?_
        refine m_callI (As := []) (rest := []) ⟨hx, hb, hml, hown, ht⟩ (k_X2_readGauge l g A M a f L (va_up (va_up rs 1 (sgC f L q)) 0 (((va_up rs 1 (sgC f L q)) 0) + (1))) hR hL hch (q + 1) (by omega) (by show rs 0 + 1 = _; rw [hat]; exact nI_1 q)) (cwV 0 ht (gU uw_462 uw_464 uw_9 uw_41 uw_465) rfl rfl rfl (by decide +kernel) ⟨by decide, by decide⟩) hK hM hS (m_recv hK hM hR.2.2.1 hR.2.2.2.2.2 rfl) rfl hl.1 rfl (Nat.le_of_ble_eq_true rfl) dX2_readOrder_62 ⟨by decide, by decide⟩ (fun r1 M H locs hp hM hS => ?_)
        obtain ⟨e_r1, hx2⟩ := hp
        subst hQ
        exact m_zret hx hb hr (by rw [e_r1]; exact nar_ite) hlk hK hM hS dX2_readOrder_65 (by
            obtain ⟨rs1, hR, hF1, k0, k1, k2⟩ := hx2
            have hF := hF.tr hF1
            have c115 : sgC f L q = 115 := by first | exact c_30 | exact absurd c_21 c_51
            rw [ord_s c115]
            exact ⟨e_r1.trans (dec_ite _), rs1, hR, hF, k0, fun z => ⟨k1.trans c115, fun z2 => absurd (show (115 : Int32) = 114 from z2) (by decide), fun _ => k2⟩⟩)
      · refine lv_aload_n hx hb dX2_readOrder_54 rfl (lv_at hl 0 rfl) ?_
        refine m_callI (As := []) (rest := []) ⟨hx, hb, hml, hown, ht⟩ (k_X2_readRain l g A M a f L (va_up (va_up rs 1 (sgC f L q)) 0 (((va_up rs 1 (sgC f L q)) 0) + (1))) hR hL hch (q + 1) (by omega) (by show rs 0 + 1 = _; rw [hat]; exact nI_1 q) (by omega)) (cwV 0 ht (gU uw_449 uw_451 uw_7 uw_41 uw_452) rfl rfl rfl (by decide +kernel) ⟨by decide, by decide⟩) hK hM hS (m_recv hK hM hR.2.2.1 hR.2.2.2.2.2 rfl) rfl hl.1 rfl (Nat.le_of_ble_eq_true rfl) dX2_readOrder_55 ⟨by decide, by decide⟩ (fun r1 M H locs hp hM hS => ?_)
        obtain ⟨e_r1, hx2⟩ := hp
        refine lv_goto (tgt := 65) hx hb dX2_readOrder_58 (by decide) ?_
        subst hQ
        exact m_zret hx hb hr (by rw [e_r1]; exact nar_ite) hlk hK hM hS dX2_readOrder_65 (by
            obtain ⟨rs1, hR, hF1, k0, k1, k2⟩ := hx2
            have hF := hF.tr hF1
            rw [ord_r c_51]
            exact ⟨e_r1, rs1, hR, hF, k0, fun z => ⟨k1.trans c_51, fun _ => k2 z, fun z2 => absurd (show (114 : Int32) = 115 from z2) (by decide)⟩⟩)
    · refine lv_iconst (v := 0) hx hb dX2_readOrder_33 (by first | rfl | decide) ?_
      subst hQ
      exact m_zret hx hb hr (rfl) hlk hK hM hS dX2_readOrder_34 (⟨by rw [ord_n c_21 c_30]; rfl, _, hR, hF, by rw [ord_n c_21 c_30]; exact hat, fun z => by rw [ord_n c_21 c_30] at z; cases z⟩)

set_option maxHeartbeats 4000000 in
set_option maxRecDepth 100000 in
/-- the fault of the pad -/
theorem k_X2_findFault (l : Launch) (g : GG) (A : Nat → Prop) (M0 : MM) (a : Nat) (f : Nat → Int32) (L : Nat) (rs : Nat → Int32) (hR : RepT g A M0 a f (nI L) rs) (hL : L ≤ 60) (hch : ∀ i, i < 60 → narrow .char (.int (f i)) = .int (f i) ∧ fits .char (.int (f i)) = true)  : Met l yX2_findFault (Uw yX2_findFault cX2_findFault 2 (Option.some ClassFile.FieldType.int)) (rmD 5) (PreM [.ref (a + 2)] g A M0) (PosI (fun r M1 => r = (match fauC f L 60 0 with | none => -1000006 | some q => nI q) ∧ ∃ rs1, RepT g A M1 a (f) (nI L) (rs1) ∧ FrT a M0 M1) g A) 0 0 A := by
  refine mk_Met (own := RX2) rfl rfl (by decide) (Nat.le_of_ble_eq_true rfl) ?_
  intro p e s m below meth c ls aa Q haa hQ hx hb hr hlk hml hown hts hK hM hS hl hnm
  obtain ⟨M, hMM⟩ : ∃ M, M = M0 := ⟨_, rfl⟩
  rw [← hMM] at hM hR
  have ht : ∀ w ∈ lw_good, w.before _ s = true := fun w h => hts w (List.mem_cons_of_mem _ h)
  have hF : FrT a M0 M := by rw [hMM]; exact FrT.rf
  have hl : lv_has ls 2 [(0, .ref (a + 2))] := hl
  obtain ⟨w0, hw0⟩ : ∃ w0, w0 = fauC f L 60 0 := ⟨_, rfl⟩
  rw [← hw0] at hQ
  refine lv_aload_n hx hb dX2_findFault_0 rfl (lv_at hl 0 rfl) ?_
  refine m_callV (As := []) (rest := []) ⟨hx, hb, hml, hown, ht⟩ (k_X2_goToStart l g A M a f L rs hR hL) (cwV 0 ht (gU uw_437 uw_438 uw_439 uw_41 uw_440) rfl rfl rfl (by decide +kernel) ⟨by decide, by decide⟩) hK hM hS (m_recv hK hM hR.2.2.1 hR.2.2.2.2.2 rfl) rfl hl.1 rfl (Nat.le_of_ble_eq_true rfl) dX2_findFault_1 ⟨by decide, by decide⟩ (fun M H locs hp hM hS => ?_)
  obtain ⟨hR, hF1⟩ := hp
  have hF := hF.tr hF1
  refine lv_iconst (v := 0) hx hb dX2_findFault_4 (by first | rfl | decide) ?_
  refine lv_istore_n (lv' := [(1, .int (0)), (0, .ref (a + 2))]) hx hb dX2_findFault_5 rfl hl (by decide) rfl (fun ls hl => ?_)
  have loop_6 : ∀ (z_6 : Nat) (o : Nat) (q : Nat) (rs : Nat → Int32) (M : MM) (H : Heap) (locs : List Loc) (ls : Array Slot), 60 - o < z_6 → o ≤ 60 → q ≤ 7 * o → rs 0 = nI q → fauC f L (60 - o) q = w0 → HD g A M H → RepT g A M a f (nI L) rs → FrT a M0 M → va_S A s.heap H locs → lv_has ls 2 [(1, .int (nI o)), (0, .ref (a + 2))] → W p l e (rmD 5) s m aa below meth c H locs 0 0 Q (F0 m 6 ls []) := by
    intro z_6
    induction z_6 with
    | zero => intro o q rs M H locs ls hz ho hq hat hw; exact absurd hz (Nat.not_lt_zero _)
    | succ z_6 ih_6 =>
    intro o q rs M H locs ls hz ho hq hat hw hM hR hF hS hl
    refine lv_iload_n hx hb dX2_findFault_6 rfl (lv_at hl 0 rfl) ?_
    refine lv_bipush (v := 60) hx hb dX2_findFault_7 (by first | rfl | decide) ?_
    refine lv_icmp_ge (tgt := 67) hx hb dX2_findFault_9 (by decide) (fun c_9 => ?_) (fun c_9 => ?_)
    · refine lv_aload_n hx hb dX2_findFault_67 rfl (lv_at hl 1 rfl) ?_
      refine rt_getD hx hb ht ui_X2 hown hK hM hR 0 (by decide) (ht _ uw_253) dX2_findFault_68 ?_
      subst hQ
      exact m_zret hx hb hr (rfl) hlk hK hM hS dX2_findFault_71 (by first | exact ⟨by rw [← hw, fau_0 (nI_le_of (by omega) (by decide) c_9) ho]; exact hat, _, hR, hF⟩ | exact ⟨by rw [← hw, fau_4 ho60 (by rw [e_r1] at c_16; exact ite_no c_16)]; exact k0, _, hR, hF⟩)
    · have ho60 : o < 60 := nI_lt_of (by omega) (by decide) c_9
      refine lv_aload_n hx hb dX2_findFault_12 rfl (lv_at hl 1 rfl) ?_
      refine m_callI (As := []) (rest := []) ⟨hx, hb, hml, hown, ht⟩ (k_X2_readOrder l g A M a f L rs hR hL hch q (by omega) hat (by omega)) (cwV 0 ht (gU uw_441 uw_442 uw_443 uw_41 uw_444) rfl rfl rfl (by decide +kernel) ⟨by decide, by decide⟩) hK hM hS (m_recv hK hM hR.2.2.1 hR.2.2.2.2.2 rfl) rfl hl.1 rfl (Nat.le_of_ble_eq_true rfl) dX2_findFault_13 ⟨by decide, by decide⟩ (fun r1 M H locs hp hM hS => ?_)
      obtain ⟨e_r1, rs1, hR, hF1, k0, -⟩ := hp
      have hF := hF.tr hF1
      refine lv_if_eq (tgt := 67) hx hb dX2_findFault_16 (by decide) (fun c_16 => ?_) (fun c_16 => ?_)
      · refine lv_aload_n hx hb dX2_findFault_67 rfl (lv_at hl 1 rfl) ?_
        refine rt_getD hx hb ht ui_X2 hown hK hM hR 0 (by decide) (ht _ uw_253) dX2_findFault_68 ?_
        subst hQ
        exact m_zret hx hb hr (rfl) hlk hK hM hS dX2_findFault_71 (by first | exact ⟨by rw [← hw, fau_0 (nI_le_of (by omega) (by decide) c_9) ho]; exact hat, _, hR, hF⟩ | exact ⟨by rw [← hw, fau_4 ho60 (by rw [e_r1] at c_16; exact ite_no c_16)]; exact k0, _, hR, hF⟩)
      · have ok : (ordC f L q).1 = true := by rw [e_r1] at c_16; exact ite_ok c_16
        have hq5 := ordC_q f L q
        refine lv_aload_n hx hb dX2_findFault_19 rfl (lv_at hl 1 rfl) ?_
        refine rt_getD hx hb ht ui_X2 hown hK hM hR 0 (by decide) (ht _ uw_253) dX2_findFault_20 ?_
        refine lv_aload_n hx hb dX2_findFault_23 rfl (lv_at hl 1 rfl) ?_
        refine rt_getDp hx hb ht ui_X2 hown hK hM hR (ht _ uw_252) dX2_findFault_24 ?_
        refine rt_getPl hx hb ht ui_X3 hown hK hM hR (ht _ uw_237) dX2_findFault_27 ?_
        refine lv_icmp_lt (tgt := 36) hx hb dX2_findFault_30 (by decide) (fun c_30 => ?_) (fun c_30 => ?_)
        · refine lv_aload_n hx hb dX2_findFault_36 rfl (lv_at hl 1 rfl) ?_
          refine rt_getDp hx hb ht ui_X2 hown hK hM hR (ht _ uw_252) dX2_findFault_37 ?_
          refine lv_aload_n hx hb dX2_findFault_40 rfl (lv_at hl 1 rfl) ?_
          refine rt_getD hx hb ht ui_X2 hown hK hM hR 0 (by decide) (ht _ uw_253) dX2_findFault_41 ?_
          refine m_callRI (val := sgC f L (ordC f L q).2.1) (As := [.int (rs1 0)]) (rest := []) ⟨hx, hb, hml, hown, ht⟩ ((by have z := k_X3_signAt l g A M a f L rs1 hR hL hch (ordC f L q).2.1 (by have := ordC_q f L q; omega); rw [← k0] at z; exact z)) (cwV 1 ht (gU uw_445 uw_446 uw_447 uw_40 uw_448) rfl rfl rfl (by decide +kernel) ⟨by decide, by decide⟩) hK hM hS (m_recv hK hM hR.1 hR.2.2.2.1 rfl) rfl hl.1 rfl (Nat.le_of_ble_eq_true rfl) dX2_findFault_44 ⟨by decide, by decide⟩ (fun H locs hM hS => ?_)
          refine lv_bipush (v := 59) hx hb dX2_findFault_47 (by first | rfl | decide) ?_
          refine lv_icmp_eq (tgt := 57) hx hb dX2_findFault_49 (by decide) (fun c_49 => ?_) (fun c_49 => ?_)
          · refine lv_aload_n hx hb dX2_findFault_57 rfl (lv_at hl 1 rfl) ?_
            refine m_callV (As := []) (rest := []) ⟨hx, hb, hml, hown, ht⟩ (k_X2_passSeparator l g A M a f L rs1 hR hL) (cwV 0 ht (gU uw_467 uw_468 uw_469 uw_41 uw_470) rfl rfl rfl (by decide +kernel) ⟨by decide, by decide⟩) hK hM hS (m_recv hK hM hR.2.2.1 hR.2.2.2.2.2 rfl) rfl hl.1 rfl (Nat.le_of_ble_eq_true rfl) dX2_findFault_58 ⟨by decide, by decide⟩ (fun M H locs hp hM hS => ?_)
            obtain ⟨hR, hF1⟩ := hp
            have hF := hF.tr hF1
            refine lv_iinc (v := nI (o + 1)) (lv' := [(1, .int (nI (o + 1))), (0, .ref (a + 2))]) hx hb dX2_findFault_61 hl (k := 0) rfl (nI_1 _) (by decide) rfl (fun ls hl => ?_)
            refine lv_goto (tgt := 6) hx hb dX2_findFault_64 (by decide) ?_
            exact ih_6 (o + 1) ((ordC f L q).2.1 + 1) _ _ _ _ _ (by omega) (by omega) (by have := ordC_q f L q; omega) (by show rs1 0 + 1 = _; rw [k0]; exact nI_1 _) (by rw [← hw]; exact fau_3 ho60 ok c_30 c_49) hM hR hF hS (lv_sub hl [0, 1] rfl)
          · refine lv_aload_n hx hb dX2_findFault_52 rfl (lv_at hl 1 rfl) ?_
            refine rt_getD hx hb ht ui_X2 hown hK hM hR 0 (by decide) (ht _ uw_253) dX2_findFault_53 ?_
            subst hQ
            exact m_zret hx hb hr (rfl) hlk hK hM hS dX2_findFault_56 (⟨by rw [← hw, fau_2 ho60 ok (nI_nlt_of (by omega) (by omega) (by rw [← k0]; exact c_30)) c_49]; exact k0, rs1, hR, hF⟩)
        · refine lv_ldc (v := (-1000006)) hx hb hown (ht _ uw_466) dX2_findFault_33 ?_
          subst hQ
          exact m_zret hx hb hr (rfl) hlk hK hM hS dX2_findFault_35 (⟨by rw [← hw, fau_1 ho60 ok (nI_le_of (by omega) (by omega) (by rw [← k0]; exact Int32.not_lt.mp c_30))], rs1, hR, hF⟩)
  exact loop_6 _ 0 0 (va_up rs 0 0) _ _ _ _ (Nat.lt_succ_self _) (by omega) (by omega) rfl hw0.symm hM hR hF hS (lv_sub hl [0, 1] rfl)

set_option maxHeartbeats 4000000 in
set_option maxRecDepth 100000 in
/-- whether a value lies in a range -/
theorem k_X7_within (l : Launch) (g : GG) (A : Nat → Prop) (M0 : MM) (x lo hi : Int32) : Met l yX7_within (Uw yX7_within cX7_within 3 (Option.some ClassFile.FieldType.boolean)) (rmD 0) (PreM [.int (x), .int (lo), .int (hi)] g A M0) (PosI (fun r M1 => r = (winC x lo hi) ∧ M1 = M0) g A) 0 0 A := by
  refine mk_Met (own := RX7) rfl rfl (by decide) (Nat.le_of_ble_eq_true rfl) ?_
  intro p e s m below meth c ls aa Q haa hQ hx hb hr hlk hml hown hts hK hM hS hl hnm
  obtain ⟨M, hMM⟩ : ∃ M, M = M0 := ⟨_, rfl⟩
  rw [← hMM] at hM
  have ht : ∀ w ∈ lw_good, w.before _ s = true := fun w h => hts w (List.mem_cons_of_mem _ h)
  have hl : lv_has ls 3 [(0, .int (x)), (1, .int (lo)), (2, .int (hi))] := hl
  refine lv_iload_n hx hb dX7_within_0 rfl (lv_at hl 0 rfl) ?_
  refine lv_iload_n hx hb dX7_within_1 rfl (lv_at hl 1 rfl) ?_
  refine lv_icmp_lt (tgt := 14) hx hb dX7_within_2 (by decide) (fun c_2 => ?_) (fun c_2 => ?_)
  · refine lv_iconst (v := 0) hx hb dX7_within_14 (by first | rfl | decide) ?_
    subst hQ
    exact m_zret hx hb hr (rfl) hlk hK hM hS dX7_within_15 (⟨by first | exact win_1 c_2 | exact win_2 c_7, hMM⟩)
  · refine lv_iload_n hx hb dX7_within_5 rfl (lv_at hl 0 rfl) ?_
    refine lv_iload_n hx hb dX7_within_6 rfl (lv_at hl 2 rfl) ?_
    refine lv_icmp_gt (tgt := 14) hx hb dX7_within_7 (by decide) (fun c_7 => ?_) (fun c_7 => ?_)
    · refine lv_iconst (v := 0) hx hb dX7_within_14 (by first | rfl | decide) ?_
      subst hQ
      exact m_zret hx hb hr (rfl) hlk hK hM hS dX7_within_15 (⟨by first | exact win_1 c_2 | exact win_2 c_7, hMM⟩)
    · refine lv_iconst (v := 1) hx hb dX7_within_10 (by first | rfl | decide) ?_
      refine lv_goto (tgt := 15) hx hb dX7_within_11 (by decide) ?_
      subst hQ
      exact m_zret hx hb hr (rfl) hlk hK hM hS dX7_within_15 (⟨win_y c_2 c_7, hMM⟩)

set_option maxHeartbeats 4000000 in
set_option maxRecDepth 100000 in
/-- the code at a place, counted from the last character -/
theorem k_X7_codeAt (l : Launch) (g : GG) (A : Nat → Prop) (M0 : MM) (x : Int64) (q : Int32) : Met l yX7_codeAt (Uw yX7_codeAt cX7_codeAt 3 (Option.some ClassFile.FieldType.int)) (rmD 0) (PreM [.long (x), .int (q)] g A M0) (PosI (fun r M1 => r = (codC x q) ∧ M1 = M0) g A) 0 0 A := by
  refine mk_Met (own := RX7) rfl rfl (by decide) (Nat.le_of_ble_eq_true rfl) ?_
  intro p e s m below meth c ls aa Q haa hQ hx hb hr hlk hml hown hts hK hM hS hl hnm
  obtain ⟨M, hMM⟩ : ∃ M, M = M0 := ⟨_, rfl⟩
  rw [← hMM] at hM
  have ht : ∀ w ∈ lw_good, w.before _ s = true := fun w h => hts w (List.mem_cons_of_mem _ h)
  have hl : lv_has ls 3 [(0, .long (x)), (2, .int (q))] := hl
  refine lv_lload_n hx hb dX7_codeAt_0 rfl (lv_at hl 0 rfl) ?_
  refine lv_bipush (v := 8) hx hb dX7_codeAt_1 (by first | rfl | decide) ?_
  refine lv_iload_n hx hb dX7_codeAt_3 rfl (lv_at hl 1 rfl) ?_
  refine lv_imul hx hb dX7_codeAt_4 ?_
  refine lv_lushr (v := ((x).toUInt64 >>> (((8) * (q)).toInt64.toUInt64 &&& Int64.toUInt64 63)).toInt64) hx hb dX7_codeAt_5 rfl ?_
  refine lv_l2i (v := (((x).toUInt64 >>> (((8) * (q)).toInt64.toUInt64 &&& Int64.toUInt64 63)).toInt64).toInt32) hx hb dX7_codeAt_6 rfl ?_
  refine lv_sipush (v := 255) hx hb dX7_codeAt_7 (by first | rfl | decide) ?_
  refine lv_iand hx hb dX7_codeAt_10 ?_
  subst hQ
  exact m_zret hx hb hr (rfl) hlk hK hM hS dX7_codeAt_11 (⟨rfl, hMM⟩)

set_option maxHeartbeats 4000000 in
set_option maxRecDepth 100000 in
/-- how many characters a number holds -/
theorem k_X7_charactersIn (l : Launch) (g : GG) (A : Nat → Prop) (M0 : MM) (x : Int64) : Met l yX7_charactersIn (Uw yX7_charactersIn cX7_charactersIn 4 (Option.some ClassFile.FieldType.int)) (rmD 1) (PreM [.long (x)] g A M0) (PosI (fun r M1 => r = (chC x) ∧ M1 = M0) g A) 0 0 A := by
  refine mk_Met (own := RX7) rfl rfl (by decide) (Nat.le_of_ble_eq_true rfl) ?_
  intro p e s m below meth c ls aa Q haa hQ hx hb hr hlk hml hown hts hK hM hS hl hnm
  obtain ⟨M, hMM⟩ : ∃ M, M = M0 := ⟨_, rfl⟩
  rw [← hMM] at hM
  have ht : ∀ w ∈ lw_good, w.before _ s = true := fun w h => hts w (List.mem_cons_of_mem _ h)
  have hl : lv_has ls 4 [(0, .long (x))] := hl
  obtain ⟨w0, hw0⟩ : ∃ w0, w0 = chW x 8 0 := ⟨_, rfl⟩
  refine lv_iconst (v := 0) hx hb dX7_charactersIn_0 (by first | rfl | decide) ?_
  refine lv_istore_n (lv' := [(2, .int (0)), (0, .long (x))]) hx hb dX7_charactersIn_1 rfl hl (by decide) rfl (fun ls hl => ?_)
  have loop_2 : ∀ (z_2 : Nat) (q : Nat) (H : Heap) (locs : List Loc) (ls : Array Slot), 8 - q < z_2 → q ≤ 8 → chW x (8 - q) q = w0 → HD g A M H → va_S A s.heap H locs → lv_has ls 4 [(2, .int (nI q)), (0, .long (x))] → W p l e (rmD 1) s m aa below meth c H locs 0 0 Q (F0 m 2 ls []) := by
    intro z_2
    induction z_2 with
    | zero => intro q H locs ls hz hq hw; exact absurd hz (Nat.not_lt_zero _)
    | succ z_2 ih_2 =>
    intro q H locs ls hz hq hw hM  hS hl
    refine lv_iload_n hx hb dX7_charactersIn_2 rfl (lv_at hl 0 rfl) ?_
    refine lv_bipush (v := 8) hx hb dX7_charactersIn_3 (by first | rfl | decide) ?_
    refine lv_icmp_ge (tgt := 39) hx hb dX7_charactersIn_5 (by decide) (fun c_5 => ?_) (fun c_5 => ?_)
    · have hwq : w0 = some q := by
        rw [← hw]
        first
          | exact chw_0 (nI_le_of (by omega) (by decide) c_5) hq
          | exact chw_1 (nI_lt_of (by omega) (by decide) c_5) c_13
      refine lv_iload_n hx hb dX7_charactersIn_39 rfl (lv_at hl 0 rfl) ?_
      refine lv_bipush (v := 8) hx hb dX7_charactersIn_40 (by first | rfl | decide) ?_
      refine lv_icmp_eq (tgt := 56) hx hb dX7_charactersIn_42 (by decide) (fun c_42 => ?_) (fun c_42 => ?_)
      · refine lv_iconst (v := 1) hx hb dX7_charactersIn_56 (by first | rfl | decide) ?_
        refine lv_goto (tgt := 61) hx hb dX7_charactersIn_57 (by decide) ?_
        refine lv_istore_n (lv' := [(3, .int (1)), (2, .int (nI q)), (0, .long (x))]) hx hb dX7_charactersIn_61 rfl hl (by decide) rfl (fun ls hl => ?_)
        refine lv_iload_n hx hb dX7_charactersIn_62 rfl (lv_at hl 0 rfl) ?_
        refine lv_if_eq (tgt := 70) hx hb dX7_charactersIn_63 (by decide) (fun c_63 => ?_) (fun c_63 => ?_)
        · refine lv_iconst (v := 0) hx hb dX7_charactersIn_70 (by first | rfl | decide) ?_
          subst hQ
          exact m_zret hx hb hr (rfl) hlk hK hM hS dX7_charactersIn_71 (⟨by first | exact chc_c (hw0.symm.trans hwq) c_42 c_53 | exact absurd (show (1 : Int32) = 0 from c_63) (by decide), hMM⟩)
        · refine lv_iload_n hx hb dX7_charactersIn_66 rfl (lv_at hl 1 rfl) ?_
          refine lv_goto (tgt := 71) hx hb dX7_charactersIn_67 (by decide) ?_
          subst hQ
          exact m_zret hx hb hr (rfl) hlk hK hM hS dX7_charactersIn_71 (⟨by first | exact chc_a (hw0.symm.trans hwq) c_42 | exact chc_b (hw0.symm.trans hwq) c_53 | exact absurd c_63 (by decide), hMM⟩)
      · refine lv_lload_n hx hb dX7_charactersIn_45 rfl (lv_at hl 1 rfl) ?_
        refine lv_bipush (v := 8) hx hb dX7_charactersIn_46 (by first | rfl | decide) ?_
        refine lv_iload_n hx hb dX7_charactersIn_48 rfl (lv_at hl 0 rfl) ?_
        refine lv_imul hx hb dX7_charactersIn_49 ?_
        refine lv_lushr (v := ((x).toUInt64 >>> (((8) * (nI q)).toInt64.toUInt64 &&& Int64.toUInt64 63)).toInt64) hx hb dX7_charactersIn_50 rfl ?_
        refine lv_lconst (v := 0) hx hb dX7_charactersIn_51 rfl ?_
        refine W.lcmp hx hb dX7_charactersIn_52 ?_
        refine lv_if_ne (tgt := 60) hx hb dX7_charactersIn_53 (by decide) (fun c_53 => ?_) (fun c_53 => ?_)
        · refine lv_iconst (v := 0) hx hb dX7_charactersIn_60 (by first | rfl | decide) ?_
          refine lv_istore_n (lv' := [(3, .int (0)), (2, .int (nI q)), (0, .long (x))]) hx hb dX7_charactersIn_61 rfl hl (by decide) rfl (fun ls hl => ?_)
          refine lv_iload_n hx hb dX7_charactersIn_62 rfl (lv_at hl 0 rfl) ?_
          refine lv_if_eq (tgt := 70) hx hb dX7_charactersIn_63 (by decide) (fun c_63 => ?_) (fun c_63 => ?_)
          · refine lv_iconst (v := 0) hx hb dX7_charactersIn_70 (by first | rfl | decide) ?_
            subst hQ
            exact m_zret hx hb hr (rfl) hlk hK hM hS dX7_charactersIn_71 (⟨by first | exact chc_c (hw0.symm.trans hwq) c_42 c_53 | exact absurd (show (1 : Int32) = 0 from c_63) (by decide), hMM⟩)
          · refine lv_iload_n hx hb dX7_charactersIn_66 rfl (lv_at hl 1 rfl) ?_
            refine lv_goto (tgt := 71) hx hb dX7_charactersIn_67 (by decide) ?_
            subst hQ
            exact m_zret hx hb hr (rfl) hlk hK hM hS dX7_charactersIn_71 (⟨by first | exact chc_a (hw0.symm.trans hwq) c_42 | exact chc_b (hw0.symm.trans hwq) c_53 | exact absurd c_63 (by decide), hMM⟩)
        · refine lv_iconst (v := 1) hx hb dX7_charactersIn_56 (by first | rfl | decide) ?_
          refine lv_goto (tgt := 61) hx hb dX7_charactersIn_57 (by decide) ?_
          refine lv_istore_n (lv' := [(3, .int (1)), (2, .int (nI q)), (0, .long (x))]) hx hb dX7_charactersIn_61 rfl hl (by decide) rfl (fun ls hl => ?_)
          refine lv_iload_n hx hb dX7_charactersIn_62 rfl (lv_at hl 0 rfl) ?_
          refine lv_if_eq (tgt := 70) hx hb dX7_charactersIn_63 (by decide) (fun c_63 => ?_) (fun c_63 => ?_)
          · refine lv_iconst (v := 0) hx hb dX7_charactersIn_70 (by first | rfl | decide) ?_
            subst hQ
            exact m_zret hx hb hr (rfl) hlk hK hM hS dX7_charactersIn_71 (⟨by first | exact chc_c (hw0.symm.trans hwq) c_42 c_53 | exact absurd (show (1 : Int32) = 0 from c_63) (by decide), hMM⟩)
          · refine lv_iload_n hx hb dX7_charactersIn_66 rfl (lv_at hl 1 rfl) ?_
            refine lv_goto (tgt := 71) hx hb dX7_charactersIn_67 (by decide) ?_
            subst hQ
            exact m_zret hx hb hr (rfl) hlk hK hM hS dX7_charactersIn_71 (⟨by first | exact chc_a (hw0.symm.trans hwq) c_42 | exact chc_b (hw0.symm.trans hwq) c_53 | exact absurd c_63 (by decide), hMM⟩)
    · have hq8 : q < 8 := nI_lt_of (by omega) (by decide) c_5
      refine lv_lload_n hx hb dX7_charactersIn_8 rfl (lv_at hl 1 rfl) ?_
      refine lv_iload_n hx hb dX7_charactersIn_9 rfl (lv_at hl 0 rfl) ?_
      refine m_callRSI (val := codC x (nI q)) (As := [.long (x), .int (nI q)]) (rest := []) ⟨hx, hb, hml, hown, ht⟩ (k_X7_codeAt l g A M x (nI q)) (cwS 2 ht (gUS uw_556 uw_557 uw_34 uw_558) rfl rfl rfl (by decide +kernel) ⟨by decide, by decide⟩) hK hM hS rfl hl.1 rfl (Nat.le_of_ble_eq_true rfl) dX7_charactersIn_10 ⟨by decide, by decide⟩ (fun H locs hM hS => ?_)
      refine lv_if_eq (tgt := 39) hx hb dX7_charactersIn_13 (by decide) (fun c_13 => ?_) (fun c_13 => ?_)
      · have hwq : w0 = some q := by
          rw [← hw]
          first
            | exact chw_0 (nI_le_of (by omega) (by decide) c_5) hq
            | exact chw_1 (nI_lt_of (by omega) (by decide) c_5) c_13
        refine lv_iload_n hx hb dX7_charactersIn_39 rfl (lv_at hl 0 rfl) ?_
        refine lv_bipush (v := 8) hx hb dX7_charactersIn_40 (by first | rfl | decide) ?_
        refine lv_icmp_eq (tgt := 56) hx hb dX7_charactersIn_42 (by decide) (fun c_42 => ?_) (fun c_42 => ?_)
        · refine lv_iconst (v := 1) hx hb dX7_charactersIn_56 (by first | rfl | decide) ?_
          refine lv_goto (tgt := 61) hx hb dX7_charactersIn_57 (by decide) ?_
          refine lv_istore_n (lv' := [(3, .int (1)), (2, .int (nI q)), (0, .long (x))]) hx hb dX7_charactersIn_61 rfl hl (by decide) rfl (fun ls hl => ?_)
          refine lv_iload_n hx hb dX7_charactersIn_62 rfl (lv_at hl 0 rfl) ?_
          refine lv_if_eq (tgt := 70) hx hb dX7_charactersIn_63 (by decide) (fun c_63 => ?_) (fun c_63 => ?_)
          · refine lv_iconst (v := 0) hx hb dX7_charactersIn_70 (by first | rfl | decide) ?_
            subst hQ
            exact m_zret hx hb hr (rfl) hlk hK hM hS dX7_charactersIn_71 (⟨by first | exact chc_c (hw0.symm.trans hwq) c_42 c_53 | exact absurd (show (1 : Int32) = 0 from c_63) (by decide), hMM⟩)
          · refine lv_iload_n hx hb dX7_charactersIn_66 rfl (lv_at hl 1 rfl) ?_
            refine lv_goto (tgt := 71) hx hb dX7_charactersIn_67 (by decide) ?_
            subst hQ
            exact m_zret hx hb hr (rfl) hlk hK hM hS dX7_charactersIn_71 (⟨by first | exact chc_a (hw0.symm.trans hwq) c_42 | exact chc_b (hw0.symm.trans hwq) c_53 | exact absurd c_63 (by decide), hMM⟩)
        · refine lv_lload_n hx hb dX7_charactersIn_45 rfl (lv_at hl 1 rfl) ?_
          refine lv_bipush (v := 8) hx hb dX7_charactersIn_46 (by first | rfl | decide) ?_
          refine lv_iload_n hx hb dX7_charactersIn_48 rfl (lv_at hl 0 rfl) ?_
          refine lv_imul hx hb dX7_charactersIn_49 ?_
          refine lv_lushr (v := ((x).toUInt64 >>> (((8) * (nI q)).toInt64.toUInt64 &&& Int64.toUInt64 63)).toInt64) hx hb dX7_charactersIn_50 rfl ?_
          refine lv_lconst (v := 0) hx hb dX7_charactersIn_51 rfl ?_
          refine W.lcmp hx hb dX7_charactersIn_52 ?_
          refine lv_if_ne (tgt := 60) hx hb dX7_charactersIn_53 (by decide) (fun c_53 => ?_) (fun c_53 => ?_)
          · refine lv_iconst (v := 0) hx hb dX7_charactersIn_60 (by first | rfl | decide) ?_
            refine lv_istore_n (lv' := [(3, .int (0)), (2, .int (nI q)), (0, .long (x))]) hx hb dX7_charactersIn_61 rfl hl (by decide) rfl (fun ls hl => ?_)
            refine lv_iload_n hx hb dX7_charactersIn_62 rfl (lv_at hl 0 rfl) ?_
            refine lv_if_eq (tgt := 70) hx hb dX7_charactersIn_63 (by decide) (fun c_63 => ?_) (fun c_63 => ?_)
            · refine lv_iconst (v := 0) hx hb dX7_charactersIn_70 (by first | rfl | decide) ?_
              subst hQ
              exact m_zret hx hb hr (rfl) hlk hK hM hS dX7_charactersIn_71 (⟨by first | exact chc_c (hw0.symm.trans hwq) c_42 c_53 | exact absurd (show (1 : Int32) = 0 from c_63) (by decide), hMM⟩)
            · refine lv_iload_n hx hb dX7_charactersIn_66 rfl (lv_at hl 1 rfl) ?_
              refine lv_goto (tgt := 71) hx hb dX7_charactersIn_67 (by decide) ?_
              subst hQ
              exact m_zret hx hb hr (rfl) hlk hK hM hS dX7_charactersIn_71 (⟨by first | exact chc_a (hw0.symm.trans hwq) c_42 | exact chc_b (hw0.symm.trans hwq) c_53 | exact absurd c_63 (by decide), hMM⟩)
          · refine lv_iconst (v := 1) hx hb dX7_charactersIn_56 (by first | rfl | decide) ?_
            refine lv_goto (tgt := 61) hx hb dX7_charactersIn_57 (by decide) ?_
            refine lv_istore_n (lv' := [(3, .int (1)), (2, .int (nI q)), (0, .long (x))]) hx hb dX7_charactersIn_61 rfl hl (by decide) rfl (fun ls hl => ?_)
            refine lv_iload_n hx hb dX7_charactersIn_62 rfl (lv_at hl 0 rfl) ?_
            refine lv_if_eq (tgt := 70) hx hb dX7_charactersIn_63 (by decide) (fun c_63 => ?_) (fun c_63 => ?_)
            · refine lv_iconst (v := 0) hx hb dX7_charactersIn_70 (by first | rfl | decide) ?_
              subst hQ
              exact m_zret hx hb hr (rfl) hlk hK hM hS dX7_charactersIn_71 (⟨by first | exact chc_c (hw0.symm.trans hwq) c_42 c_53 | exact absurd (show (1 : Int32) = 0 from c_63) (by decide), hMM⟩)
            · refine lv_iload_n hx hb dX7_charactersIn_66 rfl (lv_at hl 1 rfl) ?_
              refine lv_goto (tgt := 71) hx hb dX7_charactersIn_67 (by decide) ?_
              subst hQ
              exact m_zret hx hb hr (rfl) hlk hK hM hS dX7_charactersIn_71 (⟨by first | exact chc_a (hw0.symm.trans hwq) c_42 | exact chc_b (hw0.symm.trans hwq) c_53 | exact absurd c_63 (by decide), hMM⟩)
      · refine lv_lload_n hx hb dX7_charactersIn_16 rfl (lv_at hl 1 rfl) ?_
        refine lv_iload_n hx hb dX7_charactersIn_17 rfl (lv_at hl 0 rfl) ?_
        refine m_callRSI (val := codC x (nI q)) (As := [.long (x), .int (nI q)]) (rest := []) ⟨hx, hb, hml, hown, ht⟩ (k_X7_codeAt l g A M x (nI q)) (cwS 2 ht (gUS uw_556 uw_557 uw_34 uw_558) rfl rfl rfl (by decide +kernel) ⟨by decide, by decide⟩) hK hM hS rfl hl.1 rfl (Nat.le_of_ble_eq_true rfl) dX7_charactersIn_18 ⟨by decide, by decide⟩ (fun H locs hM hS => ?_)
        refine lv_bipush (v := 33) hx hb dX7_charactersIn_21 (by first | rfl | decide) ?_
        refine lv_bipush (v := 126) hx hb dX7_charactersIn_23 (by first | rfl | decide) ?_
        refine m_callRSI (val := winC (codC x (nI q)) (33) (126)) (As := [.int (codC x (nI q)), .int (33), .int (126)]) (rest := []) ⟨hx, hb, hml, hown, ht⟩ (k_X7_within l g A M (codC x (nI q)) (33) (126)) (cwS 3 ht (gUS uw_301 uw_302 uw_34 uw_303) rfl rfl rfl (by decide +kernel) ⟨by decide, by decide⟩) hK hM hS rfl hl.1 rfl (Nat.le_of_ble_eq_true rfl) dX7_charactersIn_25 ⟨by decide, by decide⟩ (fun H locs hM hS => ?_)
        refine lv_if_ne (tgt := 33) hx hb dX7_charactersIn_28 (by decide) (fun c_28 => ?_) (fun c_28 => ?_)
        · refine lv_iinc (v := nI (q + 1)) (lv' := [(2, .int (nI (q + 1))), (0, .long (x))]) hx hb dX7_charactersIn_33 hl (k := 0) rfl (nI_1 _) (by decide) rfl (fun ls hl => ?_)
          refine lv_goto (tgt := 2) hx hb dX7_charactersIn_36 (by decide) ?_
          exact ih_2 (q + 1) _ _ _ (by omega) (by omega) (by rw [← hw]; exact chw_3 hq8 c_13 c_28) hM hS (lv_sub hl [0, 1] rfl)
        · refine lv_iconst (v := 0) hx hb dX7_charactersIn_31 (by first | rfl | decide) ?_
          subst hQ
          exact m_zret hx hb hr (rfl) hlk hK hM hS dX7_charactersIn_32 (⟨chc_n (by rw [← hw0, ← hw]; exact chw_2 hq8 c_13 c_28), hMM⟩)
  exact loop_2 _ 0 _ _ _ (Nat.lt_succ_self _) (by omega) hw0.symm hM hS (lv_sub hl [0, 1] rfl)
end
section
/-! THE HISTORY: its object h, the array h+1 of its states (permuted by ρ), six valleys from h+2 on -/
abbrev hiE (h : Nat) (sz : Int32) : va_E := .inr (1, [.ref (h + 1), .int sz])
abbrev haE (g : GG) (h : Nat) (ρ : Nat → Nat) : va_E := .inl (g.2 5, 6, .inr (.inr (.inr (.inr (fun j => some (h + 2 + 35 * ρ j))))))
def RepH (g : GG) (A : Nat → Prop) (M : MM) (h : Nat) (ρ : Nat → Nat) (πs : Nat → Nat → Nat) (vs : Nat → VV) (sz : Int32) : Prop :=
  A h ∧ A (h + 1) ∧ Perm 6 ρ ∧ M h = hiE h sz ∧ M (h + 1) = haE g h ρ ∧ ∀ i, i < 6 → RepV g A M (h + 2 + 35 * ρ i) (πs i) (vs i)
def FrH (h : Nat) (M0 M : MM) : Prop := ∀ q, ¬ (h ≤ q ∧ q < h + 212) → M q = M0 q
theorem FrH.rf {h : Nat} {M : MM} : FrH h M M := fun _ _ => rfl
theorem FrH.tr {h : Nat} {M0 M1 M2 : MM} (h1 : FrH h M0 M1) (h2 : FrH h M1 M2) : FrH h M0 M2 := fun q z => (h2 q z).trans (h1 q z)
theorem FrH.up {h : Nat} {M0 M : MM} (hF : FrH h M0 M) {q : Nat} {e : va_E} (h1 : h ≤ q) (h2 : q < h + 212) : FrH h M0 (va_up M q e) := fun z w => by
  rw [va_up_ne _ _ (by omega)]
  exact hF z w
def FrHB (h b0 : Nat) (M0 M : MM) : Prop := ∀ q, ¬ (h ≤ q ∧ q < h + 212) → ¬ (b0 ≤ q ∧ q < b0 + 35) → M q = M0 q
theorem FrHB.of {h b0 : Nat} {M0 M1 M2 : MM} (h1 : FrH h M0 M1) (h2 : FrV b0 M1 M2) : FrHB h b0 M0 M2 := fun q z1 z2 => (h2 q z2).trans (h1 q z1)
theorem rhoF_up (F : Nat → Nat) (k i : Nat) (hk : k ≤ i) (π : Nat → Nat) : va_up (fun j => some (F (rhoN k i π j))) i (some (F (π (i + 1)))) = fun j => some (F (rhoN k (i + 1) π j)) := by
  funext j
  unfold va_up rhoN
  dsimp only
  by_cases h : j = i
  · subst h
    rw [if_pos rfl, if_pos (by omega)]
  · rw [if_neg h]
    by_cases h2 : k ≤ j ∧ j < i
    · rw [if_pos h2, if_pos (by omega)]
    · rw [if_neg h2, if_neg (by omega)]
theorem rhoF_end (F : Nat → Nat) (k n : Nat) (hk : k < n) (π : Nat → Nat) : va_up (fun j => some (F (rhoN k (n - 1) π j))) (n - 1) (some (F (π k))) = fun j => some (F (rotN k n π j)) := by
  funext j
  unfold va_up rhoN rotN
  dsimp only
  by_cases h : j + 1 = n
  · rw [if_pos (by omega), if_pos h]
  · rw [if_neg (by omega), if_neg h]
    by_cases h2 : k ≤ j ∧ j < n - 1
    · rw [if_pos h2, if_pos (by omega)]
    · rw [if_neg h2, if_neg (by omega)]
theorem RepV.frH {g : GG} {A : Nat → Prop} {M0 M : MM} {b h : Nat} {π : Nat → Nat} {v : VV} (hV : RepV g A M0 b π v) (hF : FrH h M0 M) (hd : b + 35 ≤ h ∨ h + 212 ≤ b) : RepV g A M b π v := by
  obtain ⟨h1, h2, h3, h4, h5, h6, h7, h8⟩ := hV
  refine ⟨h1, h2, ?_, ?_, ?_, fun i hi => ?_, fun i hi => ?_, fun j hj => ?_⟩
  · rw [hF _ (by omega)]; exact h3
  · rw [hF _ (by omega)]; exact h4
  · rw [hF _ (by omega)]; exact h5
  · rw [hF _ (by omega)]; exact h6 i hi
  · rw [hF _ (by omega)]; exact h7 i hi
  · have := h2.1 j hj
    rw [hF _ (by omega)]; exact h8 j hj
section
variable {g : GG} {A : Nat → Prop} {M M0 M1 : MM} {h : Nat} {ρ : Nat → Nat} {πs : Nat → Nat → Nat} {vs : Nat → VV} {sz : Int32}
theorem RepH.V (hR : RepH g A M h ρ πs vs sz) {i : Nat} (hi : i < 6) : RepV g A M (h + 2 + 35 * ρ i) (πs i) (vs i) := hR.2.2.2.2.2 i hi
theorem RepH.lt (hR : RepH g A M h ρ πs vs sz) {i : Nat} (hi : i < 6) : ρ i < 6 := hR.2.2.1.1 i hi
theorem RepH.dj (hR : RepH g A M h ρ πs vs sz) {i : Nat} (hi : i < 6) {b0 : Nat} (hd : b0 + 35 ≤ h ∨ h + 212 ≤ b0) : b0 + 35 ≤ h + 2 + 35 * ρ i ∨ h + 2 + 35 * ρ i + 35 ≤ b0 := by
  have := hR.lt hi
  omega
theorem RepH.dj2 (hR : RepH g A M h ρ πs vs sz) {i : Nat} (hi : i < 6) {b0 : Nat} (hd : b0 + 35 ≤ h ∨ h + 212 ≤ b0) : h + 2 + 35 * ρ i + 35 ≤ b0 ∨ b0 + 35 ≤ h + 2 + 35 * ρ i := by
  have := hR.lt hi
  omega
theorem RepH.frV (hR : RepH g A M h ρ πs vs sz) {i : Nat} (hi : i < 6) (hF : FrV (h + 2 + 35 * ρ i) M M1) : FrH h M M1 := fun q hq => hF q (by have := hR.lt hi; omega)
theorem RepH.frB {b0 : Nat} (hR : RepH g A M h ρ πs vs sz) (hF : FrV b0 M M1) (hd : b0 + 35 ≤ h ∨ h + 212 ≤ b0) : RepH g A M1 h ρ πs vs sz := by
  obtain ⟨h1, h2, h3, h4, h5, h6⟩ := hR
  exact ⟨h1, h2, h3, by rw [hF _ (by omega)]; exact h4, by rw [hF _ (by omega)]; exact h5, fun i hi => (h6 i hi).fr hF (by have := h3.1 i hi; omega)⟩
theorem RepH.agr (hR : RepH g A M h ρ πs vs sz) (ha : ∀ q, h ≤ q → q < h + 212 → M1 q = M q) : RepH g A M1 h ρ πs vs sz := by
  obtain ⟨h1, h2, h3, h4, h5, h6⟩ := hR
  refine ⟨h1, h2, h3, by rw [ha _ (by omega) (by omega)]; exact h4, by rw [ha _ (by omega) (by omega)]; exact h5, fun i hi => ?_⟩
  have hl := h3.1 i hi
  obtain ⟨k1, k2, k3, k4, k5, k6, k7, k8⟩ := h6 i hi
  refine ⟨k1, k2, ?_, ?_, ?_, fun i hi => ?_, fun i hi => ?_, fun j hj => ?_⟩
  · rw [ha _ (by omega) (by omega)]; exact k3
  · rw [ha _ (by omega) (by omega)]; exact k4
  · rw [ha _ (by omega) (by omega)]; exact k5
  · rw [ha _ (by omega) (by omega)]; exact k6 i hi
  · rw [ha _ (by omega) (by omega)]; exact k7 i hi
  · have := k2.1 j hj
    rw [ha _ (by omega) (by omega)]; exact k8 j hj
theorem RepH.setV (hR : RepH g A M h ρ πs vs sz) {i : Nat} (hi : i < 6) {v : VV} (hV : RepV g A M1 (h + 2 + 35 * ρ i) (πs i) v) (hF : FrV (h + 2 + 35 * ρ i) M M1) : RepH g A M1 h ρ πs (va_up vs i v) sz := by
  obtain ⟨h1, h2, h3, h4, h5, h6⟩ := hR
  refine ⟨h1, h2, h3, by rw [hF _ (by omega)]; exact h4, by rw [hF _ (by omega)]; exact h5, fun j hj => ?_⟩
  by_cases hji : j = i
  · subst hji
    rw [va_up_self]
    exact hV
  · rw [va_up_ne _ _ hji]
    have hne : ρ j ≠ ρ i := fun z => hji (h3.2 j i hj hi z)
    exact (h6 j hj).fr hF (by omega)
theorem RepH.rot (hR : RepH g A M h ρ πs vs sz) : RepH g A (va_up M (h + 1) (haE g h (rotN 0 6 ρ))) h (rotN 0 6 ρ) (rotN 0 6 πs) (rotN 0 6 vs) sz := by
  obtain ⟨h1, h2, h3, h4, h5, h6⟩ := hR
  have hp : Perm 6 (rotN 0 6 ρ) := by
    refine ⟨fun j hj => ?_, fun i j hi hj z => ?_⟩
    · rw [rot_I]; exact h3.1 _ (by unfold rotI; split; omega; split <;> omega)
    · rw [rot_I, rot_I] at z
      exact rotI_inj (by decide) (h3.2 _ _ (by unfold rotI; split; omega; split <;> omega) (by unfold rotI; split; omega; split <;> omega) z)
  refine ⟨h1, h2, hp, by rw [va_up_ne _ _ (by omega)]; exact h4, va_up_self _ _ _, fun i hi => ?_⟩
  rw [rot_I, rot_I, rot_I]
  have hl : rotI 0 6 i < 6 := by unfold rotI; split; omega; split <;> omega
  have hF : FrV (h + 1 - 35) M (va_up M (h + 1) (haE g h (rotN 0 6 ρ))) ∨ True := Or.inr trivial
  obtain ⟨k1, k2, k3, k4, k5, k6, k7, k8⟩ := h6 _ hl
  refine ⟨k1, k2, ?_, ?_, ?_, fun i hi => ?_, fun i hi => ?_, fun j hj => ?_⟩
  · rw [va_up_ne _ _ (by omega)]; exact k3
  · rw [va_up_ne _ _ (by omega)]; exact k4
  · rw [va_up_ne _ _ (by omega)]; exact k5
  · rw [va_up_ne _ _ (by omega)]; exact k6 i hi
  · rw [va_up_ne _ _ (by omega)]; exact k7 i hi
  · rw [va_up_ne _ _ (by omega)]; exact k8 j hj
theorem RepH.eqv (hR : RepH g A M h ρ πs vs sz) {vs' : Nat → VV} {sz' : Int32} (e1 : vs' = vs) (e2 : sz' = sz) : RepH g A M h ρ πs vs' sz' := by rw [e1, e2]; exact hR
end
def recV (k : Nat) (vs : Nat → VV) (w : VV) (n : Nat) : Nat → VV :=
  va_up (if k = 6 then rotN 0 6 vs else vs) (if k = 6 then 5 else k) (cpyC ((if k = 6 then rotN 0 6 vs else vs) (if k = 6 then 5 else k)) w n)
def recK (k : Nat) : Nat := if k = 6 then 6 else k + 1
section HROWS
variable {p : Program} {l : Launch} {e : Env} {R : Room} {s : State} {m : MethodId} {args : Array Value} {below : List Frame} {meth : Method} {c : Code} {H H0 : Heap} {locs : List Loc} {cells slots : Nat} {Q : State → Prop} {cc : ByteArray} {pc : Nat} {ls : Array Slot} {rest : List Value} {g : GG} {A : Nat → Prop} {M M0 : MM} {own : String} {index : Nat} {Ts : List Cond} {h : Nat} {ρ : Nat → Nat} {πs : Nat → Nat → Nat} {vs : Nat → VV} {sz : Int32}
theorem rh_getSt (hx : p.tables.exec = Jvm.exec) (hb : c.code = cc) (hts : ∀ w ∈ Ts, w.before args s = true) (hin : ∀ w ∈ u_ws RX1 TX1 2, w ∈ Ts) (hown : s.vm.findClass own = some m.cls) (hK : KK g s) (hM : HD g A M H) (hR : RepH g A M h ρ πs vs sz) (hlink : (Cond.fieldLink own index (TX1 0).1 (TX1 0).2.1 (TX1 0).2.2.1).before args s = true) (hdg : decode cc pc = .ok (.getfield index, 3)) (kk : W p l e R s m args below meth c H locs cells slots Q (F0 m (pc + 3) ls (.ref (h + 1) :: rest))) : W p l e R s m args below meth c H locs cells slots Q (F0 m (pc) ls (.ref h :: rest)) :=
  m_get (ci := 1) (C := RX1) (T := TX1) (N := 2) hx hb hts hin hown hK hM hR.1 hR.2.2.2.1 rfl 0 (by decide) hlink rfl hdg kk
theorem rh_getSz (hx : p.tables.exec = Jvm.exec) (hb : c.code = cc) (hts : ∀ w ∈ Ts, w.before args s = true) (hin : ∀ w ∈ u_ws RX1 TX1 2, w ∈ Ts) (hown : s.vm.findClass own = some m.cls) (hK : KK g s) (hM : HD g A M H) (hR : RepH g A M h ρ πs vs sz) (hlink : (Cond.fieldLink own index (TX1 1).1 (TX1 1).2.1 (TX1 1).2.2.1).before args s = true) (hdg : decode cc pc = .ok (.getfield index, 3)) (kk : W p l e R s m args below meth c H locs cells slots Q (F0 m (pc + 3) ls (.int sz :: rest))) : W p l e R s m args below meth c H locs cells slots Q (F0 m (pc) ls (.ref h :: rest)) :=
  m_get (ci := 1) (C := RX1) (T := TX1) (N := 2) hx hb hts hin hown hK hM hR.1 hR.2.2.2.1 rfl 1 (by decide) hlink rfl hdg kk
theorem rh_putSz (hx : p.tables.exec = Jvm.exec) (hb : c.code = cc) (hts : ∀ w ∈ Ts, w.before args s = true) (hin : ∀ w ∈ u_ws RX1 TX1 2, w ∈ Ts) (hown : s.vm.findClass own = some m.cls) (hK : KK g s) (hM : HD g A M H) (hS : va_S A H0 H locs) (hR : RepH g A M h ρ πs vs sz) (hF : FrH h M0 M) (hlink : (Cond.fieldLink own index (TX1 1).1 (TX1 1).2.1 (TX1 1).2.2.1).before args s = true) {x : Int32} (hdg : decode cc pc = .ok (.putfield index, 3)) (kk : ∀ (M1 : MM) (H1 : Heap) (locs1 : List Loc), HD g A M1 H1 → RepH g A M1 h ρ πs vs x → FrH h M0 M1 → va_S A H0 H1 locs1 → W p l e R s m args below meth c H1 locs1 cells slots Q (F0 m (pc + 3) ls rest)) : W p l e R s m args below meth c H locs cells slots Q (F0 m (pc) ls (.int x :: .ref h :: rest)) := by
  refine m_put (ci := 1) (C := RX1) (T := TX1) (N := 2) hx hb hts hin tyX1 tyX1_ok nmX1 hown hK hM hS hR.1 hR.2.2.2.1 rfl 1 (by decide) hlink rfl rfl rfl (Nat.le_of_ble_eq_true rfl) hdg (fun H1 locs1 hM1 hS1 => ?_)
  obtain ⟨h1, h2, h3, h4, h5, h6⟩ := hR
  refine kk _ H1 locs1 hM1 ⟨h1, h2, h3, va_up_self _ _ _, by rw [va_up_ne _ _ (by omega)]; exact h5, fun i hi => ?_⟩ (hF.up (by omega) (by omega)) hS1
  obtain ⟨k1, k2, k3, k4, k5, k6, k7, k8⟩ := h6 i hi
  refine ⟨k1, k2, ?_, ?_, ?_, fun i hi => ?_, fun i hi => ?_, fun j hj => ?_⟩
  · rw [va_up_ne _ _ (by omega)]; exact k3
  · rw [va_up_ne _ _ (by omega)]; exact k4
  · rw [va_up_ne _ _ (by omega)]; exact k5
  · rw [va_up_ne _ _ (by omega)]; exact k6 i hi
  · rw [va_up_ne _ _ (by omega)]; exact k7 i hi
  · rw [va_up_ne _ _ (by omega)]; exact k8 j hj
theorem rh_len (hx : p.tables.exec = Jvm.exec) (hb : c.code = cc) (hK : KK g s) (hM : HD g A M H) (hR : RepH g A M h ρ πs vs sz) (hdg : decode cc pc = .ok (.arraylength, 1)) (kk : W p l e R s m args below meth c H locs cells slots Q (F0 m (pc + 1) ls (.int (nI 6) :: rest))) : W p l e R s m args below meth c H locs cells slots Q (F0 m (pc) ls (.ref (h + 1) :: rest)) :=
  m_alen hx hb hK hM hR.2.1 5 hR.2.2.2.2.1 rfl rfl hdg kk
theorem rh_ald (hx : p.tables.exec = Jvm.exec) (hb : c.code = cc) (hK : KK g s) (hM : HD g A M H) (hR : RepH g A M h ρ πs vs sz) {i : Nat} (hi : i < 6) (hdg : decode cc pc = .ok (.aaload, 1)) (kk : W p l e R s m args below meth c H locs cells slots Q (F0 m (pc + 1) ls (.ref (h + 2 + 35 * ρ i) :: rest))) : W p l e R s m args below meth c H locs cells slots Q (F0 m (pc) ls (.int (nI i) :: .ref (h + 1) :: rest)) :=
  m_aald hx hb hK hM hR.2.1 5 hR.2.2.2.2.1 rfl (vp_in_nI hi (by omega)) (r := .ref (h + 2 + 35 * ρ i)) (by rw [nI_clamp (by omega)]; rfl) hdg kk
end HROWS
set_option maxHeartbeats 4000000 in
set_option maxRecDepth 100000 in
/-- the oldest state goes; its row is kept behind the others -/
theorem k_X1_dropOldest (l : Launch) (g : GG) (A : Nat → Prop) (M0 : MM) (h : Nat) (ρ : Nat → Nat) (πs : Nat → Nat → Nat) (vs : Nat → VV) (sz : Int32) (hR : RepH g A M0 h ρ πs vs sz)  : Met l yX1_dropOldest (Uw yX1_dropOldest cX1_dropOldest 4 (Option.none : Option ClassFile.FieldType)) (rmD 0) (PreM [.ref (h)] g A M0) (PosV (fun M1 => RepH g A M1 h (rotN 0 6 ρ) (rotN 0 6 πs) (rotN 0 6 vs) (nI 5) ∧ FrH h M0 M1) g A) 0 0 A := by
  refine mk_Met (own := RX1) rfl rfl (by decide) (Nat.le_of_ble_eq_true rfl) ?_
  intro p e s m below meth c ls aa Q haa hQ hx hb hr hlk hml hown hts hK hM hS hl hnm
  obtain ⟨M, hMM⟩ : ∃ M, M = M0 := ⟨_, rfl⟩
  rw [← hMM] at hM hR
  have ht : ∀ w ∈ lw_good, w.before _ s = true := fun w h => hts w (List.mem_cons_of_mem _ h)
  have hF : FrH h M0 M := by rw [hMM]; exact FrH.rf
  have hl : lv_has ls 4 [(0, .ref (h))] := hl
  have hR0 := hR
  refine lv_aload_n hx hb dX1_dropOldest_0 rfl (lv_at hl 0 rfl) ?_
  refine rh_getSt hx hb ht ui_X1 hown hK hM hR (ht _ uw_221) dX1_dropOldest_1 ?_
  refine rh_len hx hb hK hM hR dX1_dropOldest_4 ?_
  refine lv_iconst (v := nI 1) hx hb dX1_dropOldest_5 (by first | rfl | decide) ?_
  refine lv_isub hx hb dX1_dropOldest_6 ?_
  rw [show nI 6 - nI 1 = nI 5 from rfl]
  refine lv_istore_n (lv' := [(1, .int (nI 5)), (0, .ref (h))]) hx hb dX1_dropOldest_7 rfl hl (by decide) rfl (fun ls hl => ?_)
  refine lv_aload_n hx hb dX1_dropOldest_8 rfl (lv_at hl 1 rfl) ?_
  refine rh_getSt hx hb ht ui_X1 hown hK hM hR (ht _ uw_221) dX1_dropOldest_9 ?_
  refine lv_iconst (v := nI 0) hx hb dX1_dropOldest_12 (by first | rfl | decide) ?_
  refine rh_ald hx hb hK hM hR (by decide : 0 < 6) dX1_dropOldest_13 ?_
  refine lv_astore_n (lv' := [(2, .ref (h + 2 + 35 * ρ 0)), (1, .int (nI 5)), (0, .ref (h))]) hx hb dX1_dropOldest_14 rfl hl (by decide) rfl (fun ls hl => ?_)
  refine lv_iconst (v := nI 0) hx hb dX1_dropOldest_15 (by first | rfl | decide) ?_
  refine lv_istore_n (lv' := [(3, .int (nI 0)), (2, .ref (h + 2 + 35 * ρ 0)), (1, .int (nI 5)), (0, .ref (h))]) hx hb dX1_dropOldest_16 rfl hl (by decide) rfl (fun ls hl => ?_)
  have loop_17 : ∀ (z_17 : Nat) (i : Nat) (M : MM) (H : Heap) (locs : List Loc) (ls : Array Slot), 5 - i < z_17 → i ≤ 5 → M = va_up M0 (h + 1) (haE g h (rhoN 0 i ρ)) → HD g A M H → va_S A s.heap H locs → lv_has ls 4 [(3, .int (nI i)), (2, .ref (h + 2 + 35 * ρ 0)), (1, .int (nI 5)), (0, .ref (h))] → W p l e (rmD 0) s m aa below meth c H locs 0 0 Q (F0 m 17 ls []) := by
    intro z_17
    induction z_17 with
    | zero => intro i M H locs ls hz hi2 hMu; exact absurd hz (Nat.not_lt_zero _)
    | succ z_17 ih_17 =>
    intro i M H locs ls hz hi2 hMu hM  hS hl
    have hW : M h = hiE h sz := by rw [hMu, va_up_ne _ _ (by omega), ← hMM]; exact hR0.2.2.2.1
    have hRA : M (h + 1) = haE g h (rhoN 0 i ρ) := by rw [hMu]; exact va_up_self _ _ _
    have hPi : ∀ j, j < 6 → M (h + 2 + 35 * ρ j) = wE (h + 2 + 35 * ρ j) (vs j).1 := fun j hj => by rw [hMu, va_up_ne _ _ (by omega), ← hMM]; exact (hR0.2.2.2.2.2 j hj).W
    refine lv_iload_n hx hb dX1_dropOldest_17 rfl (lv_at hl 0 rfl) ?_
    refine lv_iload_n hx hb dX1_dropOldest_18 rfl (lv_at hl 2 rfl) ?_
    refine lv_icmp_ge (tgt := 42) hx hb dX1_dropOldest_19 (by decide) (fun c_19 => ?_) (fun c_19 => ?_)
    · have hin : i = 5 := Nat.le_antisymm hi2 (nI_le_of (by omega) (by omega) c_19)
      subst hin
      refine lv_aload_n hx hb dX1_dropOldest_42 rfl (lv_at hl 3 rfl) ?_
      refine m_get (ci := 1) (C := RX1) (T := TX1) (N := 2) hx hb ht ui_X1 hown hK hM hR0.1 hW rfl 0 (by decide) (ht _ uw_221) rfl dX1_dropOldest_43 ?_
      refine lv_iload_n hx hb dX1_dropOldest_46 rfl (lv_at hl 2 rfl) ?_
      refine lv_aload_n hx hb dX1_dropOldest_47 rfl (lv_at hl 1 rfl) ?_
      refine m_aast hx hb hK hM hS hR0.2.1 5 6 hRA rfl (hR0.2.2.2.2.2 _ (show 0 < 6 by omega)).AW (hPi _ (show 0 < 6 by omega)) rfl (vp_in_nI (show 5 < 6 by omega) (by omega)) dX1_dropOldest_48 (fun H locs hM hS => ?_)
      rw [hMu, va_upup, show (Sum.inl (g.2 5, 6, Sum.inr (Sum.inr (Sum.inr (Sum.inr (va_up (fun j => some (h + 2 + 35 * rhoN 0 5 ρ j)) (nI 5).toNatClampNeg (some (h + 2 + 35 * ρ 0))))))) : va_E) = haE g h (rotN 0 6 ρ) by rw [nI_clamp (show 5 < 2 ^ 31 by omega)]; exact congrArg (fun z => (Sum.inl (g.2 5, 6, Sum.inr (Sum.inr (Sum.inr (Sum.inr z)))) : va_E)) (rhoF_end (fun z => h + 2 + 35 * z) 0 6 (by omega) ρ)] at hM
      have hR2 : RepH g A (va_up M0 (h + 1) (haE g h (rotN 0 6 ρ))) h (rotN 0 6 ρ) (rotN 0 6 πs) (rotN 0 6 vs) sz := by rw [← hMM]; exact hR0.rot
      have hF : FrH h M0 (va_up M0 (h + 1) (haE g h (rotN 0 6 ρ))) := FrH.rf.up (by omega) (by omega)
      have hR := hR2
      refine lv_aload_n hx hb dX1_dropOldest_49 rfl (lv_at hl 3 rfl) ?_
      refine lv_iload_n hx hb dX1_dropOldest_50 rfl (lv_at hl 2 rfl) ?_
      refine rh_putSz hx hb ht ui_X1 hown hK hM hS hR hF (ht _ uw_222) dX1_dropOldest_51 (fun M H locs hM hR hF hS => ?_)
      subst hQ
      exact m_vret hx hb hr hlk hK hM hS dX1_dropOldest_54 (⟨hR, hF⟩)
    · have hin : i < 5 := nI_lt_of (by omega) (by omega) c_19
      refine lv_aload_n hx hb dX1_dropOldest_22 rfl (lv_at hl 3 rfl) ?_
      refine m_get (ci := 1) (C := RX1) (T := TX1) (N := 2) hx hb ht ui_X1 hown hK hM hR0.1 hW rfl 0 (by decide) (ht _ uw_221) rfl dX1_dropOldest_23 ?_
      refine lv_iload_n hx hb dX1_dropOldest_26 rfl (lv_at hl 0 rfl) ?_
      refine lv_aload_n hx hb dX1_dropOldest_27 rfl (lv_at hl 3 rfl) ?_
      refine m_get (ci := 1) (C := RX1) (T := TX1) (N := 2) hx hb ht ui_X1 hown hK hM hR0.1 hW rfl 0 (by decide) (ht _ uw_221) rfl dX1_dropOldest_28 ?_
      refine lv_iload_n hx hb dX1_dropOldest_31 rfl (lv_at hl 0 rfl) ?_
      refine lv_iconst (v := nI 1) hx hb dX1_dropOldest_32 (by first | rfl | decide) ?_
      refine lv_iadd hx hb dX1_dropOldest_33 ?_
      rw [nI_add]
      have e41 : rhoN 0 i ρ (i + 1) = ρ (i + 1) := if_neg (by omega)
      refine m_aald hx hb hK hM hR0.2.1 5 hRA rfl (vp_in_nI (show i + 1 < 6 by omega) (by omega)) (r := .ref (h + 2 + 35 * ρ (i + 1))) (by rw [nI_clamp (by omega), e41]; rfl) dX1_dropOldest_34 ?_
      refine m_aast hx hb hK hM hS hR0.2.1 5 6 hRA rfl (hR0.2.2.2.2.2 _ (show i + 1 < 6 by omega)).AW (hPi _ (show i + 1 < 6 by omega)) rfl (vp_in_nI (show i < 6 by omega) (by omega)) dX1_dropOldest_35 (fun H locs hM hS => ?_)
      rw [hMu, va_upup, show (Sum.inl (g.2 5, 6, Sum.inr (Sum.inr (Sum.inr (Sum.inr (va_up (fun j => some (h + 2 + 35 * rhoN 0 i ρ j)) (nI i).toNatClampNeg (some (h + 2 + 35 * ρ (i + 1)))))))) : va_E) = haE g h (rhoN 0 (i + 1) ρ) by rw [nI_clamp (show i < 2 ^ 31 by omega), rhoF_up (fun z => h + 2 + 35 * z) 0 i (by omega) ρ]] at hM
      refine lv_iinc (v := nI (i + 1)) (lv' := [(3, .int (nI (i + 1))), (2, .ref (h + 2 + 35 * ρ 0)), (1, .int (nI 5)), (0, .ref (h))]) hx hb dX1_dropOldest_36 hl (k := 0) rfl (nI_1 _) (by decide) rfl (fun ls hl => ?_)
      refine lv_goto (tgt := 17) hx hb dX1_dropOldest_39 (by decide) ?_
      exact ih_17 (i + 1) _ _ _ _ (by omega) (by omega) rfl hM hS (lv_sub hl [0, 1, 2, 3] rfl)
  exact loop_17 _ 0 _ _ _ _ (Nat.lt_succ_self _) (by omega) (by rw [rho_0, hMM]; funext q; exact (va_upself (by rw [← hMM]; exact hR0.2.2.2.2.1) q).symm) hM hS (lv_sub hl [0, 1, 2, 3] rfl)

set_option maxHeartbeats 4000000 in
set_option maxRecDepth 100000 in
/-- the state before a change is recorded -/
theorem k_X1_record (l : Launch) (g : GG) (A : Nat → Prop) (M0 : MM) (h : Nat) (ρ : Nat → Nat) (πs : Nat → Nat → Nat) (vs : Nat → VV) (sz : Int32) (hR : RepH g A M0 h ρ πs vs sz) (b0 : Nat) (π0 : Nat → Nat) (w : VV) (n : Nat) (hO : RepV g A M0 b0 π0 w) (hd : b0 + 35 ≤ h ∨ h + 212 ≤ b0) (k : Nat) (hsz : sz = nI k) (hk : k ≤ 6) (hn : w.1 3 = nI n) (hn20 : n ≤ 20) : Met l yX1_record (Uw yX1_record cX1_record 2 (Option.none : Option ClassFile.FieldType)) (rmD 3) (PreM [.ref (h), .ref (b0)] g A M0) (PosV (fun M1 => (∃ ρ1 πs1, RepH g A M1 h ρ1 πs1 (recV k vs w n) (nI (recK k))) ∧ FrH h M0 M1) g A) 0 0 A := by
  refine mk_Met (own := RX1) rfl rfl (by decide) (Nat.le_of_ble_eq_true rfl) ?_
  intro p e s m below meth c ls aa Q haa hQ hx hb hr hlk hml hown hts hK hM hS hl hnm
  obtain ⟨M, hMM⟩ : ∃ M, M = M0 := ⟨_, rfl⟩
  rw [← hMM] at hM hR
  have ht : ∀ w ∈ lw_good, w.before _ s = true := fun w h => hts w (List.mem_cons_of_mem _ h)
  have hF : FrH h M0 M := by rw [hMM]; exact FrH.rf
  have hl : lv_has ls 2 [(0, .ref (h)), (1, .ref (b0))] := hl
  subst hsz
  by_cases hk6 : k < 6
  · refine lv_aload_n hx hb dX1_record_0 rfl (lv_at hl 0 rfl) ?_
    refine rh_getSz hx hb ht ui_X1 hown hK hM hR (ht _ uw_222) dX1_record_1 ?_
    refine lv_aload_n hx hb dX1_record_4 rfl (lv_at hl 0 rfl) ?_
    refine rh_getSt hx hb ht ui_X1 hown hK hM hR (ht _ uw_221) dX1_record_5 ?_
    refine rh_len hx hb hK hM hR dX1_record_8 ?_
    refine lv_icmp_lt (tgt := 16) hx hb dX1_record_9 (by decide) (fun c_9 => ?_) (fun c_9 => absurd (nI_lt hk6 (by decide)) c_9)
    refine lv_aload_n hx hb dX1_record_16 rfl (lv_at hl 0 rfl) ?_
    refine rh_getSz hx hb ht ui_X1 hown hK hM hR (ht _ uw_222) dX1_record_17 ?_
    refine lv_if_lt (tgt := 58) hx hb dX1_record_20 (by decide) (fun c_20 => absurd c_20 (nI_pos (by omega))) (fun c_20 => ?_)
    refine lv_aload_n hx hb dX1_record_23 rfl (lv_at hl 0 rfl) ?_
    refine rh_getSz hx hb ht ui_X1 hown hK hM hR (ht _ uw_222) dX1_record_24 ?_
    refine lv_aload_n hx hb dX1_record_27 rfl (lv_at hl 0 rfl) ?_
    refine rh_getSt hx hb ht ui_X1 hown hK hM hR (ht _ uw_221) dX1_record_28 ?_
    refine rh_len hx hb hK hM hR dX1_record_31 ?_
    refine lv_icmp_ge (tgt := 58) hx hb dX1_record_32 (by decide) (fun c_32 => absurd c_32 (nI_ge hk6 (by decide))) (fun c_32 => ?_)
    refine lv_aload_n hx hb dX1_record_35 rfl (lv_at hl 0 rfl) ?_
    refine rh_getSt hx hb ht ui_X1 hown hK hM hR (ht _ uw_221) dX1_record_36 ?_
    refine lv_aload_n hx hb dX1_record_39 rfl (lv_at hl 0 rfl) ?_
    refine rh_getSz hx hb ht ui_X1 hown hK hM hR (ht _ uw_222) dX1_record_40 ?_
    refine rh_ald hx hb hK hM hR (hk6) dX1_record_43 ?_
    refine lv_aload_n hx hb dX1_record_44 rfl (lv_at hl 1 rfl) ?_
    refine m_callV (As := [.ref (b0)]) (rest := []) ⟨hx, hb, hml, hown, ht⟩ (k_X6_copyFrom l g A M (h + 2 + 35 * ρ k) (πs k) (vs k) b0 π0 w n (hR.V hk6) (hO.frH hF hd) (hR.dj hk6 hd) hn hn20) (cwV 1 ht (gU uw_312 uw_313 uw_314 uw_35 uw_315) rfl rfl rfl (by decide +kernel) ⟨by decide, by decide⟩) hK hM hS (m_recv hK hM (hR.V hk6).AW (hR.V hk6).W rfl) rfl hl.1 rfl (Nat.le_of_ble_eq_true rfl) dX1_record_45 ⟨by decide, by decide⟩ (fun M H locs hp hM hS => ?_)
    obtain ⟨hV, hF1⟩ := hp
    have hF := hF.tr (hR.frV hk6 hF1)
    have hR := hR.setV hk6 hV hF1
    refine lv_aload_n hx hb dX1_record_48 rfl (lv_at hl 0 rfl) ?_
    refine lv_dup hx hb dX1_record_49 rfl ?_
    refine rh_getSz hx hb ht ui_X1 hown hK hM hR (ht _ uw_222) dX1_record_50 ?_
    refine lv_iconst (v := nI 1) hx hb dX1_record_53 (by first | rfl | decide) ?_
    refine lv_iadd hx hb dX1_record_54 ?_
    refine rh_putSz hx hb ht ui_X1 hown hK hM hS hR hF (ht _ uw_222) dX1_record_55 (fun M H locs hM hR hF hS => ?_)
    subst hQ
    exact m_vret hx hb hr hlk hK hM hS dX1_record_58 (⟨⟨_, _, hR.eqv (by unfold recV; rw [if_neg (by omega), if_neg (by omega)]) (by unfold recK; rw [if_neg (by omega)]; exact (nI_add k 1).symm)⟩, hF⟩)
  · have hk7 : k = 6 := by omega
    subst hk7
    refine lv_aload_n hx hb dX1_record_0 rfl (lv_at hl 0 rfl) ?_
    refine rh_getSz hx hb ht ui_X1 hown hK hM hR (ht _ uw_222) dX1_record_1 ?_
    refine lv_aload_n hx hb dX1_record_4 rfl (lv_at hl 0 rfl) ?_
    refine rh_getSt hx hb ht ui_X1 hown hK hM hR (ht _ uw_221) dX1_record_5 ?_
    refine rh_len hx hb hK hM hR dX1_record_8 ?_
    refine lv_icmp_lt (tgt := 16) hx hb dX1_record_9 (by decide) (fun c_9 => absurd c_9 (by decide)) (fun c_9 => ?_)
    refine lv_aload_n hx hb dX1_record_12 rfl (lv_at hl 0 rfl) ?_
    refine m_callV (As := []) (rest := []) ⟨hx, hb, hml, hown, ht⟩ (k_X1_dropOldest l g A M h ρ πs vs (nI 6) hR) (cwV 0 ht (gU uw_308 uw_310 uw_0 uw_39 uw_311) rfl rfl rfl (by decide +kernel) ⟨by decide, by decide⟩) hK hM hS (m_recv hK hM hR.1 hR.2.2.2.1 rfl) rfl hl.1 rfl (Nat.le_of_ble_eq_true rfl) dX1_record_13 ⟨by decide, by decide⟩ (fun M H locs hp hM hS => ?_)
    obtain ⟨hR, hF1⟩ := hp
    have hF := hF.tr hF1
    refine lv_aload_n hx hb dX1_record_16 rfl (lv_at hl 0 rfl) ?_
    refine rh_getSz hx hb ht ui_X1 hown hK hM hR (ht _ uw_222) dX1_record_17 ?_
    refine lv_if_lt (tgt := 58) hx hb dX1_record_20 (by decide) (fun c_20 => absurd c_20 (nI_pos (by omega))) (fun c_20 => ?_)
    refine lv_aload_n hx hb dX1_record_23 rfl (lv_at hl 0 rfl) ?_
    refine rh_getSz hx hb ht ui_X1 hown hK hM hR (ht _ uw_222) dX1_record_24 ?_
    refine lv_aload_n hx hb dX1_record_27 rfl (lv_at hl 0 rfl) ?_
    refine rh_getSt hx hb ht ui_X1 hown hK hM hR (ht _ uw_221) dX1_record_28 ?_
    refine rh_len hx hb hK hM hR dX1_record_31 ?_
    refine lv_icmp_ge (tgt := 58) hx hb dX1_record_32 (by decide) (fun c_32 => absurd c_32 (by decide)) (fun c_32 => ?_)
    refine lv_aload_n hx hb dX1_record_35 rfl (lv_at hl 0 rfl) ?_
    refine rh_getSt hx hb ht ui_X1 hown hK hM hR (ht _ uw_221) dX1_record_36 ?_
    refine lv_aload_n hx hb dX1_record_39 rfl (lv_at hl 0 rfl) ?_
    refine rh_getSz hx hb ht ui_X1 hown hK hM hR (ht _ uw_222) dX1_record_40 ?_
    refine rh_ald hx hb hK hM hR (by decide : 5 < 6) dX1_record_43 ?_
    refine lv_aload_n hx hb dX1_record_44 rfl (lv_at hl 1 rfl) ?_
    refine m_callV (As := [.ref (b0)]) (rest := []) ⟨hx, hb, hml, hown, ht⟩ (k_X6_copyFrom l g A M (h + 2 + 35 * rotN 0 6 ρ 5) (rotN 0 6 πs 5) (rotN 0 6 vs 5) b0 π0 w n (hR.V (show 5 < 6 by decide)) (hO.frH hF hd) (hR.dj (show 5 < 6 by decide) hd) hn hn20) (cwV 1 ht (gU uw_312 uw_313 uw_314 uw_35 uw_315) rfl rfl rfl (by decide +kernel) ⟨by decide, by decide⟩) hK hM hS (m_recv hK hM (hR.V (show 5 < 6 by decide)).AW (hR.V (show 5 < 6 by decide)).W rfl) rfl hl.1 rfl (Nat.le_of_ble_eq_true rfl) dX1_record_45 ⟨by decide, by decide⟩ (fun M H locs hp hM hS => ?_)
    obtain ⟨hV, hF1⟩ := hp
    have hF := hF.tr (hR.frV (show 5 < 6 by decide) hF1)
    have hR := hR.setV (show 5 < 6 by decide) hV hF1
    refine lv_aload_n hx hb dX1_record_48 rfl (lv_at hl 0 rfl) ?_
    refine lv_dup hx hb dX1_record_49 rfl ?_
    refine rh_getSz hx hb ht ui_X1 hown hK hM hR (ht _ uw_222) dX1_record_50 ?_
    refine lv_iconst (v := nI 1) hx hb dX1_record_53 (by first | rfl | decide) ?_
    refine lv_iadd hx hb dX1_record_54 ?_
    refine rh_putSz hx hb ht ui_X1 hown hK hM hS hR hF (ht _ uw_222) dX1_record_55 (fun M H locs hM hR hF hS => ?_)
    subst hQ
    exact m_vret hx hb hr hlk hK hM hS dX1_record_58 (⟨⟨_, _, hR.eqv rfl rfl⟩, hF⟩)

set_option maxHeartbeats 4000000 in
set_option maxRecDepth 100000 in
/-- the latest state is given back -/
theorem k_X1_takeBack (l : Launch) (g : GG) (A : Nat → Prop) (M0 : MM) (h : Nat) (ρ : Nat → Nat) (πs : Nat → Nat → Nat) (vs : Nat → VV) (sz : Int32) (hR : RepH g A M0 h ρ πs vs sz) (b0 : Nat) (π0 : Nat → Nat) (w : VV) (n : Nat) (hO : RepV g A M0 b0 π0 w) (hd : b0 + 35 ≤ h ∨ h + 212 ≤ b0) (k : Nat) (hsz : sz = nI (k + 1)) (hk : k + 1 ≤ 6) (hn : (vs k).1 3 = nI n) (hn20 : n ≤ 20) : Met l yX1_takeBack (Uw yX1_takeBack cX1_takeBack 2 (Option.some ClassFile.FieldType.boolean)) (rmD 3) (PreM [.ref (h), .ref (b0)] g A M0) (PosI (fun r M1 => r = 1 ∧ RepH g A M1 h ρ πs vs (nI k) ∧ RepV g A M1 b0 π0 (cpyC w (vs k) n) ∧ FrHB h b0 M0 M1) g A) 0 0 A := by
  refine mk_Met (own := RX1) rfl rfl (by decide) (Nat.le_of_ble_eq_true rfl) ?_
  intro p e s m below meth c ls aa Q haa hQ hx hb hr hlk hml hown hts hK hM hS hl hnm
  obtain ⟨M, hMM⟩ : ∃ M, M = M0 := ⟨_, rfl⟩
  rw [← hMM] at hM hR
  have ht : ∀ w ∈ lw_good, w.before _ s = true := fun w h => hts w (List.mem_cons_of_mem _ h)
  have hF : FrH h M0 M := by rw [hMM]; exact FrH.rf
  have hl : lv_has ls 2 [(0, .ref (h)), (1, .ref (b0))] := hl
  subst hsz
  have hk5 : k < 6 := by omega
  refine lv_aload_n hx hb dX1_takeBack_0 rfl (lv_at hl 0 rfl) ?_
  refine rh_getSz hx hb ht ui_X1 hown hK hM hR (ht _ uw_222) dX1_takeBack_1 ?_
  refine lv_if_le (tgt := 19) hx hb dX1_takeBack_4 (by decide) (fun c_4 => absurd c_4 (nI_nle (by omega) (by omega))) (fun c_4 => ?_)
  refine lv_aload_n hx hb dX1_takeBack_7 rfl (lv_at hl 0 rfl) ?_
  refine rh_getSz hx hb ht ui_X1 hown hK hM hR (ht _ uw_222) dX1_takeBack_8 ?_
  refine lv_aload_n hx hb dX1_takeBack_11 rfl (lv_at hl 0 rfl) ?_
  refine rh_getSt hx hb ht ui_X1 hown hK hM hR (ht _ uw_221) dX1_takeBack_12 ?_
  refine rh_len hx hb hK hM hR dX1_takeBack_15 ?_
  refine lv_icmp_le (tgt := 21) hx hb dX1_takeBack_16 (by decide) (fun c_16 => ?_) (fun c_16 => absurd (nI_le (show k + 1 ≤ 6 by omega) (by decide)) c_16)
  refine lv_aload_n hx hb dX1_takeBack_21 rfl (lv_at hl 0 rfl) ?_
  refine lv_dup hx hb dX1_takeBack_22 rfl ?_
  refine rh_getSz hx hb ht ui_X1 hown hK hM hR (ht _ uw_222) dX1_takeBack_23 ?_
  refine lv_iconst (v := nI 1) hx hb dX1_takeBack_26 (by first | rfl | decide) ?_
  refine lv_isub hx hb dX1_takeBack_27 ?_
  rw [show nI (k + 1) - nI 1 = nI k from nI_pred k]
  refine rh_putSz hx hb ht ui_X1 hown hK hM hS hR hF (ht _ uw_222) dX1_takeBack_28 (fun M H locs hM hR hF hS => ?_)
  refine lv_aload_n hx hb dX1_takeBack_31 rfl (lv_at hl 1 rfl) ?_
  refine lv_aload_n hx hb dX1_takeBack_32 rfl (lv_at hl 0 rfl) ?_
  refine rh_getSt hx hb ht ui_X1 hown hK hM hR (ht _ uw_221) dX1_takeBack_33 ?_
  refine lv_aload_n hx hb dX1_takeBack_36 rfl (lv_at hl 0 rfl) ?_
  refine rh_getSz hx hb ht ui_X1 hown hK hM hR (ht _ uw_222) dX1_takeBack_37 ?_
  refine rh_ald hx hb hK hM hR (hk5) dX1_takeBack_40 ?_
  refine m_callV (As := [.ref (h + 2 + 35 * ρ k)]) (rest := []) ⟨hx, hb, hml, hown, ht⟩ (k_X6_copyFrom l g A M b0 π0 w (h + 2 + 35 * ρ k) (πs k) (vs k) n (hO.frH hF hd) (hR.V hk5) (hR.dj2 hk5 hd) hn hn20) (cwV 1 ht (gU uw_312 uw_313 uw_314 uw_35 uw_315) rfl rfl rfl (by decide +kernel) ⟨by decide, by decide⟩) hK hM hS (m_recv hK hM (hO.frH hF hd).AW (hO.frH hF hd).W rfl) rfl hl.1 rfl (Nat.le_of_ble_eq_true rfl) dX1_takeBack_41 ⟨by decide, by decide⟩ (fun M H locs hp hM hS => ?_)
  obtain ⟨hV, hF1⟩ := hp
  have hR := hR.frB hF1 hd
  have hFB : FrHB h b0 M0 M := FrHB.of hF hF1
  refine lv_iconst (v := nI 1) hx hb dX1_takeBack_44 (by first | rfl | decide) ?_
  subst hQ
  exact m_zret hx hb hr (rfl) hlk hK hM hS dX1_takeBack_45 (⟨rfl, hR, hV, hFB⟩)

set_option maxHeartbeats 4000000 in
set_option maxRecDepth 100000 in
/-- there is no state to give back -/
theorem k_X1_takeBack_0 (l : Launch) (g : GG) (A : Nat → Prop) (M0 : MM) (h : Nat) (ρ : Nat → Nat) (πs : Nat → Nat → Nat) (vs : Nat → VV) (sz : Int32) (hR : RepH g A M0 h ρ πs vs sz) (b0 : Nat) (hsz : sz = 0) : Met l yX1_takeBack (Uw yX1_takeBack cX1_takeBack 2 (Option.some ClassFile.FieldType.boolean)) (rmD 3) (PreM [.ref (h), .ref (b0)] g A M0) (PosI (fun r M1 => r = 0 ∧ M1 = M0) g A) 0 0 A := by
  refine mk_Met (own := RX1) rfl rfl (by decide) (Nat.le_of_ble_eq_true rfl) ?_
  intro p e s m below meth c ls aa Q haa hQ hx hb hr hlk hml hown hts hK hM hS hl hnm
  obtain ⟨M, hMM⟩ : ∃ M, M = M0 := ⟨_, rfl⟩
  rw [← hMM] at hM hR
  have ht : ∀ w ∈ lw_good, w.before _ s = true := fun w h => hts w (List.mem_cons_of_mem _ h)
  have hF : FrH h M0 M := by rw [hMM]; exact FrH.rf
  have hl : lv_has ls 2 [(0, .ref (h)), (1, .ref (b0))] := hl
  refine lv_aload_n hx hb dX1_takeBack_0 rfl (lv_at hl 0 rfl) ?_
  refine rh_getSz hx hb ht ui_X1 hown hK hM hR (ht _ uw_222) dX1_takeBack_1 ?_
  refine lv_if_le (tgt := 19) hx hb dX1_takeBack_4 (by decide) (fun c_4 => ?_) (fun c_4 => absurd (by rw [hsz]; decide) c_4)
  refine lv_iconst (v := nI 0) hx hb dX1_takeBack_19 (by first | rfl | decide) ?_
  subst hQ
  exact m_zret hx hb hr (rfl) hlk hK hM hS dX1_takeBack_20 (⟨rfl, hMM⟩)
end
section
/-! THE OBJECT OF THE CLASS: 358 cells in a row from X on -/
abbrev xE (X : Nat) : va_E := .inr (7, [.ref (X + 1), .ref (X + 36), .ref (X + 71), .ref (X + 283), .ref (X + 284), .ref (X + 285), .ref (X + 285 + 2)])
abbrev slE (g : GG) (X : Nat) : va_E := .inl (g.2 5, 2, .inr (.inr (.inr (.inr (fun i => some (X + 288 + 35 * i))))))
abbrev svE (g : GG) (sv : Nat → Int32) : va_E := .inl (g.2 2, 2, .inl sv)
def RepX (g : GG) (A : Nat → Prop) (M : MM) (X : Nat) (π : Nat → Nat) (now : VV) (hs : Nat → VV) (k : Nat) (sl : Nat → VV) (sv f : Nat → Int32) (L : Nat) : Prop :=
  A X ∧ A (X + 283) ∧ A (X + 284) ∧ M X = xE X ∧ M (X + 283) = slE g X ∧ M (X + 284) = svE g sv ∧ RepV g A M (X + 1) π now ∧ (∃ πt t, RepV g A M (X + 36) πt t) ∧ (∃ ρ πs, RepH g A M (X + 71) ρ πs hs (nI k)) ∧ (∀ i, i < 2 → ∃ πi, RepV g A M (X + 288 + 35 * i) πi (sl i)) ∧ ∃ rs, RepT g A M (X + 285) f (nI L) rs
def FrX (X : Nat) (M0 M : MM) : Prop := ∀ q, ¬ (X ≤ q ∧ q < X + 358) → M q = M0 q
def RX (g : GG) (A : Nat → Prop) (M0 M : MM) (X : Nat) (π : Nat → Nat) (now : VV) (hs : Nat → VV) (k : Nat) (sl : Nat → VV) (sv f : Nat → Int32) (L : Nat) : Prop := RepX g A M X π now hs k sl sv f L ∧ FrX X M0 M
theorem FrX.rf {X : Nat} {M : MM} : FrX X M M := fun _ _ => rfl
theorem RepV.agr {g : GG} {A : Nat → Prop} {M M1 : MM} {b : Nat} {π : Nat → Nat} {v : VV} (h : RepV g A M b π v) (ha : ∀ q, b ≤ q → q < b + 35 → M1 q = M q) : RepV g A M1 b π v := by
  obtain ⟨h1, h2, h3, h4, h5, h6, h7, h8⟩ := h
  refine ⟨h1, h2, ?_, ?_, ?_, fun i hi => ?_, fun i hi => ?_, fun j hj => ?_⟩
  · rw [ha _ (by omega) (by omega)]; exact h3
  · rw [ha _ (by omega) (by omega)]; exact h4
  · rw [ha _ (by omega) (by omega)]; exact h5
  · rw [ha _ (by omega) (by omega)]; exact h6 i hi
  · rw [ha _ (by omega) (by omega)]; exact h7 i hi
  · have := h2.1 j hj
    rw [ha _ (by omega) (by omega)]; exact h8 j hj
section
variable {g : GG} {A : Nat → Prop} {M0 M M1 : MM} {X : Nat} {π π1 : Nat → Nat} {now v1 : VV} {hs hs1 : Nat → VV} {k k1 : Nat} {sl : Nat → VV} {sv f : Nat → Int32} {L : Nat}
theorem RX.obj (h : RX g A M0 M X π now hs k sl sv f L) : M X = xE X := h.1.2.2.2.1
theorem RX.AX (h : RX g A M0 M X π now hs k sl sv f L) : A X := h.1.1
theorem RX.nowV (h : RX g A M0 M X π now hs k sl sv f L) : RepV g A M (X + 1) π now := h.1.2.2.2.2.2.2.1
theorem RX.tri (h : RX g A M0 M X π now hs k sl sv f L) : ∃ πt t, RepV g A M (X + 36) πt t := h.1.2.2.2.2.2.2.2.1
theorem RX.his (h : RX g A M0 M X π now hs k sl sv f L) : ∃ ρ πs, RepH g A M (X + 71) ρ πs hs (nI k) := h.1.2.2.2.2.2.2.2.2.1
theorem RX.slo (h : RX g A M0 M X π now hs k sl sv f L) {i : Nat} (hi : i < 2) : ∃ πi, RepV g A M (X + 288 + 35 * i) πi (sl i) := h.1.2.2.2.2.2.2.2.2.2.1 i hi
theorem RX.txt (h : RX g A M0 M X π now hs k sl sv f L) : ∃ rs, RepT g A M (X + 285) f (nI L) rs := h.1.2.2.2.2.2.2.2.2.2.2
theorem RX.gen (h : RX g A M0 M X π now hs k sl sv f L) {lo hi : Nat} (hl : X + 1 ≤ lo) (hh : hi ≤ X + 358) (hF : ∀ q, ¬ (lo ≤ q ∧ q < hi) → M1 q = M q) (hx : hi ≤ X + 283 ∨ X + 285 ≤ lo)
    (hN : RepV g A M1 (X + 1) π1 v1) (hT : (∃ πt t, RepV g A M1 (X + 36) πt t)) (hH : (∃ ρ πs, RepH g A M1 (X + 71) ρ πs hs1 (nI k1))) {sl1 : Nat → VV} (hS : ∀ i, i < 2 → ∃ πi, RepV g A M1 (X + 288 + 35 * i) πi (sl1 i)) {f1 : Nat → Int32} {L1 : Nat} (hTx : ∃ rs, RepT g A M1 (X + 285) f1 (nI L1) rs) : RX g A M0 M1 X π1 v1 hs1 k1 sl1 sv f1 L1 := by
  obtain ⟨⟨h1, h2, h3, h4, h5, h6, -⟩, hf⟩ := h
  exact ⟨⟨h1, h2, h3, by rw [hF _ (by omega)]; exact h4, by rw [hF _ (by omega)]; exact h5, by rw [hF _ (by omega)]; exact h6, hN, hT, hH, hS, hTx⟩, fun q hq => (hF q (by omega)).trans (hf q hq)⟩
theorem RX.setN (h : RX g A M0 M X π now hs k sl sv f L) (hV : RepV g A M1 (X + 1) π1 v1) (hF : FrV (X + 1) M M1) : RX g A M0 M1 X π1 v1 hs k sl sv f L := by
  obtain ⟨πt, t, hT⟩ := h.tri
  obtain ⟨ρ, πs, hH⟩ := h.his
  obtain ⟨rs, hTx⟩ := h.txt
  exact h.gen (lo := X + 1) (hi := X + 36) (by omega) (by omega) (fun q hq => hF q (by omega)) (by omega) hV ⟨πt, t, hT.agr (fun q h1 h2 => hF q (by omega))⟩ ⟨ρ, πs, hH.agr (fun q h1 h2 => hF q (by omega))⟩ (fun i hi => by
    obtain ⟨πi, hs⟩ := h.slo hi
    exact ⟨πi, hs.agr (fun q h1 h2 => hF q (by omega))⟩) ⟨rs, hTx.agr (fun q h1 h2 => hF q (by omega))⟩
theorem RX.setT {πt : Nat → Nat} {t : VV} (h : RX g A M0 M X π now hs k sl sv f L) (hV : RepV g A M1 (X + 36) πt t) (hF : FrV (X + 36) M M1) : RX g A M0 M1 X π now hs k sl sv f L := by
  obtain ⟨ρ, πs, hH⟩ := h.his
  obtain ⟨rs, hTx⟩ := h.txt
  exact h.gen (lo := X + 36) (hi := X + 71) (by omega) (by omega) (fun q hq => hF q (by omega)) (by omega) (h.nowV.agr (fun q h1 h2 => hF q (by omega))) ⟨πt, t, hV⟩ ⟨ρ, πs, hH.agr (fun q h1 h2 => hF q (by omega))⟩ (fun i hi => by
    obtain ⟨πi, hs⟩ := h.slo hi
    exact ⟨πi, hs.agr (fun q h1 h2 => hF q (by omega))⟩) ⟨rs, hTx.agr (fun q h1 h2 => hF q (by omega))⟩
theorem RX.setH {ρ1 : Nat → Nat} {πs1 : Nat → Nat → Nat} (h : RX g A M0 M X π now hs k sl sv f L) (hH : RepH g A M1 (X + 71) ρ1 πs1 hs1 (nI k1)) (hF : FrH (X + 71) M M1) : RX g A M0 M1 X π now hs1 k1 sl sv f L := by
  obtain ⟨πt, t, hT⟩ := h.tri
  obtain ⟨rs, hTx⟩ := h.txt
  exact h.gen (lo := X + 71) (hi := X + 283) (by omega) (by omega) (fun q hq => hF q (by omega)) (by omega) (h.nowV.agr (fun q h1 h2 => hF q (by omega))) ⟨πt, t, hT.agr (fun q h1 h2 => hF q (by omega))⟩ ⟨ρ1, πs1, hH⟩ (fun i hi => by
    obtain ⟨πi, hs⟩ := h.slo hi
    exact ⟨πi, hs.agr (fun q h1 h2 => hF q (by omega))⟩) ⟨rs, hTx.agr (fun q h1 h2 => hF q (by omega))⟩
theorem RX.setHN {ρ1 : Nat → Nat} {πs1 : Nat → Nat → Nat} (h : RX g A M0 M X π now hs k sl sv f L) (hH : RepH g A M1 (X + 71) ρ1 πs1 hs1 (nI k1)) (hV : RepV g A M1 (X + 1) π1 v1) (hF : FrHB (X + 71) (X + 1) M M1) : RX g A M0 M1 X π1 v1 hs1 k1 sl sv f L := by
  obtain ⟨πt, t, hT⟩ := h.tri
  obtain ⟨rs, hTx⟩ := h.txt
  exact h.gen (lo := X + 1) (hi := X + 283) (by omega) (by omega) (fun q hq => hF q (by omega) (by omega)) (by omega) hV ⟨πt, t, hT.agr (fun q h1 h2 => hF q (by omega) (by omega))⟩ ⟨ρ1, πs1, hH⟩ (fun i hi => by
    obtain ⟨πi, hs⟩ := h.slo hi
    exact ⟨πi, hs.agr (fun q h1 h2 => hF q (by omega) (by omega))⟩) ⟨rs, hTx.agr (fun q h1 h2 => hF q (by omega) (by omega))⟩
theorem RX.setX {f1 : Nat → Int32} {L1 : Nat} {rs1 : Nat → Int32} (h : RX g A M0 M X π now hs k sl sv f L) (hTx : RepT g A M1 (X + 285) f1 (nI L1) rs1) (hF : FrT (X + 285) M M1) : RX g A M0 M1 X π now hs k sl sv f1 L1 := by
  obtain ⟨πt, t, hT⟩ := h.tri
  obtain ⟨ρ, πs, hH⟩ := h.his
  exact h.gen (lo := X + 285) (hi := X + 288) (by omega) (by omega) (fun q hq => hF q (by omega)) (by omega) (h.nowV.agr (fun q h1 h2 => hF q (by omega))) ⟨πt, t, hT.agr (fun q h1 h2 => hF q (by omega))⟩ ⟨ρ, πs, hH.agr (fun q h1 h2 => hF q (by omega))⟩ (fun i hi => by
    obtain ⟨πi, hs⟩ := h.slo hi
    exact ⟨πi, hs.agr (fun q h1 h2 => hF q (by omega))⟩) ⟨rs1, hTx⟩
theorem RX.setS {i : Nat} {πi : Nat → Nat} (h : RX g A M0 M X π now hs k sl sv f L) (hi : i < 2) (hV : RepV g A M1 (X + 288 + 35 * i) πi v1) (hF : FrV (X + 288 + 35 * i) M M1) : RX g A M0 M1 X π now hs k (va_up sl i v1) sv f L := by
  obtain ⟨πt, t, hT⟩ := h.tri
  obtain ⟨ρ, πs, hH⟩ := h.his
  obtain ⟨rs, hTx⟩ := h.txt
  refine h.gen (lo := X + 288) (hi := X + 358) (by omega) (by omega) (fun q hq => hF q (by omega)) (by omega) (h.nowV.agr (fun q h1 h2 => hF q (by omega))) ⟨πt, t, hT.agr (fun q h1 h2 => hF q (by omega))⟩ ⟨ρ, πs, hH.agr (fun q h1 h2 => hF q (by omega))⟩ (fun j hj => ?_) ⟨rs, hTx.agr (fun q h1 h2 => hF q (by omega))⟩
  by_cases hji : j = i
  · subst hji
    rw [va_up_self]
    exact ⟨πi, hV⟩
  · rw [va_up_ne _ _ hji]
    obtain ⟨πj, hs⟩ := h.slo hj
    exact ⟨πj, hs.agr (fun q h1 h2 => hF q (by omega))⟩
theorem RX.setSv {sv1 : Nat → Int32} (h : RX g A M0 M X π now hs k sl sv f L) : RX g A M0 (va_up M (X + 284) (svE g sv1)) X π now hs k sl sv1 f L := by
  have hF : ∀ q, q ≠ X + 284 → va_up M (X + 284) (svE g sv1) q = M q := fun q hq => va_up_ne _ _ hq
  obtain ⟨⟨h1, h2, h3, h4, h5, h6, hN, ⟨πt, t, hT⟩, ⟨ρ, πs, hH⟩, hSl, ⟨rs, hTx⟩⟩, hf⟩ := h
  refine ⟨⟨h1, h2, h3, by rw [hF _ (by omega)]; exact h4, by rw [hF _ (by omega)]; exact h5, va_up_self _ _ _, hN.agr (fun q h1 h2 => hF q (by omega)), ⟨πt, t, hT.agr (fun q h1 h2 => hF q (by omega))⟩, ⟨ρ, πs, hH.agr (fun q h1 h2 => hF q (by omega))⟩, fun i hi => ?_, ⟨rs, hTx.agr (fun q h1 h2 => hF q (by omega))⟩⟩, fun q hq => (hF q (by omega)).trans (hf q hq)⟩
  obtain ⟨πi, hs⟩ := hSl i hi
  exact ⟨πi, hs.agr (fun q h1 h2 => hF q (by omega))⟩
end
/-- the class's state -/
abbrev CS : Type := VV × (Nat → VV) × Nat × (Nat → VV) × (Nat → Int32) × (Nat → Int32) × Nat
def RXS (g : GG) (A : Nat → Prop) (M0 M : MM) (X : Nat) (c : CS) : Prop := ∃ π, RX g A M0 M X π c.1 c.2.1 c.2.2.1 c.2.2.2.1 c.2.2.2.2.1 c.2.2.2.2.2.1 c.2.2.2.2.2.2
def CI (c : CS) : Prop := OnW c.1 ∧ c.2.2.1 ≤ 6 ∧ (∀ i, i < 6 → OnW (c.2.1 i)) ∧ (∀ i, i < 2 → OnW (c.2.2.2.1 i)) ∧ c.2.2.2.2.2.2 ≤ 60 ∧ ∀ i, i < 60 → narrow .char (.int (c.2.2.2.2.2.1 i)) = .int (c.2.2.2.2.2.1 i) ∧ fits .char (.int (c.2.2.2.2.2.1 i)) = true
def onN (v : VV) : Nat := (v.1 3).toNatClampNeg
theorem onN_eq {v : VV} {n : Nat} (h : v.1 3 = nI n) (hn : n ≤ 20) : onN v = n := by
  unfold onN
  rw [h]
  exact nI_clamp (by omega)
theorem OnW.eq {v : VV} (h : OnW v) : v.1 3 = nI (onN v) ∧ onN v ≤ 20 := by
  obtain ⟨n, hn, e⟩ := h
  rw [onN_eq e hn]
  exact ⟨e, hn⟩
/-- the state before a change is recorded, and there is a new one -/
def recX (c : CS) (v : VV) : CS := (v, recV c.2.2.1 c.2.1 c.1 (onN c.1), recK c.2.2.1, c.2.2.2)
end
section
def oSet (c : CS) (x y : Int32) : Int32 × CS := if x = 0 ∧ ¬ winC y 4 60 = 0 then (c.1.1 0, recX c (chgC c.1 (onN c.1) y)) else if x = 1 ∧ ¬ winC y 0 1 = 0 then (c.1.1 1, recX c (vW c.1 1 y)) else (-1000002, c)
theorem oSet_a {c : CS} {x y : Int32} (h : x = 0) (h2 : ¬ winC y 4 60 = 0) : oSet c x y = (c.1.1 0, recX c (chgC c.1 (onN c.1) y)) := if_pos ⟨h, h2⟩
theorem oSet_b {c : CS} {x y : Int32} (h : x = 1) (h2 : ¬ winC y 0 1 = 0) : oSet c x y = (c.1.1 1, recX c (vW c.1 1 y)) := (if_neg (fun z => absurd (z.1.symm.trans h) (by decide))).trans (if_pos ⟨h, h2⟩)
theorem oSet_c {c : CS} {x y : Int32} (h : ¬ x = 0) (h2 : ¬ x = 1) : oSet c x y = (-1000002, c) := (if_neg (fun z => h z.1)).trans (if_neg (fun z => h2 z.1))
theorem oSet_d {c : CS} {x y : Int32} (h : x = 0) (h2 : winC y 4 60 = 0) : oSet c x y = (-1000002, c) := (if_neg (fun z => z.2 h2)).trans (if_neg (fun z => absurd (h.symm.trans z.1) (by decide)))
theorem oSet_e {c : CS} {x y : Int32} (h : ¬ x = 0) (h2 : winC y 0 1 = 0) : oSet c x y = (-1000002, c) := (if_neg (fun z => h z.1)).trans (if_neg (fun z => z.2 h2))
def gauV (v : VV) (i : Nat) (a b d w : Int32) : VV := vG (vG (vG (vG v i 0 a) i 1 b) i 2 d) i 3 w
def oGauge (c : CS) (x a b d w : Int32) : Int32 × CS := match gxn 6 x with
  | none => (-1000001, c)
  | some i => if winC a 1 9 = 0 ∨ winC b 1 50 = 0 ∨ winC d 0 200 = 0 ∨ winC w 0 9 = 0 then (-1000002, c) else ((gauV c.1 i a b d w).2.1 i 4, recX c (gauV c.1 i a b d w))
theorem oGauge_n {c : CS} {x a b d w : Int32} (e : gxn 6 x = none) : oGauge c x a b d w = (-1000001, c) := by unfold oGauge; rw [e]
theorem oGauge_b {c : CS} {x a b d w : Int32} {i : Nat} (e : gxn 6 x = some i) (h : winC a 1 9 = 0 ∨ winC b 1 50 = 0 ∨ winC d 0 200 = 0 ∨ winC w 0 9 = 0) : oGauge c x a b d w = (-1000002, c) := by unfold oGauge; rw [e]; exact if_pos h
theorem oGauge_y {c : CS} {x a b d w : Int32} {i : Nat} (e : gxn 6 x = some i) (h1 : ¬ winC a 1 9 = 0) (h2 : ¬ winC b 1 50 = 0) (h3 : ¬ winC d 0 200 = 0) (h4 : ¬ winC w 0 9 = 0) : oGauge c x a b d w = ((gauV c.1 i a b d w).2.1 i 4, recX c (gauV c.1 i a b d w)) := by unfold oGauge; rw [e]; exact if_neg (fun z => z.elim h1 (fun z => z.elim h2 (fun z => z.elim h3 h4)))
def oRain (c : CS) (x y : Int32) : Int32 × CS := if winC x 0 99 = 0 ∨ winC y 1 24 = 0 then (-1000002, c) else if ¬ c.1.1 2 + y ≤ 9999 then (-1000004, c) else (pasT x c.1 y.toNatClampNeg, recX c (pasC x c.1 y.toNatClampNeg))
def oSend (c : CS) (x : Int32) : Int32 × CS := match gxn 6 x with
  | none => (-1000001, c)
  | some i => if nI 20 ≤ c.1.1 3 then (-1000004, c) else (whC (senC c.1 i (onN c.1)) ((senC c.1 i (onN c.1)).2.1 i 5), recX c (senC c.1 i (onN c.1)))
def ruN (c : CS) (x : Int32) : Option Nat := if c.1.1 3 ≤ x then none else gxn 20 x
def oLose (c : CS) (x : Int32) : Int32 × CS := match ruN c x with
  | none => (-1000001, c)
  | some j => (c.1.2.2 j 0, recX c (rmvC (cosC c.1 j) j (onN c.1)))
def oTwice (c : CS) (x : Int32) : Int32 × CS := match ruN c x with
  | none => (-1000001, c)
  | some j => if nI 20 ≤ c.1.1 3 then (-1000004, c) else ((twiC c.1 j (onN c.1)).1 3, recX c (twiC c.1 j (onN c.1)))
def oGaugeOf (c : CS) (x y : Int32) : Int32 := match gxn 6 x with
  | none => -1000001
  | some i => facC c.1 i y
def ledV (v : VV) (i : Nat) (y : Int32) : Int32 := if y = 0 then v.2.1 i 8 else if y = 1 then v.2.1 i 9 else if y = 2 then whC v (v.2.1 i 10) else if y = 3 then v.2.1 i 5 - v.2.1 i 8 else if y = 4 then v.2.1 i 12 else if y = 5 then v.2.1 i 13 else if y = 6 then v.2.1 i 14 else if y = 7 then v.2.1 i 15 else -1000002
def oLedger (c : CS) (x y : Int32) : Int32 := match gxn 6 x with
  | none => -1000001
  | some i => ledV c.1 i y
def runV (v : VV) (j : Nat) (y : Int32) : Int32 := if y = 0 then v.2.2 j 0 else if y = 1 then whC v (v.2.2 j 1) else if y = 2 then v.2.2 j 2 else if y = 3 then v.2.2 j 4 else -1000002
def oRunner (c : CS) (x y : Int32) : Int32 := match ruN c x with
  | none => -1000001
  | some j => runV c.1 j y
def oCount (c : CS) (x : Int32) : Int32 := if x = 0 then c.1.1 0 else if x = 1 then c.1.1 1 else if x = 2 then c.1.1 2 else if x = 3 then c.1.1 3 else if x = 4 then sumN (fun i => facC c.1 i 7) 6 else if x = 5 then sumN (fun i => facC c.1 i 8) 6 + sumN (fun i => facC c.1 i 4) 6 else if x = 6 then sumN (fun i => facC c.1 i 5) 6 else if x = 7 then sumN (fun i => c.1.2.1 i 8) 6 else if x = 8 then gapN c.1 6 else if x = 9 then nI c.2.2.2.2.2.2 else if x = 10 then nI c.2.2.1 else -1000002
theorem sw_out {lo hi : Int} {x : Int32} (h : x.toInt < lo ∨ hi < x.toInt) (k : Int32) (h1 : lo ≤ k.toInt) (h2 : k.toInt ≤ hi) : ¬ x = k := fun q => by subst q; omega
theorem ledV_out {v : VV} {i : Nat} {y : Int32} (h : y.toInt < 0 ∨ 7 < y.toInt) : ledV v i y = -1000002 := by
  unfold ledV
  rw [if_neg (sw_out h 0 (by decide) (by decide)), if_neg (sw_out h 1 (by decide) (by decide)), if_neg (sw_out h 2 (by decide) (by decide)), if_neg (sw_out h 3 (by decide) (by decide)), if_neg (sw_out h 4 (by decide) (by decide)), if_neg (sw_out h 5 (by decide) (by decide)), if_neg (sw_out h 6 (by decide) (by decide)), if_neg (sw_out h 7 (by decide) (by decide))]
theorem runV_out {v : VV} {i : Nat} {y : Int32} (h : y.toInt < 0 ∨ 3 < y.toInt) : runV v i y = -1000002 := by
  unfold runV
  rw [if_neg (sw_out h 0 (by decide) (by decide)), if_neg (sw_out h 1 (by decide) (by decide)), if_neg (sw_out h 2 (by decide) (by decide)), if_neg (sw_out h 3 (by decide) (by decide))]
theorem oCount_out {c : CS} {y : Int32} (h : y.toInt < 0 ∨ 10 < y.toInt) : oCount c y = -1000002 := by
  unfold oCount
  rw [if_neg (sw_out h 0 (by decide) (by decide)), if_neg (sw_out h 1 (by decide) (by decide)), if_neg (sw_out h 2 (by decide) (by decide)), if_neg (sw_out h 3 (by decide) (by decide)), if_neg (sw_out h 4 (by decide) (by decide)), if_neg (sw_out h 5 (by decide) (by decide)), if_neg (sw_out h 6 (by decide) (by decide)), if_neg (sw_out h 7 (by decide) (by decide)), if_neg (sw_out h 8 (by decide) (by decide)), if_neg (sw_out h 9 (by decide) (by decide)), if_neg (sw_out h 10 (by decide) (by decide))]
theorem win_of {x lo hi : Int32} (h : ¬ winC x lo hi = 0) : lo ≤ x ∧ x ≤ hi := Classical.byContradiction (fun q => h (if_neg q))
theorem clampQ {x hi : Int32} {n : Nat} (h0 : 0 ≤ x) (h1 : x ≤ hi) (hh : hi.toInt = n) (hn : n < 2 ^ 31) : ∃ q, q ≤ n ∧ x = nI q ∧ x.toNatClampNeg = q := by
  obtain ⟨q, hq, e⟩ := nI_of2 (M := hi) hh (Int32.not_lt.mpr h0) h1
  exact ⟨q, hq, e, by rw [e]; exact nI_clamp (by omega)⟩
theorem ru_cases {v : VV} {n : Nat} (hn : v.1 3 = nI n) (hn20 : n ≤ 20) (x : Int32) : (if v.1 3 ≤ x then none else gxn 20 x) = none ∨ ∃ j, j < n ∧ x = nI j ∧ (if v.1 3 ≤ x then none else gxn 20 x) = some j := by
  rw [hn]
  rcases pk_ix x (show n < 2 ^ 31 by omega) with h | h | ⟨j, hj, rfl⟩
  · refine Or.inl ?_
    by_cases h2 : nI n ≤ x
    · rw [if_pos h2]
    · rw [if_neg h2]
      unfold gxn
      rw [if_pos (Or.inl h)]
  · exact Or.inl (if_pos h)
  · refine Or.inr ⟨j, hj, rfl, ?_⟩
    rw [if_neg (nI_ge hj (by omega))]
    exact gxn_in (by omega) (by decide)
set_option maxHeartbeats 4000000 in
set_option maxRecDepth 100000 in
/-- set -/
theorem k_X7_set (l : Launch) (g : GG) (A : Nat → Prop) (M0 : MM) (X : Nat) (now : VV) (hs : Nat → VV) (k : Nat) (sl : Nat → VV) (sv f : Nat → Int32) (L : Nat) (hR : RXS g A M0 M0 X (now, hs, k, sl, sv, f, L)) (hI : CI (now, hs, k, sl, sv, f, L)) (x y : Int32)  : Met l yX7_set (Uw yX7_set cX7_set 4 (Option.some ClassFile.FieldType.int)) (rmD 4) (PreM [.ref (X), .int (x), .int (y)] g A M0) (PosI (fun r M1 => r = (oSet (now, hs, k, sl, sv, f, L) x y).1 ∧ RXS g A M0 M1 X (oSet (now, hs, k, sl, sv, f, L) x y).2) g A) 0 0 A := by
  refine mk_Met (own := RX7) rfl rfl (by decide) (Nat.le_of_ble_eq_true rfl) ?_
  intro p e s m below meth c ls aa Q haa hQ hx hb hr hlk hml hown hts hK hM hS hl hnm
  obtain ⟨M, hMM⟩ : ∃ M, M = M0 := ⟨_, rfl⟩
  rw [← hMM] at hM hR
  have ht : ∀ w ∈ lw_good, w.before _ s = true := fun w h => hts w (List.mem_cons_of_mem _ h)
  have hl : lv_has ls 4 [(0, .ref (X)), (1, .int (x)), (2, .int (y))] := hl
  obtain ⟨π, hX⟩ := hR
  have hX : RX g A M0 M X π now hs k sl sv f L := ⟨hX.1, by rw [hMM]; exact FrX.rf⟩
  obtain ⟨⟨n, hn20, hn⟩, hk6, hhs, hsl, hL, hch⟩ := id hI
  have hN : onN now = n := onN_eq hn hn20
  refine lv_iload_n hx hb dX7_set_0 rfl (lv_at hl 1 rfl) ?_
  refine lv_if_ne (tgt := 43) hx hb dX7_set_1 (by decide) (fun c_1 => ?_) (fun c_1 => ?_)
  · refine lv_iload_n hx hb dX7_set_43 rfl (lv_at hl 1 rfl) ?_
    refine lv_iconst (v := 1) hx hb dX7_set_44 (by first | rfl | decide) ?_
    refine lv_icmp_ne (tgt := 86) hx hb dX7_set_45 (by decide) (fun c_45 => ?_) (fun c_45 => ?_)
    · refine lv_ldc (v := (-1000002)) hx hb hown (ht _ uw_340) dX7_set_86 ?_
      subst hQ
      exact m_zret hx hb hr (rfl) hlk hK hM hS dX7_set_88 (by first | (rw [oSet_c c_1 c_45]; exact ⟨rfl, π, hX⟩) | (rw [oSet_e c_1 c_54]; exact ⟨rfl, π, hX⟩) | (rw [oSet_d c_1 c_11]; exact ⟨rfl, π, hX⟩))
    · refine lv_iload_n hx hb dX7_set_48 rfl (lv_at hl 2 rfl) ?_
      refine lv_iconst (v := 0) hx hb dX7_set_49 (by first | rfl | decide) ?_
      refine lv_iconst (v := 1) hx hb dX7_set_50 (by first | rfl | decide) ?_
      refine m_callRSI (val := winC (y) (0) (1)) (As := [.int (y), .int (0), .int (1)]) (rest := []) ⟨hx, hb, hml, hown, ht⟩ (k_X7_within l g A M (y) (0) (1)) (cwS 3 ht (gUS uw_301 uw_302 uw_34 uw_303) rfl rfl rfl (by decide +kernel) ⟨by decide, by decide⟩) hK hM hS rfl hl.1 rfl (Nat.le_of_ble_eq_true rfl) dX7_set_51 ⟨by decide, by decide⟩ (fun H locs hM hS => ?_)
      refine lv_if_eq (tgt := 86) hx hb dX7_set_54 (by decide) (fun c_54 => ?_) (fun c_54 => ?_)
      · refine lv_ldc (v := (-1000002)) hx hb hown (ht _ uw_340) dX7_set_86 ?_
        subst hQ
        exact m_zret hx hb hr (rfl) hlk hK hM hS dX7_set_88 (by first | (rw [oSet_c c_1 c_45]; exact ⟨rfl, π, hX⟩) | (rw [oSet_e c_1 c_54]; exact ⟨rfl, π, hX⟩) | (rw [oSet_d c_1 c_11]; exact ⟨rfl, π, hX⟩))
      · refine lv_aload_n hx hb dX7_set_57 rfl (lv_at hl 0 rfl) ?_
        refine m_get (ci := 7) (C := RX7) (T := TX7) (N := 7) hx hb ht ui_X7 hown hK hM hX.AX hX.obj rfl 2 (by decide) (ht _ uw_277) rfl dX7_set_58 ?_
        refine lv_aload_n hx hb dX7_set_61 rfl (lv_at hl 0 rfl) ?_
        refine m_get (ci := 7) (C := RX7) (T := TX7) (N := 7) hx hb ht ui_X7 hown hK hM hX.AX hX.obj rfl 0 (by decide) (ht _ uw_275) rfl dX7_set_62 ?_
        obtain ⟨ρ8, πs8, hH8⟩ := hX.his
        refine m_callV (As := [.ref (X + 1)]) (rest := []) ⟨hx, hb, hml, hown, ht⟩ (k_X1_record l g A M (X + 71) ρ8 πs8 hs (nI k) hH8 (X + 1) π now n hX.nowV (by omega) k rfl hk6 hn hn20) (cwV 1 ht (gU uw_304 uw_305 uw_306 uw_39 uw_307) rfl rfl rfl (by decide +kernel) ⟨by decide, by decide⟩) hK hM hS (m_recv hK hM hH8.1 hH8.2.2.2.1 rfl) rfl hl.1 rfl (Nat.le_of_ble_eq_true rfl) dX7_set_65 ⟨by decide, by decide⟩ (fun M H locs hp hM hS => ?_)
        obtain ⟨⟨ρ7, πs7, hH7⟩, hF7⟩ := hp
        have hX := hX.setH hH7 hF7
        refine lv_aload_n hx hb dX7_set_68 rfl (lv_at hl 0 rfl) ?_
        refine m_get (ci := 7) (C := RX7) (T := TX7) (N := 7) hx hb ht ui_X7 hown hK hM hX.AX hX.obj rfl 0 (by decide) (ht _ uw_275) rfl dX7_set_69 ?_
        refine rv_getW hx hb ht ui_X6 hown hK hM hX.nowV 1 (by decide) (ht _ uw_191) dX7_set_72 ?_
        refine lv_istore_n (lv' := [(3, .int (now.1 1)), (0, .ref (X)), (1, .int (x)), (2, .int (y))]) hx hb dX7_set_75 rfl hl (by decide) rfl (fun ls hl => ?_)
        refine lv_aload_n hx hb dX7_set_76 rfl (lv_at hl 1 rfl) ?_
        refine m_get (ci := 7) (C := RX7) (T := TX7) (N := 7) hx hb ht ui_X7 hown hK hM hX.AX hX.obj rfl 0 (by decide) (ht _ uw_275) rfl dX7_set_77 ?_
        refine lv_iload_n hx hb dX7_set_80 rfl (lv_at hl 3 rfl) ?_
        refine rv_putW hx hb ht ui_X6 hown hK hM hS hX.nowV FrV.rf 1 (by decide) (ht _ uw_191) dX7_set_81 (fun M H locs hM hV9 hF9 hS => ?_)
        have hX := hX.setN hV9 hF9
        refine lv_iload_n hx hb dX7_set_84 rfl (lv_at hl 0 rfl) ?_
        subst hQ
        exact m_zret hx hb hr (rfl) hlk hK hM hS dX7_set_85 (by rw [oSet_b c_45 c_54]; exact ⟨rfl, π, by rw [← hN] at hX; exact hX⟩)
  · refine lv_iload_n hx hb dX7_set_4 rfl (lv_at hl 2 rfl) ?_
    refine lv_iconst (v := 4) hx hb dX7_set_5 (by first | rfl | decide) ?_
    refine lv_bipush (v := 60) hx hb dX7_set_6 (by first | rfl | decide) ?_
    refine m_callRSI (val := winC (y) (4) (60)) (As := [.int (y), .int (4), .int (60)]) (rest := []) ⟨hx, hb, hml, hown, ht⟩ (k_X7_within l g A M (y) (4) (60)) (cwS 3 ht (gUS uw_301 uw_302 uw_34 uw_303) rfl rfl rfl (by decide +kernel) ⟨by decide, by decide⟩) hK hM hS rfl hl.1 rfl (Nat.le_of_ble_eq_true rfl) dX7_set_8 ⟨by decide, by decide⟩ (fun H locs hM hS => ?_)
    refine lv_if_eq (tgt := 43) hx hb dX7_set_11 (by decide) (fun c_11 => ?_) (fun c_11 => ?_)
    · refine lv_iload_n hx hb dX7_set_43 rfl (lv_at hl 1 rfl) ?_
      refine lv_iconst (v := 1) hx hb dX7_set_44 (by first | rfl | decide) ?_
      refine lv_icmp_ne (tgt := 86) hx hb dX7_set_45 (by decide) (fun c_45 => ?_) (fun c_45 => ?_)
      · refine lv_ldc (v := (-1000002)) hx hb hown (ht _ uw_340) dX7_set_86 ?_
        subst hQ
        exact m_zret hx hb hr (rfl) hlk hK hM hS dX7_set_88 (by first | (rw [oSet_c c_1 c_45]; exact ⟨rfl, π, hX⟩) | (rw [oSet_e c_1 c_54]; exact ⟨rfl, π, hX⟩) | (rw [oSet_d c_1 c_11]; exact ⟨rfl, π, hX⟩))
      · refine lv_iload_n hx hb dX7_set_48 rfl (lv_at hl 2 rfl) ?_
        refine lv_iconst (v := 0) hx hb dX7_set_49 (by first | rfl | decide) ?_
        refine lv_iconst (v := 1) hx hb dX7_set_50 (by first | rfl | decide) ?_
        refine m_callRSI (val := winC (y) (0) (1)) (As := [.int (y), .int (0), .int (1)]) (rest := []) ⟨hx, hb, hml, hown, ht⟩ (k_X7_within l g A M (y) (0) (1)) (cwS 3 ht (gUS uw_301 uw_302 uw_34 uw_303) rfl rfl rfl (by decide +kernel) ⟨by decide, by decide⟩) hK hM hS rfl hl.1 rfl (Nat.le_of_ble_eq_true rfl) dX7_set_51 ⟨by decide, by decide⟩ (fun H locs hM hS => ?_)
        refine lv_if_eq (tgt := 86) hx hb dX7_set_54 (by decide) (fun c_54 => ?_) (fun c_54 => ?_)
        · refine lv_ldc (v := (-1000002)) hx hb hown (ht _ uw_340) dX7_set_86 ?_
          subst hQ
          exact m_zret hx hb hr (rfl) hlk hK hM hS dX7_set_88 (by first | (rw [oSet_c c_1 c_45]; exact ⟨rfl, π, hX⟩) | (rw [oSet_e c_1 c_54]; exact ⟨rfl, π, hX⟩) | (rw [oSet_d c_1 c_11]; exact ⟨rfl, π, hX⟩))
        · refine lv_aload_n hx hb dX7_set_57 rfl (lv_at hl 0 rfl) ?_
          refine m_get (ci := 7) (C := RX7) (T := TX7) (N := 7) hx hb ht ui_X7 hown hK hM hX.AX hX.obj rfl 2 (by decide) (ht _ uw_277) rfl dX7_set_58 ?_
          refine lv_aload_n hx hb dX7_set_61 rfl (lv_at hl 0 rfl) ?_
          refine m_get (ci := 7) (C := RX7) (T := TX7) (N := 7) hx hb ht ui_X7 hown hK hM hX.AX hX.obj rfl 0 (by decide) (ht _ uw_275) rfl dX7_set_62 ?_
          obtain ⟨ρ8, πs8, hH8⟩ := hX.his
          refine m_callV (As := [.ref (X + 1)]) (rest := []) ⟨hx, hb, hml, hown, ht⟩ (k_X1_record l g A M (X + 71) ρ8 πs8 hs (nI k) hH8 (X + 1) π now n hX.nowV (by omega) k rfl hk6 hn hn20) (cwV 1 ht (gU uw_304 uw_305 uw_306 uw_39 uw_307) rfl rfl rfl (by decide +kernel) ⟨by decide, by decide⟩) hK hM hS (m_recv hK hM hH8.1 hH8.2.2.2.1 rfl) rfl hl.1 rfl (Nat.le_of_ble_eq_true rfl) dX7_set_65 ⟨by decide, by decide⟩ (fun M H locs hp hM hS => ?_)
          obtain ⟨⟨ρ7, πs7, hH7⟩, hF7⟩ := hp
          have hX := hX.setH hH7 hF7
          refine lv_aload_n hx hb dX7_set_68 rfl (lv_at hl 0 rfl) ?_
          refine m_get (ci := 7) (C := RX7) (T := TX7) (N := 7) hx hb ht ui_X7 hown hK hM hX.AX hX.obj rfl 0 (by decide) (ht _ uw_275) rfl dX7_set_69 ?_
          refine rv_getW hx hb ht ui_X6 hown hK hM hX.nowV 1 (by decide) (ht _ uw_191) dX7_set_72 ?_
          refine lv_istore_n (lv' := [(3, .int (now.1 1)), (0, .ref (X)), (1, .int (x)), (2, .int (y))]) hx hb dX7_set_75 rfl hl (by decide) rfl (fun ls hl => ?_)
          refine lv_aload_n hx hb dX7_set_76 rfl (lv_at hl 1 rfl) ?_
          refine m_get (ci := 7) (C := RX7) (T := TX7) (N := 7) hx hb ht ui_X7 hown hK hM hX.AX hX.obj rfl 0 (by decide) (ht _ uw_275) rfl dX7_set_77 ?_
          refine lv_iload_n hx hb dX7_set_80 rfl (lv_at hl 3 rfl) ?_
          refine rv_putW hx hb ht ui_X6 hown hK hM hS hX.nowV FrV.rf 1 (by decide) (ht _ uw_191) dX7_set_81 (fun M H locs hM hV9 hF9 hS => ?_)
          have hX := hX.setN hV9 hF9
          refine lv_iload_n hx hb dX7_set_84 rfl (lv_at hl 0 rfl) ?_
          subst hQ
          exact m_zret hx hb hr (rfl) hlk hK hM hS dX7_set_85 (by rw [oSet_b c_45 c_54]; exact ⟨rfl, π, by rw [← hN] at hX; exact hX⟩)
    · refine lv_aload_n hx hb dX7_set_14 rfl (lv_at hl 0 rfl) ?_
      refine m_get (ci := 7) (C := RX7) (T := TX7) (N := 7) hx hb ht ui_X7 hown hK hM hX.AX hX.obj rfl 2 (by decide) (ht _ uw_277) rfl dX7_set_15 ?_
      refine lv_aload_n hx hb dX7_set_18 rfl (lv_at hl 0 rfl) ?_
      refine m_get (ci := 7) (C := RX7) (T := TX7) (N := 7) hx hb ht ui_X7 hown hK hM hX.AX hX.obj rfl 0 (by decide) (ht _ uw_275) rfl dX7_set_19 ?_
      obtain ⟨ρ8, πs8, hH8⟩ := hX.his
      refine m_callV (As := [.ref (X + 1)]) (rest := []) ⟨hx, hb, hml, hown, ht⟩ (k_X1_record l g A M (X + 71) ρ8 πs8 hs (nI k) hH8 (X + 1) π now n hX.nowV (by omega) k rfl hk6 hn hn20) (cwV 1 ht (gU uw_304 uw_305 uw_306 uw_39 uw_307) rfl rfl rfl (by decide +kernel) ⟨by decide, by decide⟩) hK hM hS (m_recv hK hM hH8.1 hH8.2.2.2.1 rfl) rfl hl.1 rfl (Nat.le_of_ble_eq_true rfl) dX7_set_22 ⟨by decide, by decide⟩ (fun M H locs hp hM hS => ?_)
      obtain ⟨⟨ρ7, πs7, hH7⟩, hF7⟩ := hp
      have hX := hX.setH hH7 hF7
      refine lv_aload_n hx hb dX7_set_25 rfl (lv_at hl 0 rfl) ?_
      refine m_get (ci := 7) (C := RX7) (T := TX7) (N := 7) hx hb ht ui_X7 hown hK hM hX.AX hX.obj rfl 0 (by decide) (ht _ uw_275) rfl dX7_set_26 ?_
      refine rv_getW hx hb ht ui_X6 hown hK hM hX.nowV 0 (by decide) (ht _ uw_189) dX7_set_29 ?_
      refine lv_istore_n (lv' := [(3, .int (now.1 0)), (0, .ref (X)), (1, .int (x)), (2, .int (y))]) hx hb dX7_set_32 rfl hl (by decide) rfl (fun ls hl => ?_)
      refine lv_aload_n hx hb dX7_set_33 rfl (lv_at hl 1 rfl) ?_
      refine m_get (ci := 7) (C := RX7) (T := TX7) (N := 7) hx hb ht ui_X7 hown hK hM hX.AX hX.obj rfl 0 (by decide) (ht _ uw_275) rfl dX7_set_34 ?_
      refine lv_iload_n hx hb dX7_set_37 rfl (lv_at hl 3 rfl) ?_
      refine m_callV (As := [.int (y)]) (rest := []) ⟨hx, hb, hml, hown, ht⟩ (k_X6_changeWheels l g A M (X + 1) π now y hX.nowV n hn hn20) (cwV 1 ht (gU uw_328 uw_329 uw_330 uw_35 uw_331) rfl rfl rfl (by decide +kernel) ⟨by decide, by decide⟩) hK hM hS (m_recv hK hM hX.nowV.AW hX.nowV.W rfl) rfl hl.1 rfl (Nat.le_of_ble_eq_true rfl) dX7_set_38 ⟨by decide, by decide⟩ (fun M H locs hp hM hS => ?_)
      obtain ⟨hV9, hF9⟩ := hp
      have hX := hX.setN hV9 hF9
      refine lv_iload_n hx hb dX7_set_41 rfl (lv_at hl 0 rfl) ?_
      subst hQ
      exact m_zret hx hb hr (rfl) hlk hK hM hS dX7_set_42 (by rw [oSet_a c_1 c_11]; exact ⟨rfl, π, by rw [← hN] at hX; exact hX⟩)

set_option maxHeartbeats 4000000 in
set_option maxRecDepth 100000 in
/-- gauge -/
theorem k_X7_gauge (l : Launch) (g : GG) (A : Nat → Prop) (M0 : MM) (X : Nat) (now : VV) (hs : Nat → VV) (k : Nat) (sl : Nat → VV) (sv f : Nat → Int32) (L : Nat) (hR : RXS g A M0 M0 X (now, hs, k, sl, sv, f, L)) (hI : CI (now, hs, k, sl, sv, f, L)) (x a b d w : Int32)  : Met l yX7_gauge (Uw yX7_gauge cX7_gauge 8 (Option.some ClassFile.FieldType.int)) (rmD 4) (PreM [.ref (X), .int (x), .int (a), .int (b), .int (d), .int (w)] g A M0) (PosI (fun r M1 => r = (oGauge (now, hs, k, sl, sv, f, L) x a b d w).1 ∧ RXS g A M0 M1 X (oGauge (now, hs, k, sl, sv, f, L) x a b d w).2) g A) 0 0 A := by
  refine mk_Met (own := RX7) rfl rfl (by decide) (Nat.le_of_ble_eq_true rfl) ?_
  intro p e s m below meth c ls aa Q haa hQ hx hb hr hlk hml hown hts hK hM hS hl hnm
  obtain ⟨M, hMM⟩ : ∃ M, M = M0 := ⟨_, rfl⟩
  rw [← hMM] at hM hR
  have ht : ∀ w ∈ lw_good, w.before _ s = true := fun w h => hts w (List.mem_cons_of_mem _ h)
  have hl : lv_has ls 8 [(0, .ref (X)), (1, .int (x)), (2, .int (a)), (3, .int (b)), (4, .int (d)), (5, .int (w))] := hl
  obtain ⟨π, hX⟩ := hR
  have hX : RX g A M0 M X π now hs k sl sv f L := ⟨hX.1, by rw [hMM]; exact FrX.rf⟩
  obtain ⟨⟨n, hn20, hn⟩, hk6, hhs, hsl, hL, hch⟩ := id hI
  have hN : onN now = n := onN_eq hn hn20
  rcases gxn_cases (n := 6) (by decide) x with ⟨e1, h1⟩ | ⟨i, hi, ex, e1⟩
  · refine lv_aload_n hx hb dX7_gauge_0 rfl (lv_at hl 0 rfl) ?_
    refine m_get (ci := 7) (C := RX7) (T := TX7) (N := 7) hx hb ht ui_X7 hown hK hM hX.AX hX.obj rfl 0 (by decide) (ht _ uw_275) rfl dX7_gauge_1 ?_
    refine lv_iload_n hx hb dX7_gauge_4 rfl (lv_at hl 1 rfl) ?_
    refine m_callRQ (val := none) (w := .null) (rfl) (As := [.int (x)]) (rest := []) ⟨hx, hb, hml, hown, ht⟩ (k_X6_gaugeAt l g A M (X + 1) π now (x) none hX.nowV e1) (cwV 1 ht (gU uw_345 uw_337 uw_338 uw_35 uw_339) rfl rfl rfl (by decide +kernel) ⟨by decide, by decide⟩) hK hM hS (m_recv hK hM hX.nowV.AW hX.nowV.W rfl) rfl hl.1 rfl (Nat.le_of_ble_eq_true rfl) dX7_gauge_5 ⟨by decide, by decide⟩ (fun H locs hM hS => ?_)
    refine lv_astoreN (lv' := [(6, .null), (0, .ref (X)), (1, .int (x)), (2, .int (a)), (3, .int (b)), (4, .int (d)), (5, .int (w))]) hx hb dX7_gauge_8 hl (by decide) rfl (fun ls hl => ?_)
    refine lv_aloadN hx hb dX7_gauge_10 (lv_at hl 0 rfl) ?_
    refine lv_ifnonnullN hx hb dX7_gauge_12 ?_
    refine lv_ldc (v := (-1000001)) hx hb hown (ht _ uw_346) dX7_gauge_15 ?_
    subst hQ
    exact m_zret hx hb hr (rfl) hlk hK hM hS dX7_gauge_17 (by rw [oGauge_n e1]; exact ⟨rfl, π, hX⟩)
  · refine lv_aload_n hx hb dX7_gauge_0 rfl (lv_at hl 0 rfl) ?_
    refine m_get (ci := 7) (C := RX7) (T := TX7) (N := 7) hx hb ht ui_X7 hown hK hM hX.AX hX.obj rfl 0 (by decide) (ht _ uw_275) rfl dX7_gauge_1 ?_
    refine lv_iload_n hx hb dX7_gauge_4 rfl (lv_at hl 1 rfl) ?_
    refine m_callRQ (val := some (X + 1 + 3 + 2 * i)) (w := .ref (X + 1 + 3 + 2 * i)) (rfl) (As := [.int (x)]) (rest := []) ⟨hx, hb, hml, hown, ht⟩ (k_X6_gaugeAt l g A M (X + 1) π now (x) (some i) hX.nowV e1) (cwV 1 ht (gU uw_345 uw_337 uw_338 uw_35 uw_339) rfl rfl rfl (by decide +kernel) ⟨by decide, by decide⟩) hK hM hS (m_recv hK hM hX.nowV.AW hX.nowV.W rfl) rfl hl.1 rfl (Nat.le_of_ble_eq_true rfl) dX7_gauge_5 ⟨by decide, by decide⟩ (fun H locs hM hS => ?_)
    refine lv_astore (lv' := [(6, .ref (X + 1 + 3 + 2 * i)), (0, .ref (X)), (1, .int (x)), (2, .int (a)), (3, .int (b)), (4, .int (d)), (5, .int (w))]) hx hb dX7_gauge_8 hl (by decide) rfl (fun ls hl => ?_)
    refine lv_aload hx hb dX7_gauge_10 (lv_at hl 0 rfl) ?_
    refine lv_ifnonnull (tgt := 18) hx hb dX7_gauge_12 (by decide) ?_
    refine lv_iload_n hx hb dX7_gauge_18 rfl (lv_at hl 3 rfl) ?_
    refine lv_iconst (v := 1) hx hb dX7_gauge_19 (by first | rfl | decide) ?_
    refine lv_bipush (v := 9) hx hb dX7_gauge_20 (by first | rfl | decide) ?_
    refine m_callRSI (val := winC (a) (1) (9)) (As := [.int (a), .int (1), .int (9)]) (rest := []) ⟨hx, hb, hml, hown, ht⟩ (k_X7_within l g A M (a) (1) (9)) (cwS 3 ht (gUS uw_301 uw_302 uw_34 uw_303) rfl rfl rfl (by decide +kernel) ⟨by decide, by decide⟩) hK hM hS rfl hl.1 rfl (Nat.le_of_ble_eq_true rfl) dX7_gauge_22 ⟨by decide, by decide⟩ (fun H locs hM hS => ?_)
    refine lv_if_eq (tgt := 42) hx hb dX7_gauge_25 (by decide) (fun c_25 => ?_) (fun c_25 => ?_)
    · refine lv_iconst (v := 0) hx hb dX7_gauge_42 (by first | rfl | decide) ?_
      refine lv_istore (lv' := [(7, .int (0)), (6, .ref (X + 1 + 3 + 2 * i)), (0, .ref (X)), (1, .int (x)), (2, .int (a)), (3, .int (b)), (4, .int (d)), (5, .int (w))]) hx hb dX7_gauge_43 hl (by decide) rfl (fun ls hl => ?_)
      refine lv_iload hx hb dX7_gauge_45 (lv_at hl 0 rfl) ?_
      refine lv_if_eq (tgt := 73) hx hb dX7_gauge_47 (by decide) (fun c_47 => ?_) (fun c_47 => absurd (rfl) c_47)
      refine lv_ldc (v := (-1000002)) hx hb hown (ht _ uw_340) dX7_gauge_73 ?_
      subst hQ
      exact m_zret hx hb hr (rfl) hlk hK hM hS dX7_gauge_75 (by rw [oGauge_b e1 (by first | exact Or.inl c_25 | exact Or.inr (Or.inl c_35) | exact Or.inr (Or.inr (Or.inl c_59)) | exact Or.inr (Or.inr (Or.inr c_70)))]; exact ⟨rfl, π, hX⟩)
    · refine lv_iload_n hx hb dX7_gauge_28 rfl (lv_at hl 4 rfl) ?_
      refine lv_iconst (v := 1) hx hb dX7_gauge_29 (by first | rfl | decide) ?_
      refine lv_bipush (v := 50) hx hb dX7_gauge_30 (by first | rfl | decide) ?_
      refine m_callRSI (val := winC (b) (1) (50)) (As := [.int (b), .int (1), .int (50)]) (rest := []) ⟨hx, hb, hml, hown, ht⟩ (k_X7_within l g A M (b) (1) (50)) (cwS 3 ht (gUS uw_301 uw_302 uw_34 uw_303) rfl rfl rfl (by decide +kernel) ⟨by decide, by decide⟩) hK hM hS rfl hl.1 rfl (Nat.le_of_ble_eq_true rfl) dX7_gauge_32 ⟨by decide, by decide⟩ (fun H locs hM hS => ?_)
      refine lv_if_eq (tgt := 42) hx hb dX7_gauge_35 (by decide) (fun c_35 => ?_) (fun c_35 => ?_)
      · refine lv_iconst (v := 0) hx hb dX7_gauge_42 (by first | rfl | decide) ?_
        refine lv_istore (lv' := [(7, .int (0)), (6, .ref (X + 1 + 3 + 2 * i)), (0, .ref (X)), (1, .int (x)), (2, .int (a)), (3, .int (b)), (4, .int (d)), (5, .int (w))]) hx hb dX7_gauge_43 hl (by decide) rfl (fun ls hl => ?_)
        refine lv_iload hx hb dX7_gauge_45 (lv_at hl 0 rfl) ?_
        refine lv_if_eq (tgt := 73) hx hb dX7_gauge_47 (by decide) (fun c_47 => ?_) (fun c_47 => absurd (rfl) c_47)
        refine lv_ldc (v := (-1000002)) hx hb hown (ht _ uw_340) dX7_gauge_73 ?_
        subst hQ
        exact m_zret hx hb hr (rfl) hlk hK hM hS dX7_gauge_75 (by rw [oGauge_b e1 (by first | exact Or.inl c_25 | exact Or.inr (Or.inl c_35) | exact Or.inr (Or.inr (Or.inl c_59)) | exact Or.inr (Or.inr (Or.inr c_70)))]; exact ⟨rfl, π, hX⟩)
      · refine lv_iconst (v := 1) hx hb dX7_gauge_38 (by first | rfl | decide) ?_
        refine lv_goto (tgt := 43) hx hb dX7_gauge_39 (by decide) ?_
        refine lv_istore (lv' := [(7, .int (1)), (6, .ref (X + 1 + 3 + 2 * i)), (0, .ref (X)), (1, .int (x)), (2, .int (a)), (3, .int (b)), (4, .int (d)), (5, .int (w))]) hx hb dX7_gauge_43 hl (by decide) rfl (fun ls hl => ?_)
        refine lv_iload hx hb dX7_gauge_45 (lv_at hl 0 rfl) ?_
        refine lv_if_eq (tgt := 73) hx hb dX7_gauge_47 (by decide) (fun c_47 => absurd c_47 (by decide)) (fun c_47 => ?_)
        refine lv_iload hx hb dX7_gauge_50 (lv_at hl 6 rfl) ?_
        refine lv_iconst (v := 0) hx hb dX7_gauge_52 (by first | rfl | decide) ?_
        refine lv_sipush (v := 200) hx hb dX7_gauge_53 (by first | rfl | decide) ?_
        refine m_callRSI (val := winC (d) (0) (200)) (As := [.int (d), .int (0), .int (200)]) (rest := []) ⟨hx, hb, hml, hown, ht⟩ (k_X7_within l g A M (d) (0) (200)) (cwS 3 ht (gUS uw_301 uw_302 uw_34 uw_303) rfl rfl rfl (by decide +kernel) ⟨by decide, by decide⟩) hK hM hS rfl hl.1 rfl (Nat.le_of_ble_eq_true rfl) dX7_gauge_56 ⟨by decide, by decide⟩ (fun H locs hM hS => ?_)
        refine lv_if_eq (tgt := 73) hx hb dX7_gauge_59 (by decide) (fun c_59 => ?_) (fun c_59 => ?_)
        · refine lv_ldc (v := (-1000002)) hx hb hown (ht _ uw_340) dX7_gauge_73 ?_
          subst hQ
          exact m_zret hx hb hr (rfl) hlk hK hM hS dX7_gauge_75 (by rw [oGauge_b e1 (by first | exact Or.inl c_25 | exact Or.inr (Or.inl c_35) | exact Or.inr (Or.inr (Or.inl c_59)) | exact Or.inr (Or.inr (Or.inr c_70)))]; exact ⟨rfl, π, hX⟩)
        · refine lv_iload hx hb dX7_gauge_62 (lv_at hl 7 rfl) ?_
          refine lv_iconst (v := 0) hx hb dX7_gauge_64 (by first | rfl | decide) ?_
          refine lv_bipush (v := 9) hx hb dX7_gauge_65 (by first | rfl | decide) ?_
          refine m_callRSI (val := winC (w) (0) (9)) (As := [.int (w), .int (0), .int (9)]) (rest := []) ⟨hx, hb, hml, hown, ht⟩ (k_X7_within l g A M (w) (0) (9)) (cwS 3 ht (gUS uw_301 uw_302 uw_34 uw_303) rfl rfl rfl (by decide +kernel) ⟨by decide, by decide⟩) hK hM hS rfl hl.1 rfl (Nat.le_of_ble_eq_true rfl) dX7_gauge_67 ⟨by decide, by decide⟩ (fun H locs hM hS => ?_)
          refine lv_if_ne (tgt := 76) hx hb dX7_gauge_70 (by decide) (fun c_70 => ?_) (fun c_70 => ?_)
          · refine lv_aload_n hx hb dX7_gauge_76 rfl (lv_at hl 2 rfl) ?_
            refine m_get (ci := 7) (C := RX7) (T := TX7) (N := 7) hx hb ht ui_X7 hown hK hM hX.AX hX.obj rfl 2 (by decide) (ht _ uw_277) rfl dX7_gauge_77 ?_
            refine lv_aload_n hx hb dX7_gauge_80 rfl (lv_at hl 2 rfl) ?_
            refine m_get (ci := 7) (C := RX7) (T := TX7) (N := 7) hx hb ht ui_X7 hown hK hM hX.AX hX.obj rfl 0 (by decide) (ht _ uw_275) rfl dX7_gauge_81 ?_
            obtain ⟨ρ8, πs8, hH8⟩ := hX.his
            refine m_callV (As := [.ref (X + 1)]) (rest := []) ⟨hx, hb, hml, hown, ht⟩ (k_X1_record l g A M (X + 71) ρ8 πs8 hs (nI k) hH8 (X + 1) π now n hX.nowV (by omega) k rfl hk6 hn hn20) (cwV 1 ht (gU uw_304 uw_305 uw_306 uw_39 uw_307) rfl rfl rfl (by decide +kernel) ⟨by decide, by decide⟩) hK hM hS (m_recv hK hM hH8.1 hH8.2.2.2.1 rfl) rfl hl.1 rfl (Nat.le_of_ble_eq_true rfl) dX7_gauge_84 ⟨by decide, by decide⟩ (fun M H locs hp hM hS => ?_)
            obtain ⟨⟨ρ7, πs7, hH7⟩, hF7⟩ := hp
            have hX := hX.setH hH7 hF7
            refine lv_aload hx hb dX7_gauge_87 (lv_at hl 1 rfl) ?_
            refine lv_iload_n hx hb dX7_gauge_89 rfl (lv_at hl 4 rfl) ?_
            refine rv_putG hx hb ht ui_X0 hown hK hM hS hX.nowV FrV.rf hi 0 (by decide) (ht _ uw_116) dX7_gauge_90 (fun M H locs hM hV9 hF9 hS => ?_)
            have hX := hX.setN hV9 hF9
            refine lv_aload hx hb dX7_gauge_93 (lv_at hl 1 rfl) ?_
            refine lv_iload_n hx hb dX7_gauge_95 rfl (lv_at hl 5 rfl) ?_
            refine rv_putG hx hb ht ui_X0 hown hK hM hS hX.nowV FrV.rf hi 1 (by decide) (ht _ uw_119) dX7_gauge_96 (fun M H locs hM hV9 hF9 hS => ?_)
            have hX := hX.setN hV9 hF9
            refine lv_aload hx hb dX7_gauge_99 (lv_at hl 1 rfl) ?_
            refine lv_iload hx hb dX7_gauge_101 (lv_at hl 6 rfl) ?_
            refine rv_putG hx hb ht ui_X0 hown hK hM hS hX.nowV FrV.rf hi 2 (by decide) (ht _ uw_122) dX7_gauge_103 (fun M H locs hM hV9 hF9 hS => ?_)
            have hX := hX.setN hV9 hF9
            refine lv_aload hx hb dX7_gauge_106 (lv_at hl 1 rfl) ?_
            refine lv_iload hx hb dX7_gauge_108 (lv_at hl 7 rfl) ?_
            refine rv_putG hx hb ht ui_X0 hown hK hM hS hX.nowV FrV.rf hi 3 (by decide) (ht _ uw_125) dX7_gauge_110 (fun M H locs hM hV9 hF9 hS => ?_)
            have hX := hX.setN hV9 hF9
            refine lv_aload hx hb dX7_gauge_113 (lv_at hl 1 rfl) ?_
            refine rv_getG hx hb ht ui_X0 hown hK hM hX.nowV hi 4 (by decide) (ht _ uw_128) dX7_gauge_115 ?_
            subst hQ
            exact m_zret hx hb hr (rfl) hlk hK hM hS dX7_gauge_118 (by rw [oGauge_y e1 c_25 c_35 c_59 c_70]; exact ⟨rfl, π, by rw [← hN] at hX; exact hX⟩)
          · refine lv_ldc (v := (-1000002)) hx hb hown (ht _ uw_340) dX7_gauge_73 ?_
            subst hQ
            exact m_zret hx hb hr (rfl) hlk hK hM hS dX7_gauge_75 (by rw [oGauge_b e1 (by first | exact Or.inl c_25 | exact Or.inr (Or.inl c_35) | exact Or.inr (Or.inr (Or.inl c_59)) | exact Or.inr (Or.inr (Or.inr c_70)))]; exact ⟨rfl, π, hX⟩)

set_option maxHeartbeats 4000000 in
set_option maxRecDepth 100000 in
/-- rain -/
theorem k_X7_rain (l : Launch) (g : GG) (A : Nat → Prop) (M0 : MM) (X : Nat) (now : VV) (hs : Nat → VV) (k : Nat) (sl : Nat → VV) (sv f : Nat → Int32) (L : Nat) (hR : RXS g A M0 M0 X (now, hs, k, sl, sv, f, L)) (hI : CI (now, hs, k, sl, sv, f, L)) (x y : Int32)  : Met l yX7_rain (Uw yX7_rain cX7_rain 3 (Option.some ClassFile.FieldType.int)) (rmD 6) (PreM [.ref (X), .int (x), .int (y)] g A M0) (PosI (fun r M1 => r = (oRain (now, hs, k, sl, sv, f, L) x y).1 ∧ RXS g A M0 M1 X (oRain (now, hs, k, sl, sv, f, L) x y).2) g A) 0 0 A := by
  refine mk_Met (own := RX7) rfl rfl (by decide) (Nat.le_of_ble_eq_true rfl) ?_
  intro p e s m below meth c ls aa Q haa hQ hx hb hr hlk hml hown hts hK hM hS hl hnm
  obtain ⟨M, hMM⟩ : ∃ M, M = M0 := ⟨_, rfl⟩
  rw [← hMM] at hM hR
  have ht : ∀ w ∈ lw_good, w.before _ s = true := fun w h => hts w (List.mem_cons_of_mem _ h)
  have hl : lv_has ls 3 [(0, .ref (X)), (1, .int (x)), (2, .int (y))] := hl
  obtain ⟨π, hX⟩ := hR
  have hX : RX g A M0 M X π now hs k sl sv f L := ⟨hX.1, by rw [hMM]; exact FrX.rf⟩
  obtain ⟨⟨n, hn20, hn⟩, hk6, hhs, hsl, hL, hch⟩ := id hI
  have hN : onN now = n := onN_eq hn hn20
  refine lv_iload_n hx hb dX7_rain_0 rfl (lv_at hl 1 rfl) ?_
  refine lv_iconst (v := 0) hx hb dX7_rain_1 (by first | rfl | decide) ?_
  refine lv_bipush (v := 99) hx hb dX7_rain_2 (by first | rfl | decide) ?_
  refine m_callRSI (val := winC (x) (0) (99)) (As := [.int (x), .int (0), .int (99)]) (rest := []) ⟨hx, hb, hml, hown, ht⟩ (k_X7_within l g A M (x) (0) (99)) (cwS 3 ht (gUS uw_301 uw_302 uw_34 uw_303) rfl rfl rfl (by decide +kernel) ⟨by decide, by decide⟩) hK hM hS rfl hl.1 rfl (Nat.le_of_ble_eq_true rfl) dX7_rain_4 ⟨by decide, by decide⟩ (fun H locs hM hS => ?_)
  refine lv_if_eq (tgt := 20) hx hb dX7_rain_7 (by decide) (fun c_7 => ?_) (fun c_7 => ?_)
  · refine lv_ldc (v := (-1000002)) hx hb hown (ht _ uw_340) dX7_rain_20 ?_
    subst hQ
    exact m_zret hx hb hr (rfl) hlk hK hM hS dX7_rain_22 (by unfold oRain; rw [if_pos (by first | exact Or.inl c_7 | exact Or.inr c_17)]; exact ⟨rfl, π, hX⟩)
  · refine lv_iload_n hx hb dX7_rain_10 rfl (lv_at hl 2 rfl) ?_
    refine lv_iconst (v := 1) hx hb dX7_rain_11 (by first | rfl | decide) ?_
    refine lv_bipush (v := 24) hx hb dX7_rain_12 (by first | rfl | decide) ?_
    refine m_callRSI (val := winC (y) (1) (24)) (As := [.int (y), .int (1), .int (24)]) (rest := []) ⟨hx, hb, hml, hown, ht⟩ (k_X7_within l g A M (y) (1) (24)) (cwS 3 ht (gUS uw_301 uw_302 uw_34 uw_303) rfl rfl rfl (by decide +kernel) ⟨by decide, by decide⟩) hK hM hS rfl hl.1 rfl (Nat.le_of_ble_eq_true rfl) dX7_rain_14 ⟨by decide, by decide⟩ (fun H locs hM hS => ?_)
    refine lv_if_ne (tgt := 23) hx hb dX7_rain_17 (by decide) (fun c_17 => ?_) (fun c_17 => ?_)
    · refine lv_aload_n hx hb dX7_rain_23 rfl (lv_at hl 0 rfl) ?_
      refine m_get (ci := 7) (C := RX7) (T := TX7) (N := 7) hx hb ht ui_X7 hown hK hM hX.AX hX.obj rfl 0 (by decide) (ht _ uw_275) rfl dX7_rain_24 ?_
      refine lv_iload_n hx hb dX7_rain_27 rfl (lv_at hl 2 rfl) ?_
      refine m_callRI (val := if now.1 2 + y ≤ 9999 then 1 else 0) (As := [.int (y)]) (rest := []) ⟨hx, hb, hml, hown, ht⟩ (k_X6_hasTimeFor l g A M (X + 1) π now y hX.nowV) (cwV 1 ht (gU uw_351 uw_352 uw_353 uw_35 uw_354) rfl rfl rfl (by decide +kernel) ⟨by decide, by decide⟩) hK hM hS (m_recv hK hM hX.nowV.AW hX.nowV.W rfl) rfl hl.1 rfl (Nat.le_of_ble_eq_true rfl) dX7_rain_28 ⟨by decide, by decide⟩ (fun H locs hM hS => ?_)
      refine lv_if_ne (tgt := 37) hx hb dX7_rain_31 (by decide) (fun c_31 => ?_) (fun c_31 => ?_)
      · refine lv_aload_n hx hb dX7_rain_37 rfl (lv_at hl 0 rfl) ?_
        refine m_get (ci := 7) (C := RX7) (T := TX7) (N := 7) hx hb ht ui_X7 hown hK hM hX.AX hX.obj rfl 2 (by decide) (ht _ uw_277) rfl dX7_rain_38 ?_
        refine lv_aload_n hx hb dX7_rain_41 rfl (lv_at hl 0 rfl) ?_
        refine m_get (ci := 7) (C := RX7) (T := TX7) (N := 7) hx hb ht ui_X7 hown hK hM hX.AX hX.obj rfl 0 (by decide) (ht _ uw_275) rfl dX7_rain_42 ?_
        obtain ⟨ρ8, πs8, hH8⟩ := hX.his
        refine m_callV (As := [.ref (X + 1)]) (rest := []) ⟨hx, hb, hml, hown, ht⟩ (k_X1_record l g A M (X + 71) ρ8 πs8 hs (nI k) hH8 (X + 1) π now n hX.nowV (by omega) k rfl hk6 hn hn20) (cwV 1 ht (gU uw_304 uw_305 uw_306 uw_39 uw_307) rfl rfl rfl (by decide +kernel) ⟨by decide, by decide⟩) hK hM hS (m_recv hK hM hH8.1 hH8.2.2.2.1 rfl) rfl hl.1 rfl (Nat.le_of_ble_eq_true rfl) dX7_rain_45 ⟨by decide, by decide⟩ (fun M H locs hp hM hS => ?_)
        obtain ⟨⟨ρ7, πs7, hH7⟩, hF7⟩ := hp
        have hX := hX.setH hH7 hF7
        refine lv_aload_n hx hb dX7_rain_48 rfl (lv_at hl 0 rfl) ?_
        refine m_get (ci := 7) (C := RX7) (T := TX7) (N := 7) hx hb ht ui_X7 hown hK hM hX.AX hX.obj rfl 0 (by decide) (ht _ uw_275) rfl dX7_rain_49 ?_
        refine lv_iload_n hx hb dX7_rain_52 rfl (lv_at hl 1 rfl) ?_
        refine lv_iload_n hx hb dX7_rain_53 rfl (lv_at hl 2 rfl) ?_
        obtain ⟨hw1, hw2⟩ := win_of c_17
        obtain ⟨q, hq, ey, ec⟩ := clampQ (hi := 24) (n := 24) (Int32.le_trans (show (0 : Int32) ≤ 1 by decide) hw1) hw2 rfl (by decide)
        refine m_callI (As := [.int (x), .int (y)]) (rest := []) ⟨hx, hb, hml, hown, ht⟩ ((by have z := k_X6_passHours l g A M (X + 1) π now x q hX.nowV hI.1 (by omega); rw [← ey] at z; exact z)) (cwV 2 ht (gU uw_356 uw_357 uw_358 uw_35 uw_359) rfl rfl rfl (by decide +kernel) ⟨by decide, by decide⟩) hK hM hS (m_recv hK hM hX.nowV.AW hX.nowV.W rfl) rfl hl.1 rfl (Nat.le_of_ble_eq_true rfl) dX7_rain_54 ⟨by decide, by decide⟩ (fun r9 M H locs hp hM hS => ?_)
        obtain ⟨e9, ⟨π, hV9⟩, hF9⟩ := hp
        have hX := hX.setN hV9 hF9
        subst hQ
        exact m_zret hx hb hr (rfl) hlk hK hM hS dX7_rain_57 (by unfold oRain; rw [if_neg (fun z => z.elim c_7 c_17), if_neg (fun z => c_31 (ite10.mpr z)), ec]; exact ⟨e9, π, by rw [← hN] at hX; exact hX⟩)
      · refine lv_ldc (v := (-1000004)) hx hb hown (ht _ uw_355) dX7_rain_34 ?_
        subst hQ
        exact m_zret hx hb hr (rfl) hlk hK hM hS dX7_rain_36 (by unfold oRain; rw [if_neg (fun z => z.elim c_7 c_17), if_pos (ite10.mp c_31)]; exact ⟨rfl, π, hX⟩)
    · refine lv_ldc (v := (-1000002)) hx hb hown (ht _ uw_340) dX7_rain_20 ?_
      subst hQ
      exact m_zret hx hb hr (rfl) hlk hK hM hS dX7_rain_22 (by unfold oRain; rw [if_pos (by first | exact Or.inl c_7 | exact Or.inr c_17)]; exact ⟨rfl, π, hX⟩)

set_option maxHeartbeats 4000000 in
set_option maxRecDepth 100000 in
/-- send -/
theorem k_X7_send (l : Launch) (g : GG) (A : Nat → Prop) (M0 : MM) (X : Nat) (now : VV) (hs : Nat → VV) (k : Nat) (sl : Nat → VV) (sv f : Nat → Int32) (L : Nat) (hR : RXS g A M0 M0 X (now, hs, k, sl, sv, f, L)) (hI : CI (now, hs, k, sl, sv, f, L)) (x : Int32)  : Met l yX7_send (Uw yX7_send cX7_send 2 (Option.some ClassFile.FieldType.int)) (rmD 5) (PreM [.ref (X), .int (x)] g A M0) (PosI (fun r M1 => r = (oSend (now, hs, k, sl, sv, f, L) x).1 ∧ RXS g A M0 M1 X (oSend (now, hs, k, sl, sv, f, L) x).2) g A) 0 0 A := by
  refine mk_Met (own := RX7) rfl rfl (by decide) (Nat.le_of_ble_eq_true rfl) ?_
  intro p e s m below meth c ls aa Q haa hQ hx hb hr hlk hml hown hts hK hM hS hl hnm
  obtain ⟨M, hMM⟩ : ∃ M, M = M0 := ⟨_, rfl⟩
  rw [← hMM] at hM hR
  have ht : ∀ w ∈ lw_good, w.before _ s = true := fun w h => hts w (List.mem_cons_of_mem _ h)
  have hl : lv_has ls 2 [(0, .ref (X)), (1, .int (x))] := hl
  obtain ⟨π, hX⟩ := hR
  have hX : RX g A M0 M X π now hs k sl sv f L := ⟨hX.1, by rw [hMM]; exact FrX.rf⟩
  obtain ⟨⟨n, hn20, hn⟩, hk6, hhs, hsl, hL, hch⟩ := id hI
  have hN : onN now = n := onN_eq hn hn20
  rcases gxn_cases (n := 6) (by decide) x with ⟨e1, h1⟩ | ⟨i, hi, ex, e1⟩
  · refine lv_aload_n hx hb dX7_send_0 rfl (lv_at hl 0 rfl) ?_
    refine m_get (ci := 7) (C := RX7) (T := TX7) (N := 7) hx hb ht ui_X7 hown hK hM hX.AX hX.obj rfl 0 (by decide) (ht _ uw_275) rfl dX7_send_1 ?_
    refine lv_iload_n hx hb dX7_send_4 rfl (lv_at hl 1 rfl) ?_
    refine m_callRQ (val := none) (w := .null) (rfl) (As := [.int (x)]) (rest := []) ⟨hx, hb, hml, hown, ht⟩ (k_X6_gaugeAt l g A M (X + 1) π now (x) none hX.nowV e1) (cwV 1 ht (gU uw_345 uw_337 uw_338 uw_35 uw_339) rfl rfl rfl (by decide +kernel) ⟨by decide, by decide⟩) hK hM hS (m_recv hK hM hX.nowV.AW hX.nowV.W rfl) rfl hl.1 rfl (Nat.le_of_ble_eq_true rfl) dX7_send_5 ⟨by decide, by decide⟩ (fun H locs hM hS => ?_)
    refine lv_ifnonnullN hx hb dX7_send_8 ?_
    refine lv_ldc (v := (-1000001)) hx hb hown (ht _ uw_346) dX7_send_11 ?_
    subst hQ
    exact m_zret hx hb hr (rfl) hlk hK hM hS dX7_send_13 (by unfold oSend; rw [e1]; exact ⟨rfl, π, hX⟩)
  · refine lv_aload_n hx hb dX7_send_0 rfl (lv_at hl 0 rfl) ?_
    refine m_get (ci := 7) (C := RX7) (T := TX7) (N := 7) hx hb ht ui_X7 hown hK hM hX.AX hX.obj rfl 0 (by decide) (ht _ uw_275) rfl dX7_send_1 ?_
    refine lv_iload_n hx hb dX7_send_4 rfl (lv_at hl 1 rfl) ?_
    refine m_callRQ (val := some (X + 1 + 3 + 2 * i)) (w := .ref (X + 1 + 3 + 2 * i)) (rfl) (As := [.int (x)]) (rest := []) ⟨hx, hb, hml, hown, ht⟩ (k_X6_gaugeAt l g A M (X + 1) π now (x) (some i) hX.nowV e1) (cwV 1 ht (gU uw_345 uw_337 uw_338 uw_35 uw_339) rfl rfl rfl (by decide +kernel) ⟨by decide, by decide⟩) hK hM hS (m_recv hK hM hX.nowV.AW hX.nowV.W rfl) rfl hl.1 rfl (Nat.le_of_ble_eq_true rfl) dX7_send_5 ⟨by decide, by decide⟩ (fun H locs hM hS => ?_)
    refine lv_ifnonnull (tgt := 14) hx hb dX7_send_8 (by decide) ?_
    refine lv_aload_n hx hb dX7_send_14 rfl (lv_at hl 0 rfl) ?_
    refine m_get (ci := 7) (C := RX7) (T := TX7) (N := 7) hx hb ht ui_X7 hown hK hM hX.AX hX.obj rfl 0 (by decide) (ht _ uw_275) rfl dX7_send_15 ?_
    refine m_callRI (val := if nI 20 ≤ now.1 3 then 1 else 0) (As := []) (rest := []) ⟨hx, hb, hml, hown, ht⟩ (k_X6_isFull l g A M (X + 1) π now hX.nowV) (cwV 0 ht (gU uw_400 uw_401 uw_402 uw_35 uw_403) rfl rfl rfl (by decide +kernel) ⟨by decide, by decide⟩) hK hM hS (m_recv hK hM hX.nowV.AW hX.nowV.W rfl) rfl hl.1 rfl (Nat.le_of_ble_eq_true rfl) dX7_send_18 ⟨by decide, by decide⟩ (fun H locs hM hS => ?_)
    refine lv_if_eq (tgt := 27) hx hb dX7_send_21 (by decide) (fun c_21 => ?_) (fun c_21 => ?_)
    · refine lv_aload_n hx hb dX7_send_27 rfl (lv_at hl 0 rfl) ?_
      refine m_get (ci := 7) (C := RX7) (T := TX7) (N := 7) hx hb ht ui_X7 hown hK hM hX.AX hX.obj rfl 2 (by decide) (ht _ uw_277) rfl dX7_send_28 ?_
      refine lv_aload_n hx hb dX7_send_31 rfl (lv_at hl 0 rfl) ?_
      refine m_get (ci := 7) (C := RX7) (T := TX7) (N := 7) hx hb ht ui_X7 hown hK hM hX.AX hX.obj rfl 0 (by decide) (ht _ uw_275) rfl dX7_send_32 ?_
      obtain ⟨ρ8, πs8, hH8⟩ := hX.his
      refine m_callV (As := [.ref (X + 1)]) (rest := []) ⟨hx, hb, hml, hown, ht⟩ (k_X1_record l g A M (X + 71) ρ8 πs8 hs (nI k) hH8 (X + 1) π now n hX.nowV (by omega) k rfl hk6 hn hn20) (cwV 1 ht (gU uw_304 uw_305 uw_306 uw_39 uw_307) rfl rfl rfl (by decide +kernel) ⟨by decide, by decide⟩) hK hM hS (m_recv hK hM hH8.1 hH8.2.2.2.1 rfl) rfl hl.1 rfl (Nat.le_of_ble_eq_true rfl) dX7_send_35 ⟨by decide, by decide⟩ (fun M H locs hp hM hS => ?_)
      obtain ⟨⟨ρ7, πs7, hH7⟩, hF7⟩ := hp
      have hX := hX.setH hH7 hF7
      refine lv_aload_n hx hb dX7_send_38 rfl (lv_at hl 0 rfl) ?_
      refine m_get (ci := 7) (C := RX7) (T := TX7) (N := 7) hx hb ht ui_X7 hown hK hM hX.AX hX.obj rfl 0 (by decide) (ht _ uw_275) rfl dX7_send_39 ?_
      refine lv_iload_n hx hb dX7_send_42 rfl (lv_at hl 1 rfl) ?_
      have hlt : n < 20 := by
        have z := ite10.mp c_21
        rw [hn] at z
        exact nI_lt_of (by omega) (by decide) z
      refine m_callI (As := [.int (x)]) (rest := []) ⟨hx, hb, hml, hown, ht⟩ ((by have z := k_X6_sendRunner l g A M (X + 1) π now i hX.nowV n hn hn20 hi; rw [← ex] at z; exact z)) (cwV 1 ht (gU uw_404 uw_405 uw_406 uw_35 uw_407) rfl rfl rfl (by decide +kernel) ⟨by decide, by decide⟩) hK hM hS (m_recv hK hM hX.nowV.AW hX.nowV.W rfl) rfl hl.1 rfl (Nat.le_of_ble_eq_true rfl) dX7_send_43 ⟨by decide, by decide⟩ (fun r9 M H locs hp hM hS => ?_)
      obtain ⟨e9, ⟨π, hV9⟩, hF9⟩ := hp.1 hlt
      have hX := hX.setN hV9 hF9
      subst hQ
      exact m_zret hx hb hr (rfl) hlk hK hM hS dX7_send_46 (by unfold oSend; rw [e1]; dsimp only; rw [if_neg (ite10.mp c_21)]; rw [← hN] at hX e9; exact ⟨e9, π, hX⟩)
    · refine lv_ldc (v := (-1000004)) hx hb hown (ht _ uw_355) dX7_send_24 ?_
      subst hQ
      exact m_zret hx hb hr (rfl) hlk hK hM hS dX7_send_26 (by unfold oSend; rw [e1]; dsimp only; rw [if_pos (Classical.not_not.mp (fun z => c_21 (ite10.mpr z)))]; exact ⟨rfl, π, hX⟩)

set_option maxHeartbeats 4000000 in
set_option maxRecDepth 100000 in
/-- lose -/
theorem k_X7_lose (l : Launch) (g : GG) (A : Nat → Prop) (M0 : MM) (X : Nat) (now : VV) (hs : Nat → VV) (k : Nat) (sl : Nat → VV) (sv f : Nat → Int32) (L : Nat) (hR : RXS g A M0 M0 X (now, hs, k, sl, sv, f, L)) (hI : CI (now, hs, k, sl, sv, f, L)) (x : Int32)  : Met l yX7_lose (Uw yX7_lose cX7_lose 4 (Option.some ClassFile.FieldType.int)) (rmD 5) (PreM [.ref (X), .int (x)] g A M0) (PosI (fun r M1 => r = (oLose (now, hs, k, sl, sv, f, L) x).1 ∧ RXS g A M0 M1 X (oLose (now, hs, k, sl, sv, f, L) x).2) g A) 0 0 A := by
  refine mk_Met (own := RX7) rfl rfl (by decide) (Nat.le_of_ble_eq_true rfl) ?_
  intro p e s m below meth c ls aa Q haa hQ hx hb hr hlk hml hown hts hK hM hS hl hnm
  obtain ⟨M, hMM⟩ : ∃ M, M = M0 := ⟨_, rfl⟩
  rw [← hMM] at hM hR
  have ht : ∀ w ∈ lw_good, w.before _ s = true := fun w h => hts w (List.mem_cons_of_mem _ h)
  have hl : lv_has ls 4 [(0, .ref (X)), (1, .int (x))] := hl
  obtain ⟨π, hX⟩ := hR
  have hX : RX g A M0 M X π now hs k sl sv f L := ⟨hX.1, by rw [hMM]; exact FrX.rf⟩
  obtain ⟨⟨n, hn20, hn⟩, hk6, hhs, hsl, hL, hch⟩ := id hI
  have hN : onN now = n := onN_eq hn hn20
  rcases ru_cases (v := now) hn hn20 x with e1 | ⟨j, hjn, ex, e1⟩
  · refine lv_aload_n hx hb dX7_lose_0 rfl (lv_at hl 0 rfl) ?_
    refine m_get (ci := 7) (C := RX7) (T := TX7) (N := 7) hx hb ht ui_X7 hown hK hM hX.AX hX.obj rfl 0 (by decide) (ht _ uw_275) rfl dX7_lose_1 ?_
    refine lv_iload_n hx hb dX7_lose_4 rfl (lv_at hl 1 rfl) ?_
    refine m_callRQ (val := none) (w := .null) (rfl) (As := [.int (x)]) (rest := []) ⟨hx, hb, hml, hown, ht⟩ (k_X6_runnerAt l g A M (X + 1) π now (x) none hX.nowV e1) (cwV 1 ht (gU uw_418 uw_369 uw_370 uw_35 uw_371) rfl rfl rfl (by decide +kernel) ⟨by decide, by decide⟩) hK hM hS (m_recv hK hM hX.nowV.AW hX.nowV.W rfl) rfl hl.1 rfl (Nat.le_of_ble_eq_true rfl) dX7_lose_5 ⟨by decide, by decide⟩ (fun H locs hM hS => ?_)
    refine lv_astore_nN (lv' := [(2, .null), (0, .ref (X)), (1, .int (x))]) hx hb dX7_lose_8 rfl hl (by decide) rfl (fun ls hl => ?_)
    refine lv_aload_nN hx hb dX7_lose_9 rfl (lv_at hl 0 rfl) ?_
    refine lv_ifnonnullN hx hb dX7_lose_10 ?_
    refine lv_ldc (v := (-1000001)) hx hb hown (ht _ uw_346) dX7_lose_13 ?_
    subst hQ
    exact m_zret hx hb hr (rfl) hlk hK hM hS dX7_lose_15 (by unfold oLose; rw [show ruN (now, hs, k, sl, sv, f, L) x = none from e1]; exact ⟨rfl, π, hX⟩)
  · have hj : j < 20 := by omega
    refine lv_aload_n hx hb dX7_lose_0 rfl (lv_at hl 0 rfl) ?_
    refine m_get (ci := 7) (C := RX7) (T := TX7) (N := 7) hx hb ht ui_X7 hown hK hM hX.AX hX.obj rfl 0 (by decide) (ht _ uw_275) rfl dX7_lose_1 ?_
    refine lv_iload_n hx hb dX7_lose_4 rfl (lv_at hl 1 rfl) ?_
    refine m_callRQ (val := some (X + 1 + 15 + π j)) (w := .ref (X + 1 + 15 + π j)) (rfl) (As := [.int (x)]) (rest := []) ⟨hx, hb, hml, hown, ht⟩ (k_X6_runnerAt l g A M (X + 1) π now (x) (some j) hX.nowV e1) (cwV 1 ht (gU uw_418 uw_369 uw_370 uw_35 uw_371) rfl rfl rfl (by decide +kernel) ⟨by decide, by decide⟩) hK hM hS (m_recv hK hM hX.nowV.AW hX.nowV.W rfl) rfl hl.1 rfl (Nat.le_of_ble_eq_true rfl) dX7_lose_5 ⟨by decide, by decide⟩ (fun H locs hM hS => ?_)
    refine lv_astore_n (lv' := [(2, .ref (X + 1 + 15 + π j)), (0, .ref (X)), (1, .int (x))]) hx hb dX7_lose_8 rfl hl (by decide) rfl (fun ls hl => ?_)
    refine lv_aload_n hx hb dX7_lose_9 rfl (lv_at hl 0 rfl) ?_
    refine lv_ifnonnull (tgt := 16) hx hb dX7_lose_10 (by decide) ?_
    refine lv_aload_n hx hb dX7_lose_16 rfl (lv_at hl 1 rfl) ?_
    refine m_get (ci := 7) (C := RX7) (T := TX7) (N := 7) hx hb ht ui_X7 hown hK hM hX.AX hX.obj rfl 2 (by decide) (ht _ uw_277) rfl dX7_lose_17 ?_
    refine lv_aload_n hx hb dX7_lose_20 rfl (lv_at hl 1 rfl) ?_
    refine m_get (ci := 7) (C := RX7) (T := TX7) (N := 7) hx hb ht ui_X7 hown hK hM hX.AX hX.obj rfl 0 (by decide) (ht _ uw_275) rfl dX7_lose_21 ?_
    obtain ⟨ρ8, πs8, hH8⟩ := hX.his
    refine m_callV (As := [.ref (X + 1)]) (rest := []) ⟨hx, hb, hml, hown, ht⟩ (k_X1_record l g A M (X + 71) ρ8 πs8 hs (nI k) hH8 (X + 1) π now n hX.nowV (by omega) k rfl hk6 hn hn20) (cwV 1 ht (gU uw_304 uw_305 uw_306 uw_39 uw_307) rfl rfl rfl (by decide +kernel) ⟨by decide, by decide⟩) hK hM hS (m_recv hK hM hH8.1 hH8.2.2.2.1 rfl) rfl hl.1 rfl (Nat.le_of_ble_eq_true rfl) dX7_lose_24 ⟨by decide, by decide⟩ (fun M H locs hp hM hS => ?_)
    obtain ⟨⟨ρ7, πs7, hH7⟩, hF7⟩ := hp
    have hX := hX.setH hH7 hF7
    refine lv_aload_n hx hb dX7_lose_27 rfl (lv_at hl 0 rfl) ?_
    refine rv_getR hx hb ht ui_X5 hown hK hM hX.nowV hj 0 (by decide) (ht _ uw_164) dX7_lose_28 ?_
    refine lv_istore_n (lv' := [(3, .int (now.2.2 j 0)), (2, .ref (X + 1 + 15 + π j)), (0, .ref (X)), (1, .int (x))]) hx hb dX7_lose_31 rfl hl (by decide) rfl (fun ls hl => ?_)
    refine lv_aload_n hx hb dX7_lose_32 rfl (lv_at hl 2 rfl) ?_
    refine m_get (ci := 7) (C := RX7) (T := TX7) (N := 7) hx hb ht ui_X7 hown hK hM hX.AX hX.obj rfl 0 (by decide) (ht _ uw_275) rfl dX7_lose_33 ?_
    refine lv_aload_n hx hb dX7_lose_36 rfl (lv_at hl 1 rfl) ?_
    refine m_callV (As := [.ref (X + 1 + 15 + π j)]) (rest := []) ⟨hx, hb, hml, hown, ht⟩ (k_X6_countAsLost l g A M (X + 1) π now j hX.nowV hj) (cwV 1 ht (gU uw_419 uw_333 uw_334 uw_35 uw_335) rfl rfl rfl (by decide +kernel) ⟨by decide, by decide⟩) hK hM hS (m_recv hK hM hX.nowV.AW hX.nowV.W rfl) rfl hl.1 rfl (Nat.le_of_ble_eq_true rfl) dX7_lose_37 ⟨by decide, by decide⟩ (fun M H locs hp hM hS => ?_)
    obtain ⟨hV9, hF9⟩ := hp
    have hX := hX.setN hV9 hF9
    refine lv_aload_n hx hb dX7_lose_40 rfl (lv_at hl 2 rfl) ?_
    refine m_get (ci := 7) (C := RX7) (T := TX7) (N := 7) hx hb ht ui_X7 hown hK hM hX.AX hX.obj rfl 0 (by decide) (ht _ uw_275) rfl dX7_lose_41 ?_
    refine lv_iload_n hx hb dX7_lose_44 rfl (lv_at hl 3 rfl) ?_
    refine m_callV (As := [.int (x)]) (rest := []) ⟨hx, hb, hml, hown, ht⟩ ((by have z := k_X6_removeRunner l g A M (X + 1) π (cosC now j) j n hX.nowV (by rw [cosC_1]; exact hn) hn20 hjn; rw [← ex] at z; exact z)) (cwV 1 ht (gU uw_420 uw_393 uw_394 uw_35 uw_395) rfl rfl rfl (by decide +kernel) ⟨by decide, by decide⟩) hK hM hS (m_recv hK hM hX.nowV.AW hX.nowV.W rfl) rfl hl.1 rfl (Nat.le_of_ble_eq_true rfl) dX7_lose_45 ⟨by decide, by decide⟩ (fun M H locs hp hM hS => ?_)
    obtain ⟨hV9, hF9⟩ := hp
    have hX := hX.setN hV9 hF9
    refine lv_iload_n hx hb dX7_lose_48 rfl (lv_at hl 0 rfl) ?_
    subst hQ
    exact m_zret hx hb hr (rfl) hlk hK hM hS dX7_lose_49 (by unfold oLose; rw [show ruN (now, hs, k, sl, sv, f, L) x = some j from e1]; exact ⟨rfl, _, by rw [← hN] at hX; exact hX⟩)

set_option maxHeartbeats 4000000 in
set_option maxRecDepth 100000 in
/-- twice -/
theorem k_X7_twice (l : Launch) (g : GG) (A : Nat → Prop) (M0 : MM) (X : Nat) (now : VV) (hs : Nat → VV) (k : Nat) (sl : Nat → VV) (sv f : Nat → Int32) (L : Nat) (hR : RXS g A M0 M0 X (now, hs, k, sl, sv, f, L)) (hI : CI (now, hs, k, sl, sv, f, L)) (x : Int32)  : Met l yX7_twice (Uw yX7_twice cX7_twice 3 (Option.some ClassFile.FieldType.int)) (rmD 5) (PreM [.ref (X), .int (x)] g A M0) (PosI (fun r M1 => r = (oTwice (now, hs, k, sl, sv, f, L) x).1 ∧ RXS g A M0 M1 X (oTwice (now, hs, k, sl, sv, f, L) x).2) g A) 0 0 A := by
  refine mk_Met (own := RX7) rfl rfl (by decide) (Nat.le_of_ble_eq_true rfl) ?_
  intro p e s m below meth c ls aa Q haa hQ hx hb hr hlk hml hown hts hK hM hS hl hnm
  obtain ⟨M, hMM⟩ : ∃ M, M = M0 := ⟨_, rfl⟩
  rw [← hMM] at hM hR
  have ht : ∀ w ∈ lw_good, w.before _ s = true := fun w h => hts w (List.mem_cons_of_mem _ h)
  have hl : lv_has ls 3 [(0, .ref (X)), (1, .int (x))] := hl
  obtain ⟨π, hX⟩ := hR
  have hX : RX g A M0 M X π now hs k sl sv f L := ⟨hX.1, by rw [hMM]; exact FrX.rf⟩
  obtain ⟨⟨n, hn20, hn⟩, hk6, hhs, hsl, hL, hch⟩ := id hI
  have hN : onN now = n := onN_eq hn hn20
  rcases ru_cases (v := now) hn hn20 x with e1 | ⟨j, hjn, ex, e1⟩
  · refine lv_aload_n hx hb dX7_twice_0 rfl (lv_at hl 0 rfl) ?_
    refine m_get (ci := 7) (C := RX7) (T := TX7) (N := 7) hx hb ht ui_X7 hown hK hM hX.AX hX.obj rfl 0 (by decide) (ht _ uw_275) rfl dX7_twice_1 ?_
    refine lv_iload_n hx hb dX7_twice_4 rfl (lv_at hl 1 rfl) ?_
    refine m_callRQ (val := none) (w := .null) (rfl) (As := [.int (x)]) (rest := []) ⟨hx, hb, hml, hown, ht⟩ (k_X6_runnerAt l g A M (X + 1) π now (x) none hX.nowV e1) (cwV 1 ht (gU uw_418 uw_369 uw_370 uw_35 uw_371) rfl rfl rfl (by decide +kernel) ⟨by decide, by decide⟩) hK hM hS (m_recv hK hM hX.nowV.AW hX.nowV.W rfl) rfl hl.1 rfl (Nat.le_of_ble_eq_true rfl) dX7_twice_5 ⟨by decide, by decide⟩ (fun H locs hM hS => ?_)
    refine lv_astore_nN (lv' := [(2, .null), (0, .ref (X)), (1, .int (x))]) hx hb dX7_twice_8 rfl hl (by decide) rfl (fun ls hl => ?_)
    refine lv_aload_nN hx hb dX7_twice_9 rfl (lv_at hl 0 rfl) ?_
    refine lv_ifnonnullN hx hb dX7_twice_10 ?_
    refine lv_ldc (v := (-1000001)) hx hb hown (ht _ uw_346) dX7_twice_13 ?_
    subst hQ
    exact m_zret hx hb hr (rfl) hlk hK hM hS dX7_twice_15 (by unfold oTwice; rw [show ruN (now, hs, k, sl, sv, f, L) x = none from e1]; exact ⟨rfl, π, hX⟩)
  · have hj : j < 20 := by omega
    refine lv_aload_n hx hb dX7_twice_0 rfl (lv_at hl 0 rfl) ?_
    refine m_get (ci := 7) (C := RX7) (T := TX7) (N := 7) hx hb ht ui_X7 hown hK hM hX.AX hX.obj rfl 0 (by decide) (ht _ uw_275) rfl dX7_twice_1 ?_
    refine lv_iload_n hx hb dX7_twice_4 rfl (lv_at hl 1 rfl) ?_
    refine m_callRQ (val := some (X + 1 + 15 + π j)) (w := .ref (X + 1 + 15 + π j)) (rfl) (As := [.int (x)]) (rest := []) ⟨hx, hb, hml, hown, ht⟩ (k_X6_runnerAt l g A M (X + 1) π now (x) (some j) hX.nowV e1) (cwV 1 ht (gU uw_418 uw_369 uw_370 uw_35 uw_371) rfl rfl rfl (by decide +kernel) ⟨by decide, by decide⟩) hK hM hS (m_recv hK hM hX.nowV.AW hX.nowV.W rfl) rfl hl.1 rfl (Nat.le_of_ble_eq_true rfl) dX7_twice_5 ⟨by decide, by decide⟩ (fun H locs hM hS => ?_)
    refine lv_astore_n (lv' := [(2, .ref (X + 1 + 15 + π j)), (0, .ref (X)), (1, .int (x))]) hx hb dX7_twice_8 rfl hl (by decide) rfl (fun ls hl => ?_)
    refine lv_aload_n hx hb dX7_twice_9 rfl (lv_at hl 0 rfl) ?_
    refine lv_ifnonnull (tgt := 16) hx hb dX7_twice_10 (by decide) ?_
    refine lv_aload_n hx hb dX7_twice_16 rfl (lv_at hl 1 rfl) ?_
    refine m_get (ci := 7) (C := RX7) (T := TX7) (N := 7) hx hb ht ui_X7 hown hK hM hX.AX hX.obj rfl 0 (by decide) (ht _ uw_275) rfl dX7_twice_17 ?_
    refine m_callRI (val := if nI 20 ≤ now.1 3 then 1 else 0) (As := []) (rest := []) ⟨hx, hb, hml, hown, ht⟩ (k_X6_isFull l g A M (X + 1) π now hX.nowV) (cwV 0 ht (gU uw_400 uw_401 uw_402 uw_35 uw_403) rfl rfl rfl (by decide +kernel) ⟨by decide, by decide⟩) hK hM hS (m_recv hK hM hX.nowV.AW hX.nowV.W rfl) rfl hl.1 rfl (Nat.le_of_ble_eq_true rfl) dX7_twice_20 ⟨by decide, by decide⟩ (fun H locs hM hS => ?_)
    refine lv_if_eq (tgt := 29) hx hb dX7_twice_23 (by decide) (fun c_23 => ?_) (fun c_23 => ?_)
    · refine lv_aload_n hx hb dX7_twice_29 rfl (lv_at hl 1 rfl) ?_
      refine m_get (ci := 7) (C := RX7) (T := TX7) (N := 7) hx hb ht ui_X7 hown hK hM hX.AX hX.obj rfl 2 (by decide) (ht _ uw_277) rfl dX7_twice_30 ?_
      refine lv_aload_n hx hb dX7_twice_33 rfl (lv_at hl 1 rfl) ?_
      refine m_get (ci := 7) (C := RX7) (T := TX7) (N := 7) hx hb ht ui_X7 hown hK hM hX.AX hX.obj rfl 0 (by decide) (ht _ uw_275) rfl dX7_twice_34 ?_
      obtain ⟨ρ8, πs8, hH8⟩ := hX.his
      refine m_callV (As := [.ref (X + 1)]) (rest := []) ⟨hx, hb, hml, hown, ht⟩ (k_X1_record l g A M (X + 71) ρ8 πs8 hs (nI k) hH8 (X + 1) π now n hX.nowV (by omega) k rfl hk6 hn hn20) (cwV 1 ht (gU uw_304 uw_305 uw_306 uw_39 uw_307) rfl rfl rfl (by decide +kernel) ⟨by decide, by decide⟩) hK hM hS (m_recv hK hM hH8.1 hH8.2.2.2.1 rfl) rfl hl.1 rfl (Nat.le_of_ble_eq_true rfl) dX7_twice_37 ⟨by decide, by decide⟩ (fun M H locs hp hM hS => ?_)
      obtain ⟨⟨ρ7, πs7, hH7⟩, hF7⟩ := hp
      have hX := hX.setH hH7 hF7
      refine lv_aload_n hx hb dX7_twice_40 rfl (lv_at hl 1 rfl) ?_
      refine m_get (ci := 7) (C := RX7) (T := TX7) (N := 7) hx hb ht ui_X7 hown hK hM hX.AX hX.obj rfl 0 (by decide) (ht _ uw_275) rfl dX7_twice_41 ?_
      refine lv_aload_n hx hb dX7_twice_44 rfl (lv_at hl 0 rfl) ?_
      have hlt : n < 20 := by
        have z := ite10.mp c_23
        rw [hn] at z
        exact nI_lt_of (by omega) (by decide) z
      refine m_callV (As := [.ref (X + 1 + 15 + π j)]) (rest := []) ⟨hx, hb, hml, hown, ht⟩ (k_X6_addSecondOf l g A M (X + 1) π now j hX.nowV n hn hlt hj) (cwV 1 ht (gU uw_425 uw_426 uw_427 uw_35 uw_428) rfl rfl rfl (by decide +kernel) ⟨by decide, by decide⟩) hK hM hS (m_recv hK hM hX.nowV.AW hX.nowV.W rfl) rfl hl.1 rfl (Nat.le_of_ble_eq_true rfl) dX7_twice_45 ⟨by decide, by decide⟩ (fun M H locs hp hM hS => ?_)
      obtain ⟨hV9, hF9⟩ := hp
      have hX := hX.setN hV9 hF9
      refine lv_aload_n hx hb dX7_twice_48 rfl (lv_at hl 1 rfl) ?_
      refine m_get (ci := 7) (C := RX7) (T := TX7) (N := 7) hx hb ht ui_X7 hown hK hM hX.AX hX.obj rfl 0 (by decide) (ht _ uw_275) rfl dX7_twice_49 ?_
      refine rv_getW hx hb ht ui_X6 hown hK hM hX.nowV 3 (by decide) (ht _ uw_195) dX7_twice_52 ?_
      subst hQ
      exact m_zret hx hb hr (rfl) hlk hK hM hS dX7_twice_55 (by unfold oTwice; rw [show ruN (now, hs, k, sl, sv, f, L) x = some j from e1]; dsimp only; rw [if_neg (ite10.mp c_23)]; rw [← hN] at hX; exact ⟨by rw [← hN], π, hX⟩)
    · refine lv_ldc (v := (-1000004)) hx hb hown (ht _ uw_355) dX7_twice_26 ?_
      subst hQ
      exact m_zret hx hb hr (rfl) hlk hK hM hS dX7_twice_28 (by unfold oTwice; rw [show ruN (now, hs, k, sl, sv, f, L) x = some j from e1]; dsimp only; rw [if_pos (Classical.not_not.mp (fun z => c_23 (ite10.mpr z)))]; exact ⟨rfl, π, hX⟩)

set_option maxHeartbeats 4000000 in
set_option maxRecDepth 100000 in
/-- gaugeOf -/
theorem k_X7_gaugeOf (l : Launch) (g : GG) (A : Nat → Prop) (M0 : MM) (X : Nat) (now : VV) (hs : Nat → VV) (k : Nat) (sl : Nat → VV) (sv f : Nat → Int32) (L : Nat) (hR : RXS g A M0 M0 X (now, hs, k, sl, sv, f, L)) (hI : CI (now, hs, k, sl, sv, f, L)) (x y : Int32)  : Met l yX7_gaugeOf (Uw yX7_gaugeOf cX7_gaugeOf 4 (Option.some ClassFile.FieldType.int)) (rmD 2) (PreM [.ref (X), .int (x), .int (y)] g A M0) (PosI (fun r M1 => r = oGaugeOf (now, hs, k, sl, sv, f, L) x y ∧ M1 = M0) g A) 0 0 A := by
  refine mk_Met (own := RX7) rfl rfl (by decide) (Nat.le_of_ble_eq_true rfl) ?_
  intro p e s m below meth c ls aa Q haa hQ hx hb hr hlk hml hown hts hK hM hS hl hnm
  obtain ⟨M, hMM⟩ : ∃ M, M = M0 := ⟨_, rfl⟩
  rw [← hMM] at hM hR
  have ht : ∀ w ∈ lw_good, w.before _ s = true := fun w h => hts w (List.mem_cons_of_mem _ h)
  have hl : lv_has ls 4 [(0, .ref (X)), (1, .int (x)), (2, .int (y))] := hl
  obtain ⟨π, hX⟩ := hR
  have hX : RX g A M0 M X π now hs k sl sv f L := ⟨hX.1, by rw [hMM]; exact FrX.rf⟩
  obtain ⟨⟨n, hn20, hn⟩, hk6, hhs, hsl, hL, hch⟩ := id hI
  have hN : onN now = n := onN_eq hn hn20
  rcases gxn_cases (n := 6) (by decide) x with ⟨e1, h1⟩ | ⟨i, hi, ex, e1⟩
  · refine lv_aload_n hx hb dX7_gaugeOf_0 rfl (lv_at hl 0 rfl) ?_
    refine m_get (ci := 7) (C := RX7) (T := TX7) (N := 7) hx hb ht ui_X7 hown hK hM hX.AX hX.obj rfl 0 (by decide) (ht _ uw_275) rfl dX7_gaugeOf_1 ?_
    refine lv_iload_n hx hb dX7_gaugeOf_4 rfl (lv_at hl 1 rfl) ?_
    refine m_callRQ (val := none) (w := .null) (rfl) (As := [.int (x)]) (rest := []) ⟨hx, hb, hml, hown, ht⟩ (k_X6_gaugeAt l g A M (X + 1) π now (x) none hX.nowV e1) (cwV 1 ht (gU uw_345 uw_337 uw_338 uw_35 uw_339) rfl rfl rfl (by decide +kernel) ⟨by decide, by decide⟩) hK hM hS (m_recv hK hM hX.nowV.AW hX.nowV.W rfl) rfl hl.1 rfl (Nat.le_of_ble_eq_true rfl) dX7_gaugeOf_5 ⟨by decide, by decide⟩ (fun H locs hM hS => ?_)
    refine lv_astore_nN (lv' := [(3, .null), (0, .ref (X)), (1, .int (x)), (2, .int (y))]) hx hb dX7_gaugeOf_8 rfl hl (by decide) rfl (fun ls hl => ?_)
    refine lv_aload_nN hx hb dX7_gaugeOf_9 rfl (lv_at hl 0 rfl) ?_
    refine lv_ifnonnullN hx hb dX7_gaugeOf_10 ?_
    refine lv_ldc (v := (-1000001)) hx hb hown (ht _ uw_346) dX7_gaugeOf_13 ?_
    refine lv_goto (tgt := 27) hx hb dX7_gaugeOf_15 (by decide) ?_
    subst hQ
    exact m_zret hx hb hr (rfl) hlk hK hM hS dX7_gaugeOf_27 (⟨by unfold oGaugeOf; rw [e1], hMM⟩)
  · refine lv_aload_n hx hb dX7_gaugeOf_0 rfl (lv_at hl 0 rfl) ?_
    refine m_get (ci := 7) (C := RX7) (T := TX7) (N := 7) hx hb ht ui_X7 hown hK hM hX.AX hX.obj rfl 0 (by decide) (ht _ uw_275) rfl dX7_gaugeOf_1 ?_
    refine lv_iload_n hx hb dX7_gaugeOf_4 rfl (lv_at hl 1 rfl) ?_
    refine m_callRQ (val := some (X + 1 + 3 + 2 * i)) (w := .ref (X + 1 + 3 + 2 * i)) (rfl) (As := [.int (x)]) (rest := []) ⟨hx, hb, hml, hown, ht⟩ (k_X6_gaugeAt l g A M (X + 1) π now (x) (some i) hX.nowV e1) (cwV 1 ht (gU uw_345 uw_337 uw_338 uw_35 uw_339) rfl rfl rfl (by decide +kernel) ⟨by decide, by decide⟩) hK hM hS (m_recv hK hM hX.nowV.AW hX.nowV.W rfl) rfl hl.1 rfl (Nat.le_of_ble_eq_true rfl) dX7_gaugeOf_5 ⟨by decide, by decide⟩ (fun H locs hM hS => ?_)
    refine lv_astore_n (lv' := [(3, .ref (X + 1 + 3 + 2 * i)), (0, .ref (X)), (1, .int (x)), (2, .int (y))]) hx hb dX7_gaugeOf_8 rfl hl (by decide) rfl (fun ls hl => ?_)
    refine lv_aload_n hx hb dX7_gaugeOf_9 rfl (lv_at hl 0 rfl) ?_
    refine lv_ifnonnull (tgt := 18) hx hb dX7_gaugeOf_10 (by decide) ?_
    refine lv_aload_n hx hb dX7_gaugeOf_18 rfl (lv_at hl 1 rfl) ?_
    refine m_get (ci := 7) (C := RX7) (T := TX7) (N := 7) hx hb ht ui_X7 hown hK hM hX.AX hX.obj rfl 0 (by decide) (ht _ uw_275) rfl dX7_gaugeOf_19 ?_
    refine lv_aload_n hx hb dX7_gaugeOf_22 rfl (lv_at hl 0 rfl) ?_
    refine lv_iload_n hx hb dX7_gaugeOf_23 rfl (lv_at hl 3 rfl) ?_
    refine m_callRI (val := facC now i y) (As := [.ref (X + 1 + 3 + 2 * i), .int (y)]) (rest := []) ⟨hx, hb, hml, hown, ht⟩ (k_X6_factOf l g A M (X + 1) π now i y hX.nowV hi) (cwV 2 ht (gU uw_484 uw_485 uw_486 uw_35 uw_487) rfl rfl rfl (by decide +kernel) ⟨by decide, by decide⟩) hK hM hS (m_recv hK hM hX.nowV.AW hX.nowV.W rfl) rfl hl.1 rfl (Nat.le_of_ble_eq_true rfl) dX7_gaugeOf_24 ⟨by decide, by decide⟩ (fun H locs hM hS => ?_)
    subst hQ
    exact m_zret hx hb hr (rfl) hlk hK hM hS dX7_gaugeOf_27 (⟨by unfold oGaugeOf; rw [e1], hMM⟩)

set_option maxHeartbeats 4000000 in
set_option maxRecDepth 100000 in
/-- ledger -/
theorem k_X7_ledger (l : Launch) (g : GG) (A : Nat → Prop) (M0 : MM) (X : Nat) (now : VV) (hs : Nat → VV) (k : Nat) (sl : Nat → VV) (sv f : Nat → Int32) (L : Nat) (hR : RXS g A M0 M0 X (now, hs, k, sl, sv, f, L)) (hI : CI (now, hs, k, sl, sv, f, L)) (x y : Int32)  : Met l yX7_ledger (Uw yX7_ledger cX7_ledger 5 (Option.some ClassFile.FieldType.int)) (rmD 1) (PreM [.ref (X), .int (x), .int (y)] g A M0) (PosI (fun r M1 => r = oLedger (now, hs, k, sl, sv, f, L) x y ∧ M1 = M0) g A) 0 0 A := by
  refine mk_Met (own := RX7) rfl rfl (by decide) (Nat.le_of_ble_eq_true rfl) ?_
  intro p e s m below meth c ls aa Q haa hQ hx hb hr hlk hml hown hts hK hM hS hl hnm
  obtain ⟨M, hMM⟩ : ∃ M, M = M0 := ⟨_, rfl⟩
  rw [← hMM] at hM hR
  have ht : ∀ w ∈ lw_good, w.before _ s = true := fun w h => hts w (List.mem_cons_of_mem _ h)
  have hl : lv_has ls 5 [(0, .ref (X)), (1, .int (x)), (2, .int (y))] := hl
  obtain ⟨π, hX⟩ := hR
  have hX : RX g A M0 M X π now hs k sl sv f L := ⟨hX.1, by rw [hMM]; exact FrX.rf⟩
  obtain ⟨⟨n, hn20, hn⟩, hk6, hhs, hsl, hL, hch⟩ := id hI
  have hN : onN now = n := onN_eq hn hn20
  rcases gxn_cases (n := 6) (by decide) x with ⟨e1, h1⟩ | ⟨i, hi, ex, e1⟩
  · refine lv_aload_n hx hb dX7_ledger_0 rfl (lv_at hl 0 rfl) ?_
    refine m_get (ci := 7) (C := RX7) (T := TX7) (N := 7) hx hb ht ui_X7 hown hK hM hX.AX hX.obj rfl 0 (by decide) (ht _ uw_275) rfl dX7_ledger_1 ?_
    refine lv_iload_n hx hb dX7_ledger_4 rfl (lv_at hl 1 rfl) ?_
    refine m_callRQ (val := none) (w := .null) (rfl) (As := [.int (x)]) (rest := []) ⟨hx, hb, hml, hown, ht⟩ (k_X6_gaugeAt l g A M (X + 1) π now (x) none hX.nowV e1) (cwV 1 ht (gU uw_345 uw_337 uw_338 uw_35 uw_339) rfl rfl rfl (by decide +kernel) ⟨by decide, by decide⟩) hK hM hS (m_recv hK hM hX.nowV.AW hX.nowV.W rfl) rfl hl.1 rfl (Nat.le_of_ble_eq_true rfl) dX7_ledger_5 ⟨by decide, by decide⟩ (fun H locs hM hS => ?_)
    refine lv_astore_nN (lv' := [(3, .null), (0, .ref (X)), (1, .int (x)), (2, .int (y))]) hx hb dX7_ledger_8 rfl hl (by decide) rfl (fun ls hl => ?_)
    refine lv_aload_nN hx hb dX7_ledger_9 rfl (lv_at hl 0 rfl) ?_
    refine lv_ifnonnullN hx hb dX7_ledger_10 ?_
    refine lv_ldc (v := (-1000001)) hx hb hown (ht _ uw_346) dX7_ledger_13 ?_
    subst hQ
    exact m_zret hx hb hr (rfl) hlk hK hM hS dX7_ledger_15 (⟨by unfold oLedger; rw [e1], hMM⟩)
  · refine lv_aload_n hx hb dX7_ledger_0 rfl (lv_at hl 0 rfl) ?_
    refine m_get (ci := 7) (C := RX7) (T := TX7) (N := 7) hx hb ht ui_X7 hown hK hM hX.AX hX.obj rfl 0 (by decide) (ht _ uw_275) rfl dX7_ledger_1 ?_
    refine lv_iload_n hx hb dX7_ledger_4 rfl (lv_at hl 1 rfl) ?_
    refine m_callRQ (val := some (X + 1 + 3 + 2 * i)) (w := .ref (X + 1 + 3 + 2 * i)) (rfl) (As := [.int (x)]) (rest := []) ⟨hx, hb, hml, hown, ht⟩ (k_X6_gaugeAt l g A M (X + 1) π now (x) (some i) hX.nowV e1) (cwV 1 ht (gU uw_345 uw_337 uw_338 uw_35 uw_339) rfl rfl rfl (by decide +kernel) ⟨by decide, by decide⟩) hK hM hS (m_recv hK hM hX.nowV.AW hX.nowV.W rfl) rfl hl.1 rfl (Nat.le_of_ble_eq_true rfl) dX7_ledger_5 ⟨by decide, by decide⟩ (fun H locs hM hS => ?_)
    refine lv_astore_n (lv' := [(3, .ref (X + 1 + 3 + 2 * i)), (0, .ref (X)), (1, .int (x)), (2, .int (y))]) hx hb dX7_ledger_8 rfl hl (by decide) rfl (fun ls hl => ?_)
    refine lv_aload_n hx hb dX7_ledger_9 rfl (lv_at hl 0 rfl) ?_
    refine lv_ifnonnull (tgt := 16) hx hb dX7_ledger_10 (by decide) ?_
    refine lv_aload_n hx hb dX7_ledger_16 rfl (lv_at hl 0 rfl) ?_
    refine rv_getpg hx hb ht ui_X0 hown hK hM hX.nowV hi (ht _ uw_137) dX7_ledger_17 ?_
    refine lv_astore (lv' := [(4, .ref (X + 1 + 4 + 2 * i)), (3, .ref (X + 1 + 3 + 2 * i)), (0, .ref (X)), (1, .int (x)), (2, .int (y))]) hx hb dX7_ledger_20 hl (by decide) rfl (fun ls hl => ?_)
    refine lv_iload_n hx hb dX7_ledger_22 rfl (lv_at hl 4 rfl) ?_
    by_cases s_23 : (y).toInt < 0 ∨ 7 < (y).toInt
    · refine lv_tableOut (tgt := 122) hx hb dX7_ledger_23 s_23 (by decide) ?_
      refine lv_ldc (v := (-1000002)) hx hb hown (ht _ uw_340) dX7_ledger_122 ?_
      subst hQ
      exact m_zret hx hb hr (rfl) hlk hK hM hS dX7_ledger_124 (⟨by unfold oLedger; rw [e1]; exact (ledV_out s_23).symm, hMM⟩)
    by_cases s_23_0 : (y) = 0
    · refine lv_tableIn (tgt := 68) (off := 45) hx hb dX7_ledger_23 (by rw [s_23_0]; decide) (by rw [s_23_0]; decide) (by rw [s_23_0]; rfl) (by decide) ?_
      refine lv_aload hx hb dX7_ledger_68 (lv_at hl 0 rfl) ?_
      refine rv_getP hx hb ht ui_X4 hown hK hM hX.nowV hi 0 (by decide) (ht _ uw_75) dX7_ledger_70 ?_
      subst hQ
      exact m_zret hx hb hr (rfl) hlk hK hM hS dX7_ledger_73 (⟨by unfold oLedger; rw [e1, s_23_0]; rfl, hMM⟩)
    by_cases s_23_1 : (y) = 1
    · refine lv_tableIn (tgt := 74) (off := 51) hx hb dX7_ledger_23 (by rw [s_23_1]; decide) (by rw [s_23_1]; decide) (by rw [s_23_1]; rfl) (by decide) ?_
      refine lv_aload hx hb dX7_ledger_74 (lv_at hl 0 rfl) ?_
      refine rv_getP hx hb ht ui_X4 hown hK hM hX.nowV hi 1 (by decide) (ht _ uw_78) dX7_ledger_76 ?_
      subst hQ
      exact m_zret hx hb hr (rfl) hlk hK hM hS dX7_ledger_79 (⟨by unfold oLedger; rw [e1, s_23_1]; rfl, hMM⟩)
    by_cases s_23_2 : (y) = 2
    · refine lv_tableIn (tgt := 80) (off := 57) hx hb dX7_ledger_23 (by rw [s_23_2]; decide) (by rw [s_23_2]; decide) (by rw [s_23_2]; rfl) (by decide) ?_
      refine lv_aload_n hx hb dX7_ledger_80 rfl (lv_at hl 2 rfl) ?_
      refine m_get (ci := 7) (C := RX7) (T := TX7) (N := 7) hx hb ht ui_X7 hown hK hM hX.AX hX.obj rfl 0 (by decide) (ht _ uw_275) rfl dX7_ledger_81 ?_
      refine lv_aload hx hb dX7_ledger_84 (lv_at hl 0 rfl) ?_
      refine rv_getP hx hb ht ui_X4 hown hK hM hX.nowV hi 2 (by decide) (ht _ uw_82) dX7_ledger_86 ?_
      refine m_callRI (val := whC now (now.2.1 i 10)) (As := [.int (now.2.1 i 10)]) (rest := []) ⟨hx, hb, hml, hown, ht⟩ (k_X6_wheelAt l g A M (X + 1) π now (now.2.1 i 10) hX.nowV) (cwV 1 ht (gU uw_493 uw_377 uw_378 uw_35 uw_379) rfl rfl rfl (by decide +kernel) ⟨by decide, by decide⟩) hK hM hS (m_recv hK hM hX.nowV.AW hX.nowV.W rfl) rfl hl.1 rfl (Nat.le_of_ble_eq_true rfl) dX7_ledger_89 ⟨by decide, by decide⟩ (fun H locs hM hS => ?_)
      subst hQ
      exact m_zret hx hb hr (rfl) hlk hK hM hS dX7_ledger_92 (⟨by unfold oLedger; rw [e1, s_23_2]; rfl, hMM⟩)
    by_cases s_23_3 : (y) = 3
    · refine lv_tableIn (tgt := 93) (off := 70) hx hb dX7_ledger_23 (by rw [s_23_3]; decide) (by rw [s_23_3]; decide) (by rw [s_23_3]; rfl) (by decide) ?_
      refine lv_aload_n hx hb dX7_ledger_93 rfl (lv_at hl 1 rfl) ?_
      refine m_callRI (val := now.2.1 i 5 - now.2.1 i 8) (As := []) (rest := []) ⟨hx, hb, hml, hown, ht⟩ (k_X0_gap l g A M (X + 1) π now i hX.nowV hi) (cwV 0 ht (gU uw_494 uw_495 uw_496 uw_36 uw_497) rfl rfl rfl (by decide +kernel) ⟨by decide, by decide⟩) hK hM hS (m_recv hK hM (hX.nowV.AG hi) (hX.nowV.G hi) rfl) rfl hl.1 rfl (Nat.le_of_ble_eq_true rfl) dX7_ledger_94 ⟨by decide, by decide⟩ (fun H locs hM hS => ?_)
      subst hQ
      exact m_zret hx hb hr (rfl) hlk hK hM hS dX7_ledger_97 (⟨by unfold oLedger; rw [e1, s_23_3]; rfl, hMM⟩)
    by_cases s_23_4 : (y) = 4
    · refine lv_tableIn (tgt := 98) (off := 75) hx hb dX7_ledger_23 (by rw [s_23_4]; decide) (by rw [s_23_4]; decide) (by rw [s_23_4]; rfl) (by decide) ?_
      refine lv_aload hx hb dX7_ledger_98 (lv_at hl 0 rfl) ?_
      refine rv_getP hx hb ht ui_X4 hown hK hM hX.nowV hi 4 (by decide) (ht _ uw_87) dX7_ledger_100 ?_
      subst hQ
      exact m_zret hx hb hr (rfl) hlk hK hM hS dX7_ledger_103 (⟨by unfold oLedger; rw [e1, s_23_4]; rfl, hMM⟩)
    by_cases s_23_5 : (y) = 5
    · refine lv_tableIn (tgt := 104) (off := 81) hx hb dX7_ledger_23 (by rw [s_23_5]; decide) (by rw [s_23_5]; decide) (by rw [s_23_5]; rfl) (by decide) ?_
      refine lv_aload hx hb dX7_ledger_104 (lv_at hl 0 rfl) ?_
      refine rv_getP hx hb ht ui_X4 hown hK hM hX.nowV hi 5 (by decide) (ht _ uw_90) dX7_ledger_106 ?_
      subst hQ
      exact m_zret hx hb hr (rfl) hlk hK hM hS dX7_ledger_109 (⟨by unfold oLedger; rw [e1, s_23_5]; rfl, hMM⟩)
    by_cases s_23_6 : (y) = 6
    · refine lv_tableIn (tgt := 110) (off := 87) hx hb dX7_ledger_23 (by rw [s_23_6]; decide) (by rw [s_23_6]; decide) (by rw [s_23_6]; rfl) (by decide) ?_
      refine lv_aload hx hb dX7_ledger_110 (lv_at hl 0 rfl) ?_
      refine rv_getP hx hb ht ui_X4 hown hK hM hX.nowV hi 6 (by decide) (ht _ uw_93) dX7_ledger_112 ?_
      subst hQ
      exact m_zret hx hb hr (rfl) hlk hK hM hS dX7_ledger_115 (⟨by unfold oLedger; rw [e1, s_23_6]; rfl, hMM⟩)
    by_cases s_23_7 : (y) = 7
    · refine lv_tableIn (tgt := 116) (off := 93) hx hb dX7_ledger_23 (by rw [s_23_7]; decide) (by rw [s_23_7]; decide) (by rw [s_23_7]; rfl) (by decide) ?_
      refine lv_aload hx hb dX7_ledger_116 (lv_at hl 0 rfl) ?_
      refine rv_getP hx hb ht ui_X4 hown hK hM hX.nowV hi 7 (by decide) (ht _ uw_96) dX7_ledger_118 ?_
      subst hQ
      exact m_zret hx hb hr (rfl) hlk hK hM hS dX7_ledger_121 (⟨by unfold oLedger; rw [e1, s_23_7]; rfl, hMM⟩)
    exfalso
    have n_0 := lv_neT (a := 0) s_23_0 (by decide)
    have n_1 := lv_neT (a := 1) s_23_1 (by decide)
    have n_2 := lv_neT (a := 2) s_23_2 (by decide)
    have n_3 := lv_neT (a := 3) s_23_3 (by decide)
    have n_4 := lv_neT (a := 4) s_23_4 (by decide)
    have n_5 := lv_neT (a := 5) s_23_5 (by decide)
    have n_6 := lv_neT (a := 6) s_23_6 (by decide)
    have n_7 := lv_neT (a := 7) s_23_7 (by decide)
    omega

set_option maxHeartbeats 4000000 in
set_option maxRecDepth 100000 in
/-- runner -/
theorem k_X7_runner (l : Launch) (g : GG) (A : Nat → Prop) (M0 : MM) (X : Nat) (now : VV) (hs : Nat → VV) (k : Nat) (sl : Nat → VV) (sv f : Nat → Int32) (L : Nat) (hR : RXS g A M0 M0 X (now, hs, k, sl, sv, f, L)) (hI : CI (now, hs, k, sl, sv, f, L)) (x y : Int32)  : Met l yX7_runner (Uw yX7_runner cX7_runner 4 (Option.some ClassFile.FieldType.int)) (rmD 1) (PreM [.ref (X), .int (x), .int (y)] g A M0) (PosI (fun r M1 => r = oRunner (now, hs, k, sl, sv, f, L) x y ∧ M1 = M0) g A) 0 0 A := by
  refine mk_Met (own := RX7) rfl rfl (by decide) (Nat.le_of_ble_eq_true rfl) ?_
  intro p e s m below meth c ls aa Q haa hQ hx hb hr hlk hml hown hts hK hM hS hl hnm
  obtain ⟨M, hMM⟩ : ∃ M, M = M0 := ⟨_, rfl⟩
  rw [← hMM] at hM hR
  have ht : ∀ w ∈ lw_good, w.before _ s = true := fun w h => hts w (List.mem_cons_of_mem _ h)
  have hl : lv_has ls 4 [(0, .ref (X)), (1, .int (x)), (2, .int (y))] := hl
  obtain ⟨π, hX⟩ := hR
  have hX : RX g A M0 M X π now hs k sl sv f L := ⟨hX.1, by rw [hMM]; exact FrX.rf⟩
  obtain ⟨⟨n, hn20, hn⟩, hk6, hhs, hsl, hL, hch⟩ := id hI
  have hN : onN now = n := onN_eq hn hn20
  rcases ru_cases (v := now) hn hn20 x with e1 | ⟨j, hjn, ex, e1⟩
  · refine lv_aload_n hx hb dX7_runner_0 rfl (lv_at hl 0 rfl) ?_
    refine m_get (ci := 7) (C := RX7) (T := TX7) (N := 7) hx hb ht ui_X7 hown hK hM hX.AX hX.obj rfl 0 (by decide) (ht _ uw_275) rfl dX7_runner_1 ?_
    refine lv_iload_n hx hb dX7_runner_4 rfl (lv_at hl 1 rfl) ?_
    refine m_callRQ (val := none) (w := .null) (rfl) (As := [.int (x)]) (rest := []) ⟨hx, hb, hml, hown, ht⟩ (k_X6_runnerAt l g A M (X + 1) π now (x) none hX.nowV e1) (cwV 1 ht (gU uw_418 uw_369 uw_370 uw_35 uw_371) rfl rfl rfl (by decide +kernel) ⟨by decide, by decide⟩) hK hM hS (m_recv hK hM hX.nowV.AW hX.nowV.W rfl) rfl hl.1 rfl (Nat.le_of_ble_eq_true rfl) dX7_runner_5 ⟨by decide, by decide⟩ (fun H locs hM hS => ?_)
    refine lv_astore_nN (lv' := [(3, .null), (0, .ref (X)), (1, .int (x)), (2, .int (y))]) hx hb dX7_runner_8 rfl hl (by decide) rfl (fun ls hl => ?_)
    refine lv_aload_nN hx hb dX7_runner_9 rfl (lv_at hl 0 rfl) ?_
    refine lv_ifnonnullN hx hb dX7_runner_10 ?_
    refine lv_ldc (v := (-1000001)) hx hb hown (ht _ uw_346) dX7_runner_13 ?_
    subst hQ
    exact m_zret hx hb hr (rfl) hlk hK hM hS dX7_runner_15 (⟨by unfold oRunner; rw [show ruN (now, hs, k, sl, sv, f, L) x = none from e1], hMM⟩)
  · have hj : j < 20 := by omega
    refine lv_aload_n hx hb dX7_runner_0 rfl (lv_at hl 0 rfl) ?_
    refine m_get (ci := 7) (C := RX7) (T := TX7) (N := 7) hx hb ht ui_X7 hown hK hM hX.AX hX.obj rfl 0 (by decide) (ht _ uw_275) rfl dX7_runner_1 ?_
    refine lv_iload_n hx hb dX7_runner_4 rfl (lv_at hl 1 rfl) ?_
    refine m_callRQ (val := some (X + 1 + 15 + π j)) (w := .ref (X + 1 + 15 + π j)) (rfl) (As := [.int (x)]) (rest := []) ⟨hx, hb, hml, hown, ht⟩ (k_X6_runnerAt l g A M (X + 1) π now (x) (some j) hX.nowV e1) (cwV 1 ht (gU uw_418 uw_369 uw_370 uw_35 uw_371) rfl rfl rfl (by decide +kernel) ⟨by decide, by decide⟩) hK hM hS (m_recv hK hM hX.nowV.AW hX.nowV.W rfl) rfl hl.1 rfl (Nat.le_of_ble_eq_true rfl) dX7_runner_5 ⟨by decide, by decide⟩ (fun H locs hM hS => ?_)
    refine lv_astore_n (lv' := [(3, .ref (X + 1 + 15 + π j)), (0, .ref (X)), (1, .int (x)), (2, .int (y))]) hx hb dX7_runner_8 rfl hl (by decide) rfl (fun ls hl => ?_)
    refine lv_aload_n hx hb dX7_runner_9 rfl (lv_at hl 0 rfl) ?_
    refine lv_ifnonnull (tgt := 16) hx hb dX7_runner_10 (by decide) ?_
    refine lv_iload_n hx hb dX7_runner_16 rfl (lv_at hl 3 rfl) ?_
    by_cases s_17 : (y).toInt < 0 ∨ 3 < (y).toInt
    · refine lv_tableOut (tgt := 75) hx hb dX7_runner_17 s_17 (by decide) ?_
      refine lv_ldc (v := (-1000002)) hx hb hown (ht _ uw_340) dX7_runner_75 ?_
      subst hQ
      exact m_zret hx hb hr (rfl) hlk hK hM hS dX7_runner_77 (⟨by unfold oRunner; rw [show ruN (now, hs, k, sl, sv, f, L) x = some j from e1]; exact (runV_out s_17).symm, hMM⟩)
    by_cases s_17_0 : (y) = 0
    · refine lv_tableIn (tgt := 48) (off := 31) hx hb dX7_runner_17 (by rw [s_17_0]; decide) (by rw [s_17_0]; decide) (by rw [s_17_0]; rfl) (by decide) ?_
      refine lv_aload_n hx hb dX7_runner_48 rfl (lv_at hl 0 rfl) ?_
      refine rv_getR hx hb ht ui_X5 hown hK hM hX.nowV hj 0 (by decide) (ht _ uw_164) dX7_runner_49 ?_
      subst hQ
      exact m_zret hx hb hr (rfl) hlk hK hM hS dX7_runner_52 (⟨by unfold oRunner; rw [show ruN (now, hs, k, sl, sv, f, L) x = some j from e1, s_17_0]; rfl, hMM⟩)
    by_cases s_17_1 : (y) = 1
    · refine lv_tableIn (tgt := 53) (off := 36) hx hb dX7_runner_17 (by rw [s_17_1]; decide) (by rw [s_17_1]; decide) (by rw [s_17_1]; rfl) (by decide) ?_
      refine lv_aload_n hx hb dX7_runner_53 rfl (lv_at hl 1 rfl) ?_
      refine m_get (ci := 7) (C := RX7) (T := TX7) (N := 7) hx hb ht ui_X7 hown hK hM hX.AX hX.obj rfl 0 (by decide) (ht _ uw_275) rfl dX7_runner_54 ?_
      refine lv_aload_n hx hb dX7_runner_57 rfl (lv_at hl 0 rfl) ?_
      refine rv_getR hx hb ht ui_X5 hown hK hM hX.nowV hj 1 (by decide) (ht _ uw_168) dX7_runner_58 ?_
      refine m_callRI (val := whC now (now.2.2 j 1)) (As := [.int (now.2.2 j 1)]) (rest := []) ⟨hx, hb, hml, hown, ht⟩ (k_X6_wheelAt l g A M (X + 1) π now (now.2.2 j 1) hX.nowV) (cwV 1 ht (gU uw_493 uw_377 uw_378 uw_35 uw_379) rfl rfl rfl (by decide +kernel) ⟨by decide, by decide⟩) hK hM hS (m_recv hK hM hX.nowV.AW hX.nowV.W rfl) rfl hl.1 rfl (Nat.le_of_ble_eq_true rfl) dX7_runner_61 ⟨by decide, by decide⟩ (fun H locs hM hS => ?_)
      subst hQ
      exact m_zret hx hb hr (rfl) hlk hK hM hS dX7_runner_64 (⟨by unfold oRunner; rw [show ruN (now, hs, k, sl, sv, f, L) x = some j from e1, s_17_1]; rfl, hMM⟩)
    by_cases s_17_2 : (y) = 2
    · refine lv_tableIn (tgt := 65) (off := 48) hx hb dX7_runner_17 (by rw [s_17_2]; decide) (by rw [s_17_2]; decide) (by rw [s_17_2]; rfl) (by decide) ?_
      refine lv_aload_n hx hb dX7_runner_65 rfl (lv_at hl 0 rfl) ?_
      refine rv_getR hx hb ht ui_X5 hown hK hM hX.nowV hj 2 (by decide) (ht _ uw_171) dX7_runner_66 ?_
      subst hQ
      exact m_zret hx hb hr (rfl) hlk hK hM hS dX7_runner_69 (⟨by unfold oRunner; rw [show ruN (now, hs, k, sl, sv, f, L) x = some j from e1, s_17_2]; rfl, hMM⟩)
    by_cases s_17_3 : (y) = 3
    · refine lv_tableIn (tgt := 70) (off := 53) hx hb dX7_runner_17 (by rw [s_17_3]; decide) (by rw [s_17_3]; decide) (by rw [s_17_3]; rfl) (by decide) ?_
      refine lv_aload_n hx hb dX7_runner_70 rfl (lv_at hl 0 rfl) ?_
      refine rv_getR hx hb ht ui_X5 hown hK hM hX.nowV hj 4 (by decide) (ht _ uw_176) dX7_runner_71 ?_
      subst hQ
      exact m_zret hx hb hr (rfl) hlk hK hM hS dX7_runner_74 (⟨by unfold oRunner; rw [show ruN (now, hs, k, sl, sv, f, L) x = some j from e1, s_17_3]; rfl, hMM⟩)
    exfalso
    have n_0 := lv_neT (a := 0) s_17_0 (by decide)
    have n_1 := lv_neT (a := 1) s_17_1 (by decide)
    have n_2 := lv_neT (a := 2) s_17_2 (by decide)
    have n_3 := lv_neT (a := 3) s_17_3 (by decide)
    omega

set_option maxHeartbeats 4000000 in
set_option maxRecDepth 100000 in
/-- count -/
theorem k_X7_count (l : Launch) (g : GG) (A : Nat → Prop) (M0 : MM) (X : Nat) (now : VV) (hs : Nat → VV) (k : Nat) (sl : Nat → VV) (sv f : Nat → Int32) (L : Nat) (hR : RXS g A M0 M0 X (now, hs, k, sl, sv, f, L)) (hI : CI (now, hs, k, sl, sv, f, L)) (x : Int32)  : Met l yX7_count (Uw yX7_count cX7_count 2 (Option.some ClassFile.FieldType.int)) (rmD 3) (PreM [.ref (X), .int (x)] g A M0) (PosI (fun r M1 => r = oCount (now, hs, k, sl, sv, f, L) x ∧ M1 = M0) g A) 0 0 A := by
  refine mk_Met (own := RX7) rfl rfl (by decide) (Nat.le_of_ble_eq_true rfl) ?_
  intro p e s m below meth c ls aa Q haa hQ hx hb hr hlk hml hown hts hK hM hS hl hnm
  obtain ⟨M, hMM⟩ : ∃ M, M = M0 := ⟨_, rfl⟩
  rw [← hMM] at hM hR
  have ht : ∀ w ∈ lw_good, w.before _ s = true := fun w h => hts w (List.mem_cons_of_mem _ h)
  have hl : lv_has ls 2 [(0, .ref (X)), (1, .int (x))] := hl
  obtain ⟨π, hX⟩ := hR
  have hX : RX g A M0 M X π now hs k sl sv f L := ⟨hX.1, by rw [hMM]; exact FrX.rf⟩
  obtain ⟨⟨n, hn20, hn⟩, hk6, hhs, hsl, hL, hch⟩ := id hI
  have hN : onN now = n := onN_eq hn hn20
  refine lv_iload_n hx hb dX7_count_0 rfl (lv_at hl 1 rfl) ?_
  by_cases s_1 : (x).toInt < 0 ∨ 10 < (x).toInt
  · refine lv_tableOut (tgt := 162) hx hb dX7_count_1 s_1 (by decide) ?_
    refine lv_ldc (v := (-1000002)) hx hb hown (ht _ uw_340) dX7_count_162 ?_
    subst hQ
    exact m_zret hx hb hr (rfl) hlk hK hM hS dX7_count_164 (⟨(oCount_out s_1).symm, hMM⟩)
  by_cases s_1_0 : (x) = 0
  · refine lv_tableIn (tgt := 60) (off := 59) hx hb dX7_count_1 (by rw [s_1_0]; decide) (by rw [s_1_0]; decide) (by rw [s_1_0]; rfl) (by decide) ?_
    refine lv_aload_n hx hb dX7_count_60 rfl (lv_at hl 0 rfl) ?_
    refine m_get (ci := 7) (C := RX7) (T := TX7) (N := 7) hx hb ht ui_X7 hown hK hM hX.AX hX.obj rfl 0 (by decide) (ht _ uw_275) rfl dX7_count_61 ?_
    refine rv_getW hx hb ht ui_X6 hown hK hM hX.nowV 0 (by decide) (ht _ uw_189) dX7_count_64 ?_
    subst hQ
    exact m_zret hx hb hr (rfl) hlk hK hM hS dX7_count_67 (⟨by rw [s_1_0]; rfl, hMM⟩)
  by_cases s_1_1 : (x) = 1
  · refine lv_tableIn (tgt := 68) (off := 67) hx hb dX7_count_1 (by rw [s_1_1]; decide) (by rw [s_1_1]; decide) (by rw [s_1_1]; rfl) (by decide) ?_
    refine lv_aload_n hx hb dX7_count_68 rfl (lv_at hl 0 rfl) ?_
    refine m_get (ci := 7) (C := RX7) (T := TX7) (N := 7) hx hb ht ui_X7 hown hK hM hX.AX hX.obj rfl 0 (by decide) (ht _ uw_275) rfl dX7_count_69 ?_
    refine rv_getW hx hb ht ui_X6 hown hK hM hX.nowV 1 (by decide) (ht _ uw_191) dX7_count_72 ?_
    subst hQ
    exact m_zret hx hb hr (rfl) hlk hK hM hS dX7_count_75 (⟨by rw [s_1_1]; rfl, hMM⟩)
  by_cases s_1_2 : (x) = 2
  · refine lv_tableIn (tgt := 76) (off := 75) hx hb dX7_count_1 (by rw [s_1_2]; decide) (by rw [s_1_2]; decide) (by rw [s_1_2]; rfl) (by decide) ?_
    refine lv_aload_n hx hb dX7_count_76 rfl (lv_at hl 0 rfl) ?_
    refine m_get (ci := 7) (C := RX7) (T := TX7) (N := 7) hx hb ht ui_X7 hown hK hM hX.AX hX.obj rfl 0 (by decide) (ht _ uw_275) rfl dX7_count_77 ?_
    refine rv_getW hx hb ht ui_X6 hown hK hM hX.nowV 2 (by decide) (ht _ uw_193) dX7_count_80 ?_
    subst hQ
    exact m_zret hx hb hr (rfl) hlk hK hM hS dX7_count_83 (⟨by rw [s_1_2]; rfl, hMM⟩)
  by_cases s_1_3 : (x) = 3
  · refine lv_tableIn (tgt := 84) (off := 83) hx hb dX7_count_1 (by rw [s_1_3]; decide) (by rw [s_1_3]; decide) (by rw [s_1_3]; rfl) (by decide) ?_
    refine lv_aload_n hx hb dX7_count_84 rfl (lv_at hl 0 rfl) ?_
    refine m_get (ci := 7) (C := RX7) (T := TX7) (N := 7) hx hb ht ui_X7 hown hK hM hX.AX hX.obj rfl 0 (by decide) (ht _ uw_275) rfl dX7_count_85 ?_
    refine rv_getW hx hb ht ui_X6 hown hK hM hX.nowV 3 (by decide) (ht _ uw_195) dX7_count_88 ?_
    subst hQ
    exact m_zret hx hb hr (rfl) hlk hK hM hS dX7_count_91 (⟨by rw [s_1_3]; rfl, hMM⟩)
  by_cases s_1_4 : (x) = 4
  · refine lv_tableIn (tgt := 92) (off := 91) hx hb dX7_count_1 (by rw [s_1_4]; decide) (by rw [s_1_4]; decide) (by rw [s_1_4]; rfl) (by decide) ?_
    refine lv_aload_n hx hb dX7_count_92 rfl (lv_at hl 0 rfl) ?_
    refine m_get (ci := 7) (C := RX7) (T := TX7) (N := 7) hx hb ht ui_X7 hown hK hM hX.AX hX.obj rfl 0 (by decide) (ht _ uw_275) rfl dX7_count_93 ?_
    refine lv_bipush (v := 7) hx hb dX7_count_96 (by first | rfl | decide) ?_
    refine m_callRI (val := sumN (fun i => facC now i (7)) 6) (As := [.int (7)]) (rest := []) ⟨hx, hb, hml, hown, ht⟩ (k_X6_sumOf l g A M (X + 1) π now (7) hX.nowV) (cwV 1 ht (gU uw_506 uw_507 uw_508 uw_35 uw_509) rfl rfl rfl (by decide +kernel) ⟨by decide, by decide⟩) hK hM hS (m_recv hK hM hX.nowV.AW hX.nowV.W rfl) rfl hl.1 rfl (Nat.le_of_ble_eq_true rfl) dX7_count_98 ⟨by decide, by decide⟩ (fun H locs hM hS => ?_)
    subst hQ
    exact m_zret hx hb hr (rfl) hlk hK hM hS dX7_count_101 (⟨by rw [s_1_4]; rfl, hMM⟩)
  by_cases s_1_5 : (x) = 5
  · refine lv_tableIn (tgt := 102) (off := 101) hx hb dX7_count_1 (by rw [s_1_5]; decide) (by rw [s_1_5]; decide) (by rw [s_1_5]; rfl) (by decide) ?_
    refine lv_aload_n hx hb dX7_count_102 rfl (lv_at hl 0 rfl) ?_
    refine m_get (ci := 7) (C := RX7) (T := TX7) (N := 7) hx hb ht ui_X7 hown hK hM hX.AX hX.obj rfl 0 (by decide) (ht _ uw_275) rfl dX7_count_103 ?_
    refine lv_bipush (v := 8) hx hb dX7_count_106 (by first | rfl | decide) ?_
    refine m_callRI (val := sumN (fun i => facC now i (8)) 6) (As := [.int (8)]) (rest := []) ⟨hx, hb, hml, hown, ht⟩ (k_X6_sumOf l g A M (X + 1) π now (8) hX.nowV) (cwV 1 ht (gU uw_506 uw_507 uw_508 uw_35 uw_509) rfl rfl rfl (by decide +kernel) ⟨by decide, by decide⟩) hK hM hS (m_recv hK hM hX.nowV.AW hX.nowV.W rfl) rfl hl.1 rfl (Nat.le_of_ble_eq_true rfl) dX7_count_108 ⟨by decide, by decide⟩ (fun H locs hM hS => ?_)
    refine lv_aload_n hx hb dX7_count_111 rfl (lv_at hl 0 rfl) ?_
    refine m_get (ci := 7) (C := RX7) (T := TX7) (N := 7) hx hb ht ui_X7 hown hK hM hX.AX hX.obj rfl 0 (by decide) (ht _ uw_275) rfl dX7_count_112 ?_
    refine lv_iconst (v := 4) hx hb dX7_count_115 (by first | rfl | decide) ?_
    refine m_callRI (val := sumN (fun i => facC now i (4)) 6) (As := [.int (4)]) (rest := [.int (sumN (fun i => facC now i (8)) 6)]) ⟨hx, hb, hml, hown, ht⟩ (k_X6_sumOf l g A M (X + 1) π now (4) hX.nowV) (cwV 1 ht (gU uw_506 uw_507 uw_508 uw_35 uw_509) rfl rfl rfl (by decide +kernel) ⟨by decide, by decide⟩) hK hM hS (m_recv hK hM hX.nowV.AW hX.nowV.W rfl) rfl hl.1 rfl (Nat.le_of_ble_eq_true rfl) dX7_count_116 ⟨by decide, by decide⟩ (fun H locs hM hS => ?_)
    refine lv_iadd hx hb dX7_count_119 ?_
    subst hQ
    exact m_zret hx hb hr (rfl) hlk hK hM hS dX7_count_120 (⟨by rw [s_1_5]; rfl, hMM⟩)
  by_cases s_1_6 : (x) = 6
  · refine lv_tableIn (tgt := 121) (off := 120) hx hb dX7_count_1 (by rw [s_1_6]; decide) (by rw [s_1_6]; decide) (by rw [s_1_6]; rfl) (by decide) ?_
    refine lv_aload_n hx hb dX7_count_121 rfl (lv_at hl 0 rfl) ?_
    refine m_get (ci := 7) (C := RX7) (T := TX7) (N := 7) hx hb ht ui_X7 hown hK hM hX.AX hX.obj rfl 0 (by decide) (ht _ uw_275) rfl dX7_count_122 ?_
    refine lv_iconst (v := 5) hx hb dX7_count_125 (by first | rfl | decide) ?_
    refine m_callRI (val := sumN (fun i => facC now i (5)) 6) (As := [.int (5)]) (rest := []) ⟨hx, hb, hml, hown, ht⟩ (k_X6_sumOf l g A M (X + 1) π now (5) hX.nowV) (cwV 1 ht (gU uw_506 uw_507 uw_508 uw_35 uw_509) rfl rfl rfl (by decide +kernel) ⟨by decide, by decide⟩) hK hM hS (m_recv hK hM hX.nowV.AW hX.nowV.W rfl) rfl hl.1 rfl (Nat.le_of_ble_eq_true rfl) dX7_count_126 ⟨by decide, by decide⟩ (fun H locs hM hS => ?_)
    subst hQ
    exact m_zret hx hb hr (rfl) hlk hK hM hS dX7_count_129 (⟨by rw [s_1_6]; rfl, hMM⟩)
  by_cases s_1_7 : (x) = 7
  · refine lv_tableIn (tgt := 130) (off := 129) hx hb dX7_count_1 (by rw [s_1_7]; decide) (by rw [s_1_7]; decide) (by rw [s_1_7]; rfl) (by decide) ?_
    refine lv_aload_n hx hb dX7_count_130 rfl (lv_at hl 0 rfl) ?_
    refine m_get (ci := 7) (C := RX7) (T := TX7) (N := 7) hx hb ht ui_X7 hown hK hM hX.AX hX.obj rfl 0 (by decide) (ht _ uw_275) rfl dX7_count_131 ?_
    refine m_callRI (val := sumN (fun i => now.2.1 i 8) 6) (As := []) (rest := []) ⟨hx, hb, hml, hown, ht⟩ (k_X6_sumOfTold l g A M (X + 1) π now hX.nowV) (cwV 0 ht (gU uw_511 uw_512 uw_513 uw_35 uw_514) rfl rfl rfl (by decide +kernel) ⟨by decide, by decide⟩) hK hM hS (m_recv hK hM hX.nowV.AW hX.nowV.W rfl) rfl hl.1 rfl (Nat.le_of_ble_eq_true rfl) dX7_count_134 ⟨by decide, by decide⟩ (fun H locs hM hS => ?_)
    subst hQ
    exact m_zret hx hb hr (rfl) hlk hK hM hS dX7_count_137 (⟨by rw [s_1_7]; rfl, hMM⟩)
  by_cases s_1_8 : (x) = 8
  · refine lv_tableIn (tgt := 138) (off := 137) hx hb dX7_count_1 (by rw [s_1_8]; decide) (by rw [s_1_8]; decide) (by rw [s_1_8]; rfl) (by decide) ?_
    refine lv_aload_n hx hb dX7_count_138 rfl (lv_at hl 0 rfl) ?_
    refine m_get (ci := 7) (C := RX7) (T := TX7) (N := 7) hx hb ht ui_X7 hown hK hM hX.AX hX.obj rfl 0 (by decide) (ht _ uw_275) rfl dX7_count_139 ?_
    refine m_callRI (val := gapN now 6) (As := []) (rest := []) ⟨hx, hb, hml, hown, ht⟩ (k_X6_gaugesWithGap l g A M (X + 1) π now hX.nowV) (cwV 0 ht (gU uw_515 uw_516 uw_517 uw_35 uw_518) rfl rfl rfl (by decide +kernel) ⟨by decide, by decide⟩) hK hM hS (m_recv hK hM hX.nowV.AW hX.nowV.W rfl) rfl hl.1 rfl (Nat.le_of_ble_eq_true rfl) dX7_count_142 ⟨by decide, by decide⟩ (fun H locs hM hS => ?_)
    subst hQ
    exact m_zret hx hb hr (rfl) hlk hK hM hS dX7_count_145 (⟨by rw [s_1_8]; rfl, hMM⟩)
  by_cases s_1_9 : (x) = 9
  · refine lv_tableIn (tgt := 146) (off := 145) hx hb dX7_count_1 (by rw [s_1_9]; decide) (by rw [s_1_9]; decide) (by rw [s_1_9]; rfl) (by decide) ?_
    refine lv_aload_n hx hb dX7_count_146 rfl (lv_at hl 0 rfl) ?_
    obtain ⟨rs, hTx⟩ := hX.txt
    refine m_get (ci := 7) (C := RX7) (T := TX7) (N := 7) hx hb ht ui_X7 hown hK hM hX.AX hX.obj rfl 5 (by decide) (ht _ uw_280) rfl dX7_count_147 ?_
    refine rt_getPl hx hb ht ui_X3 hown hK hM hTx (ht _ uw_238) dX7_count_150 ?_
    subst hQ
    exact m_zret hx hb hr (rfl) hlk hK hM hS dX7_count_153 (⟨by rw [s_1_9]; rfl, hMM⟩)
  by_cases s_1_10 : (x) = 10
  · refine lv_tableIn (tgt := 154) (off := 153) hx hb dX7_count_1 (by rw [s_1_10]; decide) (by rw [s_1_10]; decide) (by rw [s_1_10]; rfl) (by decide) ?_
    refine lv_aload_n hx hb dX7_count_154 rfl (lv_at hl 0 rfl) ?_
    skip
    refine m_get (ci := 7) (C := RX7) (T := TX7) (N := 7) hx hb ht ui_X7 hown hK hM hX.AX hX.obj rfl 2 (by decide) (ht _ uw_277) rfl dX7_count_155 ?_
    obtain ⟨ρ9, πs9, hH9⟩ := hX.his
    refine rh_getSz hx hb ht ui_X1 hown hK hM hH9 (ht _ uw_223) dX7_count_158 ?_
    subst hQ
    exact m_zret hx hb hr (rfl) hlk hK hM hS dX7_count_161 (⟨by rw [s_1_10]; rfl, hMM⟩)
  exfalso
  have n_0 := lv_neT (a := 0) s_1_0 (by decide)
  have n_1 := lv_neT (a := 1) s_1_1 (by decide)
  have n_2 := lv_neT (a := 2) s_1_2 (by decide)
  have n_3 := lv_neT (a := 3) s_1_3 (by decide)
  have n_4 := lv_neT (a := 4) s_1_4 (by decide)
  have n_5 := lv_neT (a := 5) s_1_5 (by decide)
  have n_6 := lv_neT (a := 6) s_1_6 (by decide)
  have n_7 := lv_neT (a := 7) s_1_7 (by decide)
  have n_8 := lv_neT (a := 8) s_1_8 (by decide)
  have n_9 := lv_neT (a := 9) s_1_9 (by decide)
  have n_10 := lv_neT (a := 10) s_1_10 (by decide)
  omega
end
section
theorem cpyC_3 {v w : VV} {n : Nat} (h : w.1 3 = nI n) {m : Nat} : (cpyC v w m).1 3 = nI n := h
def untL (i : Nat) (am : Int32) : Nat → Nat → VV → Int32
  | 0, _, _ => -1000006
  | z + 1, o, v => if v.1 0 ≤ v.2.1 i 5 - v.2.1 i 10 then nI o else untL i am z (o + 1) (catC v i am)
def oUntil (v : VV) (x y : Int32) : Int32 := match gxn 6 x with
  | none => -1000001
  | some i => if winC y 0 99 = 0 then -1000002 else untL i y 501 0 v
theorem unt_e {v : VV} {x y : Int32} {i : Nat} (e : gxn 6 x = some i) (h : ¬ winC y 0 99 = 0) : oUntil v x y = untL i y 501 0 v := by unfold oUntil; rw [e]; exact if_neg h
theorem unt_s {i o : Nat} {y : Int32} {v : VV} (h : o ≤ 500) : untL i y (501 - o) o v = if v.1 0 ≤ v.2.1 i 5 - v.2.1 i 10 then nI o else untL i y (501 - (o + 1)) (o + 1) (catC v i y) := by
  rw [show 501 - o = (501 - (o + 1)) + 1 by omega]
  rfl
theorem unt_1 {i o : Nat} {y : Int32} {v : VV} (h : o ≤ 500) (c : v.1 0 ≤ v.2.1 i 5 - v.2.1 i 10) : untL i y (501 - o) o v = nI o := by rw [unt_s h, if_pos c]
theorem unt_2 {i o : Nat} {y : Int32} {v : VV} (h : o ≤ 500) (c : v.2.1 i 5 - v.2.1 i 10 < v.1 0) : untL i y (501 - (o + 1)) (o + 1) (catC v i y) = untL i y (501 - o) o v := by rw [unt_s h, if_neg (Int32.not_le.mpr c)]
theorem unt_0 {i o : Nat} {y : Int32} {v : VV} (h : 500 < o) : untL i y (501 - o) o v = -1000006 := by
  rw [show 501 - o = 0 by omega]
  rfl
def oIfSent (v : VV) (x : Int32) : Int32 := match gxn 6 x with
  | none => -1000001
  | some i => (senC (vG (vW v 3 0) i 3 0) i 0).2.1 i 5 - (senC (vG (vW v 3 0) i 3 0) i 0).2.1 i 8
def oIfAll (v : VV) (n : Nat) (x : Int32) : Int32 := match gxn 6 x with
  | none => -1000001
  | some i => (pasC 0 v (lonC v n).toNatClampNeg).2.1 i 5 - (pasC 0 v (lonC v n).toNatClampNeg).2.1 i 8
theorem lonC_0 (v : VV) (n : Nat) : 0 ≤ lonC v n := by
  induction n with
  | zero => exact Int32.le_refl _
  | succ n ih =>
    unfold lonC
    split
    · rename_i h
      exact Int32.le_trans ih (Int32.le_of_lt h)
    · exact ih
def mosP (v : VV) : Nat → Int32 × Int32
  | 0 => (0, -1000006)
  | i + 1 => if (mosP v i).1 < v.2.1 i 5 - v.2.1 i 10 then (v.2.1 i 5 - v.2.1 i 10, nI i) else mosP v i
def mosL (v : VV) (n : Nat) : Int32 := (mosP v n).2
theorem mos_y {v : VV} {i : Nat} {a b : Int32} (h : (a, b) = mosP v i) (c : ¬ v.2.1 i 5 - v.2.1 i 10 ≤ a) : (v.2.1 i 5 - v.2.1 i 10, nI i) = mosP v (i + 1) := by
  unfold mosP
  rw [← h]
  exact (if_pos (Int32.not_le.mp c)).symm
theorem mos_n {v : VV} {i : Nat} {a b : Int32} (h : (a, b) = mosP v i) (c : v.2.1 i 5 - v.2.1 i 10 ≤ a) : (a, b) = mosP v (i + 1) := by
  unfold mosP
  rw [← h]
  exact (if_neg (Int32.not_lt.mpr c)).symm
def oWipe (c : CS) : Int32 × CS := (nI c.2.2.2.2.2.2, c.1, c.2.1, c.2.2.1, c.2.2.2.1, c.2.2.2.2.1, c.2.2.2.2.2.1, 0)
def oFault (c : CS) : Int32 × CS := ((match fauC c.2.2.2.2.2.1 c.2.2.2.2.2.2 60 0 with | none => -1000006 | some q => nI q), c)
def oUndo (c : CS) : Int32 × CS := match c.2.2.1 with
  | 0 => (-1000005, c)
  | k + 1 => (nI k, cpyC c.1 (c.2.1 k) (onN (c.2.1 k)), c.2.1, k, c.2.2.2)
def oSave (c : CS) (x : Int32) : Int32 × CS := if winC x 0 1 = 0 then (-1000002, c) else
  let i := x.toNatClampNeg
  (c.1.1 2, c.1, c.2.1, c.2.2.1, va_up c.2.2.2.1 i (cpyC (c.2.2.2.1 i) c.1 (onN c.1)), upd c.2.2.2.2.1 i (vp_nar .boolean 1), c.2.2.2.2.2)
def oRestore (c : CS) (x : Int32) : Int32 × CS := if winC x 0 1 = 0 then (-1000002, c) else
  let i := x.toNatClampNeg
  if c.2.2.2.2.1 i = 0 then (-1000005, c) else
  ((cpyC c.1 (c.2.2.2.1 i) (onN (c.2.2.2.1 i))).1 2, recX c (cpyC c.1 (c.2.2.2.1 i) (onN (c.2.2.2.1 i))))
set_option maxHeartbeats 4000000 in
set_option maxRecDepth 100000 in
/-- untilRound -/
theorem k_X7_untilRound (l : Launch) (g : GG) (A : Nat → Prop) (M0 : MM) (X : Nat) (now : VV) (hs : Nat → VV) (k : Nat) (sl : Nat → VV) (sv f : Nat → Int32) (L : Nat) (hR : RXS g A M0 M0 X (now, hs, k, sl, sv, f, L)) (hI : CI (now, hs, k, sl, sv, f, L)) (x y : Int32)  : Met l yX7_untilRound (Uw yX7_untilRound cX7_untilRound 5 (Option.some ClassFile.FieldType.int)) (rmD 3) (PreM [.ref (X), .int (x), .int (y)] g A M0) (PosI (fun r M1 => (∃ t, r = oUntil (cpyC t now (onN now)) x y) ∧ RXS g A M0 M1 X (now, hs, k, sl, sv, f, L)) g A) 0 0 A := by
  refine mk_Met (own := RX7) rfl rfl (by decide) (Nat.le_of_ble_eq_true rfl) ?_
  intro p e s m below meth c ls aa Q haa hQ hx hb hr hlk hml hown hts hK hM hS hl hnm
  obtain ⟨M, hMM⟩ : ∃ M, M = M0 := ⟨_, rfl⟩
  rw [← hMM] at hM hR
  have ht : ∀ w ∈ lw_good, w.before _ s = true := fun w h => hts w (List.mem_cons_of_mem _ h)
  have hl : lv_has ls 5 [(0, .ref (X)), (1, .int (x)), (2, .int (y))] := hl
  obtain ⟨π, hX⟩ := hR
  have hX : RX g A M0 M X π now hs k sl sv f L := ⟨hX.1, by rw [hMM]; exact FrX.rf⟩
  obtain ⟨⟨n, hn20, hn⟩, hk6, hhs, hsl, hL, hch⟩ := id hI
  have hN : onN now = n := onN_eq hn hn20
  obtain ⟨πt, t, hT⟩ := hX.tri
  refine lv_aload_n hx hb dX7_untilRound_0 rfl (lv_at hl 0 rfl) ?_
  refine m_get (ci := 7) (C := RX7) (T := TX7) (N := 7) hx hb ht ui_X7 hown hK hM hX.AX hX.obj rfl 1 (by decide) (ht _ uw_276) rfl dX7_untilRound_1 ?_
  refine lv_aload_n hx hb dX7_untilRound_4 rfl (lv_at hl 0 rfl) ?_
  refine m_get (ci := 7) (C := RX7) (T := TX7) (N := 7) hx hb ht ui_X7 hown hK hM hX.AX hX.obj rfl 0 (by decide) (ht _ uw_275) rfl dX7_untilRound_5 ?_
  refine m_callV (As := [.ref (X + 1)]) (rest := []) ⟨hx, hb, hml, hown, ht⟩ (k_X6_copyFrom l g A M (X + 36) πt t (X + 1) π now n hT hX.nowV (by omega) hn hn20) (cwV 1 ht (gU uw_524 uw_313 uw_314 uw_35 uw_315) rfl rfl rfl (by decide +kernel) ⟨by decide, by decide⟩) hK hM hS (m_recv hK hM hT.AW hT.W rfl) rfl hl.1 rfl (Nat.le_of_ble_eq_true rfl) dX7_untilRound_8 ⟨by decide, by decide⟩ (fun M H locs hp hM hS => ?_)
  obtain ⟨hV9, hF9⟩ := hp
  have hX := hX.setT hV9 hF9
  have hT := hV9
  have hnT : (cpyC t now n).1 3 = nI n := cpyC_3 hn
  refine lv_aload_n hx hb dX7_untilRound_11 rfl (lv_at hl 0 rfl) ?_
  refine m_get (ci := 7) (C := RX7) (T := TX7) (N := 7) hx hb ht ui_X7 hown hK hM hX.AX hX.obj rfl 1 (by decide) (ht _ uw_276) rfl dX7_untilRound_12 ?_
  refine lv_iload_n hx hb dX7_untilRound_15 rfl (lv_at hl 1 rfl) ?_
  rcases gxn_cases (n := 6) (by decide) x with ⟨e1, h1⟩ | ⟨i, hi, ex, e1⟩
  · refine m_callRQ (val := none) (w := .null) (rfl) (As := [.int (x)]) (rest := []) ⟨hx, hb, hml, hown, ht⟩ (k_X6_gaugeAt l g A M (X + 36) πt (cpyC t now n) (x) none hT e1) (cwV 1 ht (gU uw_345 uw_337 uw_338 uw_35 uw_339) rfl rfl rfl (by decide +kernel) ⟨by decide, by decide⟩) hK hM hS (m_recv hK hM hT.AW hT.W rfl) rfl hl.1 rfl (Nat.le_of_ble_eq_true rfl) dX7_untilRound_16 ⟨by decide, by decide⟩ (fun H locs hM hS => ?_)
    refine lv_astore_nN (lv' := [(3, .null), (0, .ref (X)), (1, .int (x)), (2, .int (y))]) hx hb dX7_untilRound_19 rfl hl (by decide) rfl (fun ls hl => ?_)
    refine lv_aload_nN hx hb dX7_untilRound_20 rfl (lv_at hl 0 rfl) ?_
    refine lv_ifnonnullN hx hb dX7_untilRound_21 ?_
    refine lv_ldc (v := (-1000001)) hx hb hown (ht _ uw_346) dX7_untilRound_24 ?_
    subst hQ
    exact m_zret hx hb hr (rfl) hlk hK hM hS dX7_untilRound_26 (⟨⟨t, by rw [hN]; unfold oUntil; rw [e1]⟩, π, hX⟩)
  · refine m_callRQ (val := some (X + 36 + 3 + 2 * i)) (w := .ref (X + 36 + 3 + 2 * i)) (rfl) (As := [.int (x)]) (rest := []) ⟨hx, hb, hml, hown, ht⟩ (k_X6_gaugeAt l g A M (X + 36) πt (cpyC t now n) (x) (some i) hT e1) (cwV 1 ht (gU uw_345 uw_337 uw_338 uw_35 uw_339) rfl rfl rfl (by decide +kernel) ⟨by decide, by decide⟩) hK hM hS (m_recv hK hM hT.AW hT.W rfl) rfl hl.1 rfl (Nat.le_of_ble_eq_true rfl) dX7_untilRound_16 ⟨by decide, by decide⟩ (fun H locs hM hS => ?_)
    refine lv_astore_n (lv' := [(3, .ref (X + 36 + 3 + 2 * i)), (0, .ref (X)), (1, .int (x)), (2, .int (y))]) hx hb dX7_untilRound_19 rfl hl (by decide) rfl (fun ls hl => ?_)
    refine lv_aload_n hx hb dX7_untilRound_20 rfl (lv_at hl 0 rfl) ?_
    refine lv_ifnonnull (tgt := 27) hx hb dX7_untilRound_21 (by decide) ?_
    refine lv_iload_n hx hb dX7_untilRound_27 rfl (lv_at hl 3 rfl) ?_
    refine lv_iconst (v := 0) hx hb dX7_untilRound_28 (by first | rfl | decide) ?_
    refine lv_bipush (v := 99) hx hb dX7_untilRound_29 (by first | rfl | decide) ?_
    refine m_callRSI (val := winC (y) (0) (99)) (As := [.int (y), .int (0), .int (99)]) (rest := []) ⟨hx, hb, hml, hown, ht⟩ (k_X7_within l g A M (y) (0) (99)) (cwS 3 ht (gUS uw_301 uw_302 uw_34 uw_303) rfl rfl rfl (by decide +kernel) ⟨by decide, by decide⟩) hK hM hS rfl hl.1 rfl (Nat.le_of_ble_eq_true rfl) dX7_untilRound_31 ⟨by decide, by decide⟩ (fun H locs hM hS => ?_)
    refine lv_if_ne (tgt := 40) hx hb dX7_untilRound_34 (by decide) (fun c_34 => ?_) (fun c_34 => ?_)
    · obtain ⟨w0, hw0⟩ : ∃ w0, w0 = untL i y 501 0 (cpyC t now n) := ⟨_, rfl⟩
      refine lv_iconst (v := 0) hx hb dX7_untilRound_40 (by first | rfl | decide) ?_
      refine lv_istore (lv' := [(4, .int (0)), (3, .ref (X + 36 + 3 + 2 * i)), (0, .ref (X)), (1, .int (x)), (2, .int (y))]) hx hb dX7_untilRound_41 hl (by decide) rfl (fun ls hl => ?_)
      have loop_43 : ∀ (z_43 : Nat) (o : Nat) (v9 : VV) (M : MM) (H : Heap) (locs : List Loc) (ls : Array Slot), 501 - o < z_43 → o ≤ 501 → untL i y (501 - o) o v9 = w0 → HD g A M H → RX g A M0 M X π now hs k sl sv f L → RepV g A M (X + 36) πt v9 → va_S A s.heap H locs → lv_has ls 5 [(4, .int (nI o)), (3, .ref (X + 36 + 3 + 2 * i)), (0, .ref (X)), (1, .int (x)), (2, .int (y))] → W p l e (rmD 3) s m aa below meth c H locs 0 0 Q (F0 m 43 ls []) := by
        intro z_43
        induction z_43 with
        | zero => intro o v9 M H locs ls hz ho hw; exact absurd hz (Nat.not_lt_zero _)
        | succ z_43 ih_43 =>
        intro o v9 M H locs ls hz ho hw hM hX hT hS hl
        refine lv_iload hx hb dX7_untilRound_43 (lv_at hl 0 rfl) ?_
        refine lv_sipush (v := 500) hx hb dX7_untilRound_45 (by first | rfl | decide) ?_
        refine lv_icmp_gt (tgt := 80) hx hb dX7_untilRound_48 (by decide) (fun c_48 => ?_) (fun c_48 => ?_)
        · refine lv_ldc (v := (-1000006)) hx hb hown (ht _ uw_471) dX7_untilRound_80 ?_
          subst hQ
          exact m_zret hx hb hr (rfl) hlk hK hM hS dX7_untilRound_82 (⟨⟨t, by rw [hN, unt_e e1 c_34, ← hw0, ← hw]; exact (unt_0 (nI_nlt_of (by decide) (by omega) c_48)).symm⟩, π, hX⟩)
        · have ho5 : o ≤ 500 := nI_le_of (by decide) (by omega) (Int32.not_lt.mp c_48)
          refine lv_aload_n hx hb dX7_untilRound_51 rfl (lv_at hl 1 rfl) ?_
          refine m_callRI (val := v9.2.1 i 5 - v9.2.1 i 10) (As := []) (rest := []) ⟨hx, hb, hml, hown, ht⟩ (k_X0_untold l g A M (X + 36) πt v9 i hT hi) (cwV 0 ht (gU uw_525 uw_526 uw_527 uw_36 uw_528) rfl rfl rfl (by decide +kernel) ⟨by decide, by decide⟩) hK hM hS (m_recv hK hM (hT.AG hi) (hT.G hi) rfl) rfl hl.1 rfl (Nat.le_of_ble_eq_true rfl) dX7_untilRound_52 ⟨by decide, by decide⟩ (fun H locs hM hS => ?_)
          refine lv_aload_n hx hb dX7_untilRound_55 rfl (lv_at hl 2 rfl) ?_
          refine m_get (ci := 7) (C := RX7) (T := TX7) (N := 7) hx hb ht ui_X7 hown hK hM hX.AX hX.obj rfl 1 (by decide) (ht _ uw_276) rfl dX7_untilRound_56 ?_
          refine rv_getW hx hb ht ui_X6 hown hK hM hT 0 (by decide) (ht _ uw_189) dX7_untilRound_59 ?_
          refine lv_icmp_lt (tgt := 68) hx hb dX7_untilRound_62 (by decide) (fun c_62 => ?_) (fun c_62 => ?_)
          · refine lv_aload_n hx hb dX7_untilRound_68 rfl (lv_at hl 1 rfl) ?_
            refine lv_iload_n hx hb dX7_untilRound_69 rfl (lv_at hl 4 rfl) ?_
            refine m_callI (As := [.int (y)]) (rest := []) ⟨hx, hb, hml, hown, ht⟩ (k_X0_catchRain l g A M (X + 36) πt v9 i y hT hi) (cwV 1 ht (gU uw_529 uw_361 uw_362 uw_36 uw_363) rfl rfl rfl (by decide +kernel) ⟨by decide, by decide⟩) hK hM hS (m_recv hK hM (hT.AG hi) (hT.G hi) rfl) rfl hl.1 rfl (Nat.le_of_ble_eq_true rfl) dX7_untilRound_70 ⟨by decide, by decide⟩ (fun r9 M H locs hp hM hS => ?_)
            obtain ⟨-, hV9, hF9⟩ := hp
            have hX := hX.setT hV9 hF9
            have hT := hV9
            refine lv_pop hx hb dX7_untilRound_73 rfl ?_
            refine lv_iinc (v := nI (o + 1)) (lv' := [(4, .int (nI (o + 1))), (3, .ref (X + 36 + 3 + 2 * i)), (0, .ref (X)), (1, .int (x)), (2, .int (y))]) hx hb dX7_untilRound_74 hl (k := 0) rfl (nI_1 _) (by decide) rfl (fun ls hl => ?_)
            refine lv_goto (tgt := 43) hx hb dX7_untilRound_77 (by decide) ?_
            exact ih_43 (o + 1) (catC v9 i y) _ _ _ _ (by omega) (by omega) (by rw [← hw]; exact unt_2 ho5 c_62) hM hX hT hS (lv_sub hl [0, 1, 2, 3, 4] rfl)
          · refine lv_iload hx hb dX7_untilRound_65 (lv_at hl 0 rfl) ?_
            subst hQ
            exact m_zret hx hb hr (rfl) hlk hK hM hS dX7_untilRound_67 (⟨⟨t, by rw [hN, unt_e e1 c_34, ← hw0, ← hw]; exact (unt_1 ho5 (Int32.not_lt.mp c_62)).symm⟩, π, hX⟩)
      exact loop_43 _ 0 (cpyC t now n) _ _ _ _ (Nat.lt_succ_self _) (by omega) hw0.symm hM hX hT hS (lv_sub hl [0, 1, 2, 3, 4] rfl)
    · refine lv_ldc (v := (-1000002)) hx hb hown (ht _ uw_340) dX7_untilRound_37 ?_
      subst hQ
      exact m_zret hx hb hr (rfl) hlk hK hM hS dX7_untilRound_39 (⟨⟨t, by rw [hN]; unfold oUntil; rw [e1]; exact (if_pos c_34).symm⟩, π, hX⟩)

set_option maxHeartbeats 4000000 in
set_option maxRecDepth 100000 in
/-- ifSent -/
theorem k_X7_ifSent (l : Launch) (g : GG) (A : Nat → Prop) (M0 : MM) (X : Nat) (now : VV) (hs : Nat → VV) (k : Nat) (sl : Nat → VV) (sv f : Nat → Int32) (L : Nat) (hR : RXS g A M0 M0 X (now, hs, k, sl, sv, f, L)) (hI : CI (now, hs, k, sl, sv, f, L)) (x : Int32)  : Met l yX7_ifSent (Uw yX7_ifSent cX7_ifSent 3 (Option.some ClassFile.FieldType.int)) (rmD 4) (PreM [.ref (X), .int (x)] g A M0) (PosI (fun r M1 => (∃ t, r = oIfSent (cpyC t now (onN now)) x) ∧ RXS g A M0 M1 X (now, hs, k, sl, sv, f, L)) g A) 0 0 A := by
  refine mk_Met (own := RX7) rfl rfl (by decide) (Nat.le_of_ble_eq_true rfl) ?_
  intro p e s m below meth c ls aa Q haa hQ hx hb hr hlk hml hown hts hK hM hS hl hnm
  obtain ⟨M, hMM⟩ : ∃ M, M = M0 := ⟨_, rfl⟩
  rw [← hMM] at hM hR
  have ht : ∀ w ∈ lw_good, w.before _ s = true := fun w h => hts w (List.mem_cons_of_mem _ h)
  have hl : lv_has ls 3 [(0, .ref (X)), (1, .int (x))] := hl
  obtain ⟨π, hX⟩ := hR
  have hX : RX g A M0 M X π now hs k sl sv f L := ⟨hX.1, by rw [hMM]; exact FrX.rf⟩
  obtain ⟨⟨n, hn20, hn⟩, hk6, hhs, hsl, hL, hch⟩ := id hI
  have hN : onN now = n := onN_eq hn hn20
  obtain ⟨πt, t, hT⟩ := hX.tri
  refine lv_aload_n hx hb dX7_ifSent_0 rfl (lv_at hl 0 rfl) ?_
  refine m_get (ci := 7) (C := RX7) (T := TX7) (N := 7) hx hb ht ui_X7 hown hK hM hX.AX hX.obj rfl 1 (by decide) (ht _ uw_276) rfl dX7_ifSent_1 ?_
  refine lv_aload_n hx hb dX7_ifSent_4 rfl (lv_at hl 0 rfl) ?_
  refine m_get (ci := 7) (C := RX7) (T := TX7) (N := 7) hx hb ht ui_X7 hown hK hM hX.AX hX.obj rfl 0 (by decide) (ht _ uw_275) rfl dX7_ifSent_5 ?_
  refine m_callV (As := [.ref (X + 1)]) (rest := []) ⟨hx, hb, hml, hown, ht⟩ (k_X6_copyFrom l g A M (X + 36) πt t (X + 1) π now n hT hX.nowV (by omega) hn hn20) (cwV 1 ht (gU uw_524 uw_313 uw_314 uw_35 uw_315) rfl rfl rfl (by decide +kernel) ⟨by decide, by decide⟩) hK hM hS (m_recv hK hM hT.AW hT.W rfl) rfl hl.1 rfl (Nat.le_of_ble_eq_true rfl) dX7_ifSent_8 ⟨by decide, by decide⟩ (fun M H locs hp hM hS => ?_)
  obtain ⟨hV9, hF9⟩ := hp
  have hX := hX.setT hV9 hF9
  have hT := hV9
  have hnT : (cpyC t now n).1 3 = nI n := cpyC_3 hn
  refine lv_aload_n hx hb dX7_ifSent_11 rfl (lv_at hl 0 rfl) ?_
  refine m_get (ci := 7) (C := RX7) (T := TX7) (N := 7) hx hb ht ui_X7 hown hK hM hX.AX hX.obj rfl 1 (by decide) (ht _ uw_276) rfl dX7_ifSent_12 ?_
  refine lv_iload_n hx hb dX7_ifSent_15 rfl (lv_at hl 1 rfl) ?_
  rcases gxn_cases (n := 6) (by decide) x with ⟨e1, h1⟩ | ⟨i, hi, ex, e1⟩
  · refine m_callRQ (val := none) (w := .null) (rfl) (As := [.int (x)]) (rest := []) ⟨hx, hb, hml, hown, ht⟩ (k_X6_gaugeAt l g A M (X + 36) πt (cpyC t now n) (x) none hT e1) (cwV 1 ht (gU uw_345 uw_337 uw_338 uw_35 uw_339) rfl rfl rfl (by decide +kernel) ⟨by decide, by decide⟩) hK hM hS (m_recv hK hM hT.AW hT.W rfl) rfl hl.1 rfl (Nat.le_of_ble_eq_true rfl) dX7_ifSent_16 ⟨by decide, by decide⟩ (fun H locs hM hS => ?_)
    refine lv_astore_nN (lv' := [(2, .null), (0, .ref (X)), (1, .int (x))]) hx hb dX7_ifSent_19 rfl hl (by decide) rfl (fun ls hl => ?_)
    refine lv_aload_nN hx hb dX7_ifSent_20 rfl (lv_at hl 0 rfl) ?_
    refine lv_ifnonnullN hx hb dX7_ifSent_21 ?_
    refine lv_ldc (v := (-1000001)) hx hb hown (ht _ uw_346) dX7_ifSent_24 ?_
    subst hQ
    exact m_zret hx hb hr (rfl) hlk hK hM hS dX7_ifSent_26 (⟨⟨t, by rw [hN]; unfold oIfSent; rw [e1]⟩, π, hX⟩)
  · refine m_callRQ (val := some (X + 36 + 3 + 2 * i)) (w := .ref (X + 36 + 3 + 2 * i)) (rfl) (As := [.int (x)]) (rest := []) ⟨hx, hb, hml, hown, ht⟩ (k_X6_gaugeAt l g A M (X + 36) πt (cpyC t now n) (x) (some i) hT e1) (cwV 1 ht (gU uw_345 uw_337 uw_338 uw_35 uw_339) rfl rfl rfl (by decide +kernel) ⟨by decide, by decide⟩) hK hM hS (m_recv hK hM hT.AW hT.W rfl) rfl hl.1 rfl (Nat.le_of_ble_eq_true rfl) dX7_ifSent_16 ⟨by decide, by decide⟩ (fun H locs hM hS => ?_)
    refine lv_astore_n (lv' := [(2, .ref (X + 36 + 3 + 2 * i)), (0, .ref (X)), (1, .int (x))]) hx hb dX7_ifSent_19 rfl hl (by decide) rfl (fun ls hl => ?_)
    refine lv_aload_n hx hb dX7_ifSent_20 rfl (lv_at hl 0 rfl) ?_
    refine lv_ifnonnull (tgt := 27) hx hb dX7_ifSent_21 (by decide) ?_
    refine lv_aload_n hx hb dX7_ifSent_27 rfl (lv_at hl 1 rfl) ?_
    refine m_get (ci := 7) (C := RX7) (T := TX7) (N := 7) hx hb ht ui_X7 hown hK hM hX.AX hX.obj rfl 1 (by decide) (ht _ uw_276) rfl dX7_ifSent_28 ?_
    refine lv_iconst (v := 0) hx hb dX7_ifSent_31 (by first | rfl | decide) ?_
    refine rv_putW hx hb ht ui_X6 hown hK hM hS hT FrV.rf 3 (by decide) (ht _ uw_195) dX7_ifSent_32 (fun M H locs hM hV9 hF9 hS => ?_)
    have hX := hX.setT hV9 hF9
    have hT := hV9
    refine lv_aload_n hx hb dX7_ifSent_35 rfl (lv_at hl 0 rfl) ?_
    refine lv_iconst (v := 0) hx hb dX7_ifSent_36 (by first | rfl | decide) ?_
    refine rv_putG hx hb ht ui_X0 hown hK hM hS hT FrV.rf hi 3 (by decide) (ht _ uw_125) dX7_ifSent_37 (fun M H locs hM hV9 hF9 hS => ?_)
    have hX := hX.setT hV9 hF9
    have hT := hV9
    refine lv_aload_n hx hb dX7_ifSent_40 rfl (lv_at hl 1 rfl) ?_
    refine m_get (ci := 7) (C := RX7) (T := TX7) (N := 7) hx hb ht ui_X7 hown hK hM hX.AX hX.obj rfl 1 (by decide) (ht _ uw_276) rfl dX7_ifSent_41 ?_
    refine lv_iload_n hx hb dX7_ifSent_44 rfl (lv_at hl 2 rfl) ?_
    refine m_callI (As := [.int (x)]) (rest := []) ⟨hx, hb, hml, hown, ht⟩ ((by have z := k_X6_sendRunner l g A M (X + 36) πt (vG (vW (cpyC t now n) 3 0) i 3 0) i hT 0 rfl (by omega) hi; rw [← ex] at z; exact z)) (cwV 1 ht (gU uw_404 uw_405 uw_406 uw_35 uw_407) rfl rfl rfl (by decide +kernel) ⟨by decide, by decide⟩) hK hM hS (m_recv hK hM hT.AW hT.W rfl) rfl hl.1 rfl (Nat.le_of_ble_eq_true rfl) dX7_ifSent_45 ⟨by decide, by decide⟩ (fun r9 M H locs hp hM hS => ?_)
    obtain ⟨-, ⟨πt, hV9⟩, hF9⟩ := hp.1 (by decide)
    have hX := hX.setT hV9 hF9
    have hT := hV9
    refine lv_pop hx hb dX7_ifSent_48 rfl ?_
    refine lv_aload_n hx hb dX7_ifSent_49 rfl (lv_at hl 0 rfl) ?_
    refine m_callRI (val := (senC (vG (vW (cpyC t now n) 3 0) i 3 0) i 0).2.1 i 5 - (senC (vG (vW (cpyC t now n) 3 0) i 3 0) i 0).2.1 i 8) (As := []) (rest := []) ⟨hx, hb, hml, hown, ht⟩ (k_X0_gap l g A M (X + 36) πt (senC (vG (vW (cpyC t now n) 3 0) i 3 0) i 0) i hT hi) (cwV 0 ht (gU uw_494 uw_495 uw_496 uw_36 uw_497) rfl rfl rfl (by decide +kernel) ⟨by decide, by decide⟩) hK hM hS (m_recv hK hM (hT.AG hi) (hT.G hi) rfl) rfl hl.1 rfl (Nat.le_of_ble_eq_true rfl) dX7_ifSent_50 ⟨by decide, by decide⟩ (fun H locs hM hS => ?_)
    subst hQ
    exact m_zret hx hb hr (rfl) hlk hK hM hS dX7_ifSent_53 (⟨⟨t, by rw [hN]; unfold oIfSent; rw [e1]⟩, π, hX⟩)

set_option maxHeartbeats 4000000 in
set_option maxRecDepth 100000 in
/-- ifAllCome -/
theorem k_X7_ifAllCome (l : Launch) (g : GG) (A : Nat → Prop) (M0 : MM) (X : Nat) (now : VV) (hs : Nat → VV) (k : Nat) (sl : Nat → VV) (sv f : Nat → Int32) (L : Nat) (hR : RXS g A M0 M0 X (now, hs, k, sl, sv, f, L)) (hI : CI (now, hs, k, sl, sv, f, L)) (x : Int32)  : Met l yX7_ifAllCome (Uw yX7_ifAllCome cX7_ifAllCome 3 (Option.some ClassFile.FieldType.int)) (rmD 5) (PreM [.ref (X), .int (x)] g A M0) (PosI (fun r M1 => (∃ t, r = oIfAll (cpyC t now (onN now)) (onN now) x) ∧ RXS g A M0 M1 X (now, hs, k, sl, sv, f, L)) g A) 0 0 A := by
  refine mk_Met (own := RX7) rfl rfl (by decide) (Nat.le_of_ble_eq_true rfl) ?_
  intro p e s m below meth c ls aa Q haa hQ hx hb hr hlk hml hown hts hK hM hS hl hnm
  obtain ⟨M, hMM⟩ : ∃ M, M = M0 := ⟨_, rfl⟩
  rw [← hMM] at hM hR
  have ht : ∀ w ∈ lw_good, w.before _ s = true := fun w h => hts w (List.mem_cons_of_mem _ h)
  have hl : lv_has ls 3 [(0, .ref (X)), (1, .int (x))] := hl
  obtain ⟨π, hX⟩ := hR
  have hX : RX g A M0 M X π now hs k sl sv f L := ⟨hX.1, by rw [hMM]; exact FrX.rf⟩
  obtain ⟨⟨n, hn20, hn⟩, hk6, hhs, hsl, hL, hch⟩ := id hI
  have hN : onN now = n := onN_eq hn hn20
  obtain ⟨πt, t, hT⟩ := hX.tri
  refine lv_aload_n hx hb dX7_ifAllCome_0 rfl (lv_at hl 0 rfl) ?_
  refine m_get (ci := 7) (C := RX7) (T := TX7) (N := 7) hx hb ht ui_X7 hown hK hM hX.AX hX.obj rfl 1 (by decide) (ht _ uw_276) rfl dX7_ifAllCome_1 ?_
  refine lv_aload_n hx hb dX7_ifAllCome_4 rfl (lv_at hl 0 rfl) ?_
  refine m_get (ci := 7) (C := RX7) (T := TX7) (N := 7) hx hb ht ui_X7 hown hK hM hX.AX hX.obj rfl 0 (by decide) (ht _ uw_275) rfl dX7_ifAllCome_5 ?_
  refine m_callV (As := [.ref (X + 1)]) (rest := []) ⟨hx, hb, hml, hown, ht⟩ (k_X6_copyFrom l g A M (X + 36) πt t (X + 1) π now n hT hX.nowV (by omega) hn hn20) (cwV 1 ht (gU uw_524 uw_313 uw_314 uw_35 uw_315) rfl rfl rfl (by decide +kernel) ⟨by decide, by decide⟩) hK hM hS (m_recv hK hM hT.AW hT.W rfl) rfl hl.1 rfl (Nat.le_of_ble_eq_true rfl) dX7_ifAllCome_8 ⟨by decide, by decide⟩ (fun M H locs hp hM hS => ?_)
  obtain ⟨hV9, hF9⟩ := hp
  have hX := hX.setT hV9 hF9
  have hT := hV9
  have hnT : (cpyC t now n).1 3 = nI n := cpyC_3 hn
  refine lv_aload_n hx hb dX7_ifAllCome_11 rfl (lv_at hl 0 rfl) ?_
  refine m_get (ci := 7) (C := RX7) (T := TX7) (N := 7) hx hb ht ui_X7 hown hK hM hX.AX hX.obj rfl 1 (by decide) (ht _ uw_276) rfl dX7_ifAllCome_12 ?_
  refine lv_iload_n hx hb dX7_ifAllCome_15 rfl (lv_at hl 1 rfl) ?_
  rcases gxn_cases (n := 6) (by decide) x with ⟨e1, h1⟩ | ⟨i, hi, ex, e1⟩
  · refine m_callRQ (val := none) (w := .null) (rfl) (As := [.int (x)]) (rest := []) ⟨hx, hb, hml, hown, ht⟩ (k_X6_gaugeAt l g A M (X + 36) πt (cpyC t now n) (x) none hT e1) (cwV 1 ht (gU uw_345 uw_337 uw_338 uw_35 uw_339) rfl rfl rfl (by decide +kernel) ⟨by decide, by decide⟩) hK hM hS (m_recv hK hM hT.AW hT.W rfl) rfl hl.1 rfl (Nat.le_of_ble_eq_true rfl) dX7_ifAllCome_16 ⟨by decide, by decide⟩ (fun H locs hM hS => ?_)
    refine lv_astore_nN (lv' := [(2, .null), (0, .ref (X)), (1, .int (x))]) hx hb dX7_ifAllCome_19 rfl hl (by decide) rfl (fun ls hl => ?_)
    refine lv_aload_nN hx hb dX7_ifAllCome_20 rfl (lv_at hl 0 rfl) ?_
    refine lv_ifnonnullN hx hb dX7_ifAllCome_21 ?_
    refine lv_ldc (v := (-1000001)) hx hb hown (ht _ uw_346) dX7_ifAllCome_24 ?_
    subst hQ
    exact m_zret hx hb hr (rfl) hlk hK hM hS dX7_ifAllCome_26 (⟨⟨t, by rw [hN]; unfold oIfAll; rw [e1]⟩, π, hX⟩)
  · refine m_callRQ (val := some (X + 36 + 3 + 2 * i)) (w := .ref (X + 36 + 3 + 2 * i)) (rfl) (As := [.int (x)]) (rest := []) ⟨hx, hb, hml, hown, ht⟩ (k_X6_gaugeAt l g A M (X + 36) πt (cpyC t now n) (x) (some i) hT e1) (cwV 1 ht (gU uw_345 uw_337 uw_338 uw_35 uw_339) rfl rfl rfl (by decide +kernel) ⟨by decide, by decide⟩) hK hM hS (m_recv hK hM hT.AW hT.W rfl) rfl hl.1 rfl (Nat.le_of_ble_eq_true rfl) dX7_ifAllCome_16 ⟨by decide, by decide⟩ (fun H locs hM hS => ?_)
    refine lv_astore_n (lv' := [(2, .ref (X + 36 + 3 + 2 * i)), (0, .ref (X)), (1, .int (x))]) hx hb dX7_ifAllCome_19 rfl hl (by decide) rfl (fun ls hl => ?_)
    refine lv_aload_n hx hb dX7_ifAllCome_20 rfl (lv_at hl 0 rfl) ?_
    refine lv_ifnonnull (tgt := 27) hx hb dX7_ifAllCome_21 (by decide) ?_
    refine lv_aload_n hx hb dX7_ifAllCome_27 rfl (lv_at hl 1 rfl) ?_
    refine m_get (ci := 7) (C := RX7) (T := TX7) (N := 7) hx hb ht ui_X7 hown hK hM hX.AX hX.obj rfl 1 (by decide) (ht _ uw_276) rfl dX7_ifAllCome_28 ?_
    refine lv_iconst (v := 0) hx hb dX7_ifAllCome_31 (by first | rfl | decide) ?_
    refine lv_aload_n hx hb dX7_ifAllCome_32 rfl (lv_at hl 1 rfl) ?_
    refine m_get (ci := 7) (C := RX7) (T := TX7) (N := 7) hx hb ht ui_X7 hown hK hM hX.AX hX.obj rfl 1 (by decide) (ht _ uw_276) rfl dX7_ifAllCome_33 ?_
    refine m_callRI (val := lonC (cpyC t now n) n) (As := []) (rest := [.int (0), .ref (X + 36)]) ⟨hx, hb, hml, hown, ht⟩ (k_X6_longestWay l g A M (X + 36) πt (cpyC t now n) hT n hnT hn20) (cwV 0 ht (gU uw_538 uw_539 uw_540 uw_35 uw_541) rfl rfl rfl (by decide +kernel) ⟨by decide, by decide⟩) hK hM hS (m_recv hK hM hT.AW hT.W rfl) rfl hl.1 rfl (Nat.le_of_ble_eq_true rfl) dX7_ifAllCome_36 ⟨by decide, by decide⟩ (fun H locs hM hS => ?_)
    obtain ⟨q, hq, eq⟩ := nI_of (Int32.not_lt.mpr (lonC_0 (cpyC t now n) n))
    refine m_callI (As := [.int (0), .int (lonC (cpyC t now n) n)]) (rest := []) ⟨hx, hb, hml, hown, ht⟩ ((by have z := k_X6_passHours l g A M (X + 36) πt (cpyC t now n) 0 q hT ⟨n, hn20, hnT⟩ hq; rw [← eq] at z; exact z)) (cwV 2 ht (gU uw_356 uw_357 uw_358 uw_35 uw_359) rfl rfl rfl (by decide +kernel) ⟨by decide, by decide⟩) hK hM hS (m_recv hK hM hT.AW hT.W rfl) rfl hl.1 rfl (Nat.le_of_ble_eq_true rfl) dX7_ifAllCome_39 ⟨by decide, by decide⟩ (fun r9 M H locs hp hM hS => ?_)
    obtain ⟨-, ⟨πt, hV9⟩, hF9⟩ := hp
    have hX := hX.setT hV9 hF9
    have hT := hV9
    refine lv_pop hx hb dX7_ifAllCome_42 rfl ?_
    refine lv_aload_n hx hb dX7_ifAllCome_43 rfl (lv_at hl 0 rfl) ?_
    refine m_callRI (val := (pasC 0 (cpyC t now n) q).2.1 i 5 - (pasC 0 (cpyC t now n) q).2.1 i 8) (As := []) (rest := []) ⟨hx, hb, hml, hown, ht⟩ (k_X0_gap l g A M (X + 36) πt (pasC 0 (cpyC t now n) q) i hT hi) (cwV 0 ht (gU uw_494 uw_495 uw_496 uw_36 uw_497) rfl rfl rfl (by decide +kernel) ⟨by decide, by decide⟩) hK hM hS (m_recv hK hM (hT.AG hi) (hT.G hi) rfl) rfl hl.1 rfl (Nat.le_of_ble_eq_true rfl) dX7_ifAllCome_44 ⟨by decide, by decide⟩ (fun H locs hM hS => ?_)
    subst hQ
    exact m_zret hx hb hr (rfl) hlk hK hM hS dX7_ifAllCome_47 (⟨⟨t, by rw [hN]; unfold oIfAll; rw [e1, eq, nI_clamp hq]⟩, π, hX⟩)

set_option maxHeartbeats 4000000 in
set_option maxRecDepth 100000 in
/-- mostUntold -/
theorem k_X7_mostUntold (l : Launch) (g : GG) (A : Nat → Prop) (M0 : MM) (X : Nat) (now : VV) (hs : Nat → VV) (k : Nat) (sl : Nat → VV) (sv f : Nat → Int32) (L : Nat) (hR : RXS g A M0 M0 X (now, hs, k, sl, sv, f, L)) (hI : CI (now, hs, k, sl, sv, f, L))  : Met l yX7_mostUntold (Uw yX7_mostUntold cX7_mostUntold 5 (Option.some ClassFile.FieldType.int)) (rmD 1) (PreM [.ref (X)] g A M0) (PosI (fun r M1 => r = mosL now 6 ∧ M1 = M0) g A) 0 0 A := by
  refine mk_Met (own := RX7) rfl rfl (by decide) (Nat.le_of_ble_eq_true rfl) ?_
  intro p e s m below meth c ls aa Q haa hQ hx hb hr hlk hml hown hts hK hM hS hl hnm
  obtain ⟨M, hMM⟩ : ∃ M, M = M0 := ⟨_, rfl⟩
  rw [← hMM] at hM hR
  have ht : ∀ w ∈ lw_good, w.before _ s = true := fun w h => hts w (List.mem_cons_of_mem _ h)
  have hl : lv_has ls 5 [(0, .ref (X))] := hl
  obtain ⟨π, hX⟩ := hR
  have hX : RX g A M0 M X π now hs k sl sv f L := ⟨hX.1, by rw [hMM]; exact FrX.rf⟩
  obtain ⟨⟨n, hn20, hn⟩, hk6, hhs, hsl, hL, hch⟩ := id hI
  have hN : onN now = n := onN_eq hn hn20
  refine lv_iconst (v := 0) hx hb dX7_mostUntold_0 (by first | rfl | decide) ?_
  refine lv_istore_n (lv' := [(1, .int (0)), (0, .ref (X))]) hx hb dX7_mostUntold_1 rfl hl (by decide) rfl (fun ls hl => ?_)
  refine lv_ldc (v := (-1000006)) hx hb hown (ht _ uw_471) dX7_mostUntold_2 ?_
  refine lv_istore_n (lv' := [(2, .int ((-1000006))), (1, .int (0)), (0, .ref (X))]) hx hb dX7_mostUntold_4 rfl hl (by decide) rfl (fun ls hl => ?_)
  refine lv_iconst (v := 0) hx hb dX7_mostUntold_5 (by first | rfl | decide) ?_
  refine lv_istore_n (lv' := [(3, .int (0)), (2, .int ((-1000006))), (1, .int (0)), (0, .ref (X))]) hx hb dX7_mostUntold_6 rfl hl (by decide) rfl (fun ls hl => ?_)
  have loop_7 : ∀ (z_7 : Nat) (i : Nat) (a : Int32) (b : Int32) (H : Heap) (locs : List Loc) (ls : Array Slot), 6 - i < z_7 → i ≤ 6 → (a, b) = mosP now i → HD g A M H → va_S A s.heap H locs → lv_has ls 5 [(3, .int (nI i)), (2, .int (b)), (1, .int (a)), (0, .ref (X))] → W p l e (rmD 1) s m aa below meth c H locs 0 0 Q (F0 m 7 ls []) := by
    intro z_7
    induction z_7 with
    | zero => intro i a b H locs ls hz hi ha; exact absurd hz (Nat.not_lt_zero _)
    | succ z_7 ih_7 =>
    intro i a b H locs ls hz hi ha hM  hS hl
    refine lv_iload_n hx hb dX7_mostUntold_7 rfl (lv_at hl 0 rfl) ?_
    refine lv_bipush (v := 6) hx hb dX7_mostUntold_8 (by first | rfl | decide) ?_
    refine lv_icmp_ge (tgt := 44) hx hb dX7_mostUntold_10 (by decide) (fun c_10 => ?_) (fun c_10 => ?_)
    · have hi6 : i = 6 := Nat.le_antisymm hi (nI_le_of (by omega) (by decide) c_10)
      subst hi6
      refine lv_iload_n hx hb dX7_mostUntold_44 rfl (lv_at hl 1 rfl) ?_
      subst hQ
      exact m_zret hx hb hr (rfl) hlk hK hM hS dX7_mostUntold_45 (⟨by unfold mosL; rw [← ha], hMM⟩)
    · have hi6 : i < 6 := nI_lt_of (by omega) (by decide) c_10
      refine lv_aload_n hx hb dX7_mostUntold_13 rfl (lv_at hl 3 rfl) ?_
      refine m_get (ci := 7) (C := RX7) (T := TX7) (N := 7) hx hb ht ui_X7 hown hK hM hX.AX hX.obj rfl 0 (by decide) (ht _ uw_275) rfl dX7_mostUntold_14 ?_
      refine rv_getga hx hb ht ui_X6 hown hK hM hX.nowV (ht _ uw_197) dX7_mostUntold_17 ?_
      refine lv_iload_n hx hb dX7_mostUntold_20 rfl (lv_at hl 0 rfl) ?_
      refine rv_aldG hx hb hK hM hX.nowV (hi6) dX7_mostUntold_21 ?_
      refine m_callRI (val := now.2.1 i 5 - now.2.1 i 10) (As := []) (rest := []) ⟨hx, hb, hml, hown, ht⟩ (k_X0_untold l g A M (X + 1) π now i hX.nowV hi6) (cwV 0 ht (gU uw_525 uw_526 uw_527 uw_36 uw_528) rfl rfl rfl (by decide +kernel) ⟨by decide, by decide⟩) hK hM hS (m_recv hK hM (hX.nowV.AG hi6) (hX.nowV.G hi6) rfl) rfl hl.1 rfl (Nat.le_of_ble_eq_true rfl) dX7_mostUntold_22 ⟨by decide, by decide⟩ (fun H locs hM hS => ?_)
      refine lv_istore (lv' := [(4, .int (now.2.1 i 5 - now.2.1 i 10)), (3, .int (nI i)), (2, .int (b)), (1, .int (a)), (0, .ref (X))]) hx hb dX7_mostUntold_25 hl (by decide) rfl (fun ls hl => ?_)
      refine lv_iload hx hb dX7_mostUntold_27 (lv_at hl 0 rfl) ?_
      refine lv_iload_n hx hb dX7_mostUntold_29 rfl (lv_at hl 3 rfl) ?_
      refine lv_icmp_le (tgt := 38) hx hb dX7_mostUntold_30 (by decide) (fun c_30 => ?_) (fun c_30 => ?_)
      · refine lv_iinc (v := nI (i + 1)) (lv' := [(3, .int (nI (i + 1))), (4, .int (now.2.1 i 5 - now.2.1 i 10)), (2, .int (b)), (1, .int (a)), (0, .ref (X))]) hx hb dX7_mostUntold_38 hl (k := 1) rfl (nI_1 _) (by decide) rfl (fun ls hl => ?_)
        refine lv_goto (tgt := 7) hx hb dX7_mostUntold_41 (by decide) ?_
        exact ih_7 (i + 1) a b _ _ _ (by omega) (by omega) (by exact mos_n ha c_30) hM hS (lv_sub hl [0, 2, 3, 4] rfl)
      · refine lv_iload hx hb dX7_mostUntold_33 (lv_at hl 0 rfl) ?_
        refine lv_istore_n (lv' := [(1, .int (now.2.1 i 5 - now.2.1 i 10)), (4, .int (now.2.1 i 5 - now.2.1 i 10)), (3, .int (nI i)), (2, .int (b)), (0, .ref (X))]) hx hb dX7_mostUntold_35 rfl hl (by decide) rfl (fun ls hl => ?_)
        refine lv_iload_n hx hb dX7_mostUntold_36 rfl (lv_at hl 2 rfl) ?_
        refine lv_istore_n (lv' := [(2, .int (nI i)), (1, .int (now.2.1 i 5 - now.2.1 i 10)), (4, .int (now.2.1 i 5 - now.2.1 i 10)), (3, .int (nI i)), (0, .ref (X))]) hx hb dX7_mostUntold_37 rfl hl (by decide) rfl (fun ls hl => ?_)
        refine lv_iinc (v := nI (i + 1)) (lv' := [(3, .int (nI (i + 1))), (2, .int (nI i)), (1, .int (now.2.1 i 5 - now.2.1 i 10)), (4, .int (now.2.1 i 5 - now.2.1 i 10)), (0, .ref (X))]) hx hb dX7_mostUntold_38 hl (k := 3) rfl (nI_1 _) (by decide) rfl (fun ls hl => ?_)
        refine lv_goto (tgt := 7) hx hb dX7_mostUntold_41 (by decide) ?_
        exact ih_7 (i + 1) (now.2.1 i 5 - now.2.1 i 10) (nI i) _ _ _ (by omega) (by omega) (by exact mos_y ha c_30) hM hS (lv_sub hl [0, 1, 2, 4] rfl)
  exact loop_7 _ 0 0 (-1000006) _ _ _ (Nat.lt_succ_self _) (by omega) rfl hM hS (lv_sub hl [0, 1, 2, 3] rfl)

set_option maxHeartbeats 4000000 in
set_option maxRecDepth 100000 in
/-- wipe -/
theorem k_X7_wipe (l : Launch) (g : GG) (A : Nat → Prop) (M0 : MM) (X : Nat) (now : VV) (hs : Nat → VV) (k : Nat) (sl : Nat → VV) (sv f : Nat → Int32) (L : Nat) (hR : RXS g A M0 M0 X (now, hs, k, sl, sv, f, L)) (hI : CI (now, hs, k, sl, sv, f, L))  : Met l yX7_wipe (Uw yX7_wipe cX7_wipe 2 (Option.some ClassFile.FieldType.int)) (rmD 0) (PreM [.ref (X)] g A M0) (PosI (fun r M1 => r = (oWipe (now, hs, k, sl, sv, f, L)).1 ∧ RXS g A M0 M1 X (oWipe (now, hs, k, sl, sv, f, L)).2) g A) 0 0 A := by
  refine mk_Met (own := RX7) rfl rfl (by decide) (Nat.le_of_ble_eq_true rfl) ?_
  intro p e s m below meth c ls aa Q haa hQ hx hb hr hlk hml hown hts hK hM hS hl hnm
  obtain ⟨M, hMM⟩ : ∃ M, M = M0 := ⟨_, rfl⟩
  rw [← hMM] at hM hR
  have ht : ∀ w ∈ lw_good, w.before _ s = true := fun w h => hts w (List.mem_cons_of_mem _ h)
  have hl : lv_has ls 2 [(0, .ref (X))] := hl
  obtain ⟨π, hX⟩ := hR
  have hX : RX g A M0 M X π now hs k sl sv f L := ⟨hX.1, by rw [hMM]; exact FrX.rf⟩
  obtain ⟨⟨n, hn20, hn⟩, hk6, hhs, hsl, hL, hch⟩ := id hI
  have hN : onN now = n := onN_eq hn hn20
  refine lv_aload_n hx hb dX7_wipe_0 rfl (lv_at hl 0 rfl) ?_
  obtain ⟨rs, hTx⟩ := hX.txt
  refine m_get (ci := 7) (C := RX7) (T := TX7) (N := 7) hx hb ht ui_X7 hown hK hM hX.AX hX.obj rfl 5 (by decide) (ht _ uw_280) rfl dX7_wipe_1 ?_
  refine rt_getPl hx hb ht ui_X3 hown hK hM hTx (ht _ uw_238) dX7_wipe_4 ?_
  refine lv_istore_n (lv' := [(1, .int (nI L)), (0, .ref (X))]) hx hb dX7_wipe_7 rfl hl (by decide) rfl (fun ls hl => ?_)
  refine lv_aload_n hx hb dX7_wipe_8 rfl (lv_at hl 1 rfl) ?_
  refine m_get (ci := 7) (C := RX7) (T := TX7) (N := 7) hx hb ht ui_X7 hown hK hM hX.AX hX.obj rfl 5 (by decide) (ht _ uw_280) rfl dX7_wipe_9 ?_
  refine lv_iconst (v := 0) hx hb dX7_wipe_12 (by first | rfl | decide) ?_
  refine rt_putPl hx hb ht ui_X3 hown hK hM hS hTx FrT.rf (ht _ uw_238) dX7_wipe_13 (fun M H locs hM hT9 hF9 hS => ?_)
  have hX := hX.setX (L1 := 0) hT9 hF9
  refine lv_iload_n hx hb dX7_wipe_16 rfl (lv_at hl 0 rfl) ?_
  subst hQ
  exact m_zret hx hb hr (rfl) hlk hK hM hS dX7_wipe_17 (⟨rfl, π, hX⟩)

set_option maxHeartbeats 4000000 in
set_option maxRecDepth 100000 in
/-- fault -/
theorem k_X7_fault (l : Launch) (g : GG) (A : Nat → Prop) (M0 : MM) (X : Nat) (now : VV) (hs : Nat → VV) (k : Nat) (sl : Nat → VV) (sv f : Nat → Int32) (L : Nat) (hR : RXS g A M0 M0 X (now, hs, k, sl, sv, f, L)) (hI : CI (now, hs, k, sl, sv, f, L))  : Met l yX7_fault (Uw yX7_fault cX7_fault 1 (Option.some ClassFile.FieldType.int)) (rmD 6) (PreM [.ref (X)] g A M0) (PosI (fun r M1 => r = (oFault (now, hs, k, sl, sv, f, L)).1 ∧ RXS g A M0 M1 X (oFault (now, hs, k, sl, sv, f, L)).2) g A) 0 0 A := by
  refine mk_Met (own := RX7) rfl rfl (by decide) (Nat.le_of_ble_eq_true rfl) ?_
  intro p e s m below meth c ls aa Q haa hQ hx hb hr hlk hml hown hts hK hM hS hl hnm
  obtain ⟨M, hMM⟩ : ∃ M, M = M0 := ⟨_, rfl⟩
  rw [← hMM] at hM hR
  have ht : ∀ w ∈ lw_good, w.before _ s = true := fun w h => hts w (List.mem_cons_of_mem _ h)
  have hl : lv_has ls 1 [(0, .ref (X))] := hl
  obtain ⟨π, hX⟩ := hR
  have hX : RX g A M0 M X π now hs k sl sv f L := ⟨hX.1, by rw [hMM]; exact FrX.rf⟩
  obtain ⟨⟨n, hn20, hn⟩, hk6, hhs, hsl, hL, hch⟩ := id hI
  have hN : onN now = n := onN_eq hn hn20
  refine lv_aload_n hx hb dX7_fault_0 rfl (lv_at hl 0 rfl) ?_
  obtain ⟨rs, hTx⟩ := hX.txt
  refine m_get (ci := 7) (C := RX7) (T := TX7) (N := 7) hx hb ht ui_X7 hown hK hM hX.AX hX.obj rfl 6 (by decide) (ht _ uw_281) rfl dX7_fault_1 ?_
  refine m_callI (As := []) (rest := []) ⟨hx, hb, hml, hown, ht⟩ (k_X2_findFault l g A M (X + 285) f L rs hTx hL hch) (cwV 0 ht (gU uw_433 uw_434 uw_435 uw_41 uw_436) rfl rfl rfl (by decide +kernel) ⟨by decide, by decide⟩) hK hM hS (m_recv hK hM hTx.2.2.1 hTx.2.2.2.2.2 rfl) rfl hl.1 rfl (Nat.le_of_ble_eq_true rfl) dX7_fault_4 ⟨by decide, by decide⟩ (fun r9 M H locs hp hM hS => ?_)
  obtain ⟨e9, rs9, hT9, hF9⟩ := hp
  have hX := hX.setX hT9 hF9
  have hTx := hT9
  subst hQ
  exact m_zret hx hb hr (rfl) hlk hK hM hS dX7_fault_7 (⟨e9, π, hX⟩)

set_option maxHeartbeats 4000000 in
set_option maxRecDepth 100000 in
/-- undo -/
theorem k_X7_undo (l : Launch) (g : GG) (A : Nat → Prop) (M0 : MM) (X : Nat) (now : VV) (hs : Nat → VV) (k : Nat) (sl : Nat → VV) (sv f : Nat → Int32) (L : Nat) (hR : RXS g A M0 M0 X (now, hs, k, sl, sv, f, L)) (hI : CI (now, hs, k, sl, sv, f, L))  : Met l yX7_undo (Uw yX7_undo cX7_undo 1 (Option.some ClassFile.FieldType.int)) (rmD 4) (PreM [.ref (X)] g A M0) (PosI (fun r M1 => r = (oUndo (now, hs, k, sl, sv, f, L)).1 ∧ RXS g A M0 M1 X (oUndo (now, hs, k, sl, sv, f, L)).2) g A) 0 0 A := by
  refine mk_Met (own := RX7) rfl rfl (by decide) (Nat.le_of_ble_eq_true rfl) ?_
  intro p e s m below meth c ls aa Q haa hQ hx hb hr hlk hml hown hts hK hM hS hl hnm
  obtain ⟨M, hMM⟩ : ∃ M, M = M0 := ⟨_, rfl⟩
  rw [← hMM] at hM hR
  have ht : ∀ w ∈ lw_good, w.before _ s = true := fun w h => hts w (List.mem_cons_of_mem _ h)
  have hl : lv_has ls 1 [(0, .ref (X))] := hl
  obtain ⟨π, hX⟩ := hR
  have hX : RX g A M0 M X π now hs k sl sv f L := ⟨hX.1, by rw [hMM]; exact FrX.rf⟩
  obtain ⟨⟨n, hn20, hn⟩, hk6, hhs, hsl, hL, hch⟩ := id hI
  have hN : onN now = n := onN_eq hn hn20
  by_cases hk0 : k = 0
  · subst hk0
    refine lv_aload_n hx hb dX7_undo_0 rfl (lv_at hl 0 rfl) ?_
    obtain ⟨ρ8, πs8, hH8⟩ := hX.his
    refine m_get (ci := 7) (C := RX7) (T := TX7) (N := 7) hx hb ht ui_X7 hown hK hM hX.AX hX.obj rfl 2 (by decide) (ht _ uw_277) rfl dX7_undo_1 ?_
    refine lv_aload_n hx hb dX7_undo_4 rfl (lv_at hl 0 rfl) ?_
    refine m_get (ci := 7) (C := RX7) (T := TX7) (N := 7) hx hb ht ui_X7 hown hK hM hX.AX hX.obj rfl 0 (by decide) (ht _ uw_275) rfl dX7_undo_5 ?_
    refine m_callI (As := [.ref (X + 1)]) (rest := []) ⟨hx, hb, hml, hown, ht⟩ (k_X1_takeBack_0 l g A M (X + 71) ρ8 πs8 hs (nI 0) hH8 (X + 1) rfl) (cwV 1 ht (gU uw_575 uw_576 uw_577 uw_39 uw_578) rfl rfl rfl (by decide +kernel) ⟨by decide, by decide⟩) hK hM hS (m_recv hK hM hH8.1 hH8.2.2.2.1 rfl) rfl hl.1 rfl (Nat.le_of_ble_eq_true rfl) dX7_undo_8 ⟨by decide, by decide⟩ (fun r9 M H locs hp hM hS => ?_)
    obtain ⟨e9, e8⟩ := hp
    subst e9
    rw [e8] at hM
    refine lv_if_eq (tgt := 24) hx hb dX7_undo_11 (by decide) (fun c_11 => ?_) (fun c_11 => absurd (rfl) c_11)
    refine lv_ldc (v := (-1000005)) hx hb hown (ht _ uw_579) dX7_undo_24 ?_
    subst hQ
    exact m_zret hx hb hr (rfl) hlk hK hM hS dX7_undo_26 (⟨rfl, π, hX⟩)
  · obtain ⟨k9, rfl⟩ : ∃ k9, k = k9 + 1 := ⟨k - 1, by omega⟩
    obtain ⟨hn9, hn29⟩ := (hhs k9 (by have z : k9 + 1 ≤ 6 := hk6; omega)).eq
    refine lv_aload_n hx hb dX7_undo_0 rfl (lv_at hl 0 rfl) ?_
    obtain ⟨ρ8, πs8, hH8⟩ := hX.his
    refine m_get (ci := 7) (C := RX7) (T := TX7) (N := 7) hx hb ht ui_X7 hown hK hM hX.AX hX.obj rfl 2 (by decide) (ht _ uw_277) rfl dX7_undo_1 ?_
    refine lv_aload_n hx hb dX7_undo_4 rfl (lv_at hl 0 rfl) ?_
    refine m_get (ci := 7) (C := RX7) (T := TX7) (N := 7) hx hb ht ui_X7 hown hK hM hX.AX hX.obj rfl 0 (by decide) (ht _ uw_275) rfl dX7_undo_5 ?_
    refine m_callI (As := [.ref (X + 1)]) (rest := []) ⟨hx, hb, hml, hown, ht⟩ (k_X1_takeBack l g A M (X + 71) ρ8 πs8 hs (nI (k9 + 1)) hH8 (X + 1) π now (onN (hs k9)) hX.nowV (by omega) k9 rfl hk6 hn9 hn29) (cwV 1 ht (gU uw_575 uw_576 uw_577 uw_39 uw_578) rfl rfl rfl (by decide +kernel) ⟨by decide, by decide⟩) hK hM hS (m_recv hK hM hH8.1 hH8.2.2.2.1 rfl) rfl hl.1 rfl (Nat.le_of_ble_eq_true rfl) dX7_undo_8 ⟨by decide, by decide⟩ (fun r9 M H locs hp hM hS => ?_)
    obtain ⟨e9, hH9, hV9, hF9⟩ := hp
    subst e9
    have hX := hX.setHN hH9 hV9 hF9
    refine lv_if_eq (tgt := 24) hx hb dX7_undo_11 (by decide) (fun c_11 => absurd c_11 (by decide)) (fun c_11 => ?_)
    refine lv_aload_n hx hb dX7_undo_14 rfl (lv_at hl 0 rfl) ?_
    refine m_get (ci := 7) (C := RX7) (T := TX7) (N := 7) hx hb ht ui_X7 hown hK hM hX.AX hX.obj rfl 2 (by decide) (ht _ uw_277) rfl dX7_undo_15 ?_
    obtain ⟨ρ9, πs9, hH9⟩ := hX.his
    refine rh_getSz hx hb ht ui_X1 hown hK hM hH9 (ht _ uw_223) dX7_undo_18 ?_
    refine lv_goto (tgt := 26) hx hb dX7_undo_21 (by decide) ?_
    subst hQ
    exact m_zret hx hb hr (rfl) hlk hK hM hS dX7_undo_26 (⟨rfl, π, hX⟩)

set_option maxHeartbeats 4000000 in
set_option maxRecDepth 100000 in
/-- save -/
theorem k_X7_save (l : Launch) (g : GG) (A : Nat → Prop) (M0 : MM) (X : Nat) (now : VV) (hs : Nat → VV) (k : Nat) (sl : Nat → VV) (sv f : Nat → Int32) (L : Nat) (hR : RXS g A M0 M0 X (now, hs, k, sl, sv, f, L)) (hI : CI (now, hs, k, sl, sv, f, L)) (x : Int32)  : Met l yX7_save (Uw yX7_save cX7_save 2 (Option.some ClassFile.FieldType.int)) (rmD 3) (PreM [.ref (X), .int (x)] g A M0) (PosI (fun r M1 => r = (oSave (now, hs, k, sl, sv, f, L) x).1 ∧ RXS g A M0 M1 X (oSave (now, hs, k, sl, sv, f, L) x).2) g A) 0 0 A := by
  refine mk_Met (own := RX7) rfl rfl (by decide) (Nat.le_of_ble_eq_true rfl) ?_
  intro p e s m below meth c ls aa Q haa hQ hx hb hr hlk hml hown hts hK hM hS hl hnm
  obtain ⟨M, hMM⟩ : ∃ M, M = M0 := ⟨_, rfl⟩
  rw [← hMM] at hM hR
  have ht : ∀ w ∈ lw_good, w.before _ s = true := fun w h => hts w (List.mem_cons_of_mem _ h)
  have hl : lv_has ls 2 [(0, .ref (X)), (1, .int (x))] := hl
  obtain ⟨π, hX⟩ := hR
  have hX : RX g A M0 M X π now hs k sl sv f L := ⟨hX.1, by rw [hMM]; exact FrX.rf⟩
  obtain ⟨⟨n, hn20, hn⟩, hk6, hhs, hsl, hL, hch⟩ := id hI
  have hN : onN now = n := onN_eq hn hn20
  refine lv_iload_n hx hb dX7_save_0 rfl (lv_at hl 1 rfl) ?_
  refine lv_iconst (v := 0) hx hb dX7_save_1 (by first | rfl | decide) ?_
  refine lv_iconst (v := 1) hx hb dX7_save_2 (by first | rfl | decide) ?_
  refine m_callRSI (val := winC (x) (0) (1)) (As := [.int (x), .int (0), .int (1)]) (rest := []) ⟨hx, hb, hml, hown, ht⟩ (k_X7_within l g A M (x) (0) (1)) (cwS 3 ht (gUS uw_301 uw_302 uw_34 uw_303) rfl rfl rfl (by decide +kernel) ⟨by decide, by decide⟩) hK hM hS rfl hl.1 rfl (Nat.le_of_ble_eq_true rfl) dX7_save_3 ⟨by decide, by decide⟩ (fun H locs hM hS => ?_)
  refine lv_if_ne (tgt := 12) hx hb dX7_save_6 (by decide) (fun c_6 => ?_) (fun c_6 => ?_)
  · obtain ⟨hw1, hw2⟩ := win_of c_6
    obtain ⟨i, hi9, ei, ec⟩ := clampQ (hi := 1) (n := 1) hw1 hw2 rfl (by decide)
    have hi : i < 2 := by omega
    subst ei
    refine lv_aload_n hx hb dX7_save_12 rfl (lv_at hl 0 rfl) ?_
    refine m_get (ci := 7) (C := RX7) (T := TX7) (N := 7) hx hb ht ui_X7 hown hK hM hX.AX hX.obj rfl 3 (by decide) (ht _ uw_278) rfl dX7_save_13 ?_
    refine lv_iload_n hx hb dX7_save_16 rfl (lv_at hl 1 rfl) ?_
    refine m_aald hx hb hK hM hX.1.2.1 5 hX.1.2.2.2.2.1 rfl (vp_in_nI hi (by omega)) (r := .ref (X + 288 + 35 * i)) (by rw [nI_clamp (by omega)]; rfl) dX7_save_17 ?_
    obtain ⟨πi, hSl⟩ := hX.slo hi
    refine lv_aload_n hx hb dX7_save_18 rfl (lv_at hl 0 rfl) ?_
    refine m_get (ci := 7) (C := RX7) (T := TX7) (N := 7) hx hb ht ui_X7 hown hK hM hX.AX hX.obj rfl 0 (by decide) (ht _ uw_275) rfl dX7_save_19 ?_
    refine m_callV (As := [.ref (X + 1)]) (rest := []) ⟨hx, hb, hml, hown, ht⟩ (k_X6_copyFrom l g A M (X + 288 + 35 * i) πi (sl i) (X + 1) π now n hSl hX.nowV (by omega) hn hn20) (cwV 1 ht (gU uw_524 uw_313 uw_314 uw_35 uw_315) rfl rfl rfl (by decide +kernel) ⟨by decide, by decide⟩) hK hM hS (m_recv hK hM hSl.AW hSl.W rfl) rfl hl.1 rfl (Nat.le_of_ble_eq_true rfl) dX7_save_22 ⟨by decide, by decide⟩ (fun M H locs hp hM hS => ?_)
    obtain ⟨hV9, hF9⟩ := hp
    have hX := hX.setS hi hV9 hF9
    refine lv_aload_n hx hb dX7_save_25 rfl (lv_at hl 0 rfl) ?_
    refine m_get (ci := 7) (C := RX7) (T := TX7) (N := 7) hx hb ht ui_X7 hown hK hM hX.AX hX.obj rfl 4 (by decide) (ht _ uw_279) rfl dX7_save_26 ?_
    refine lv_iload_n hx hb dX7_save_29 rfl (lv_at hl 1 rfl) ?_
    refine lv_iconst (v := 1) hx hb dX7_save_30 (by first | rfl | decide) ?_
    refine m_zast hx hb hK hM hS hX.1.2.2.1 hX.1.2.2.2.2.2.1 (vp_in_nI hi (by omega)) dX7_save_31 (fun H locs hM hS => ?_)
    rw [nI_clamp (show i < 2 ^ 31 by omega)] at hM
    have hX := hX.setSv (sv1 := upd sv i (vp_nar .boolean 1))
    refine lv_aload_n hx hb dX7_save_32 rfl (lv_at hl 0 rfl) ?_
    refine m_get (ci := 7) (C := RX7) (T := TX7) (N := 7) hx hb ht ui_X7 hown hK hM hX.AX hX.obj rfl 0 (by decide) (ht _ uw_275) rfl dX7_save_33 ?_
    refine rv_getW hx hb ht ui_X6 hown hK hM hX.nowV 2 (by decide) (ht _ uw_193) dX7_save_36 ?_
    subst hQ
    exact m_zret hx hb hr (rfl) hlk hK hM hS dX7_save_39 (by unfold oSave; rw [if_neg c_6]; dsimp only; rw [ec, hN]; exact ⟨rfl, π, hX⟩)
  · refine lv_ldc (v := (-1000002)) hx hb hown (ht _ uw_340) dX7_save_9 ?_
    subst hQ
    exact m_zret hx hb hr (rfl) hlk hK hM hS dX7_save_11 (by unfold oSave; rw [if_pos c_6]; exact ⟨rfl, π, hX⟩)

set_option maxHeartbeats 4000000 in
set_option maxRecDepth 100000 in
/-- restore -/
theorem k_X7_restore (l : Launch) (g : GG) (A : Nat → Prop) (M0 : MM) (X : Nat) (now : VV) (hs : Nat → VV) (k : Nat) (sl : Nat → VV) (sv f : Nat → Int32) (L : Nat) (hR : RXS g A M0 M0 X (now, hs, k, sl, sv, f, L)) (hI : CI (now, hs, k, sl, sv, f, L)) (x : Int32)  : Met l yX7_restore (Uw yX7_restore cX7_restore 2 (Option.some ClassFile.FieldType.int)) (rmD 4) (PreM [.ref (X), .int (x)] g A M0) (PosI (fun r M1 => r = (oRestore (now, hs, k, sl, sv, f, L) x).1 ∧ RXS g A M0 M1 X (oRestore (now, hs, k, sl, sv, f, L) x).2) g A) 0 0 A := by
  refine mk_Met (own := RX7) rfl rfl (by decide) (Nat.le_of_ble_eq_true rfl) ?_
  intro p e s m below meth c ls aa Q haa hQ hx hb hr hlk hml hown hts hK hM hS hl hnm
  obtain ⟨M, hMM⟩ : ∃ M, M = M0 := ⟨_, rfl⟩
  rw [← hMM] at hM hR
  have ht : ∀ w ∈ lw_good, w.before _ s = true := fun w h => hts w (List.mem_cons_of_mem _ h)
  have hl : lv_has ls 2 [(0, .ref (X)), (1, .int (x))] := hl
  obtain ⟨π, hX⟩ := hR
  have hX : RX g A M0 M X π now hs k sl sv f L := ⟨hX.1, by rw [hMM]; exact FrX.rf⟩
  obtain ⟨⟨n, hn20, hn⟩, hk6, hhs, hsl, hL, hch⟩ := id hI
  have hN : onN now = n := onN_eq hn hn20
  refine lv_iload_n hx hb dX7_restore_0 rfl (lv_at hl 1 rfl) ?_
  refine lv_iconst (v := 0) hx hb dX7_restore_1 (by first | rfl | decide) ?_
  refine lv_iconst (v := 1) hx hb dX7_restore_2 (by first | rfl | decide) ?_
  refine m_callRSI (val := winC (x) (0) (1)) (As := [.int (x), .int (0), .int (1)]) (rest := []) ⟨hx, hb, hml, hown, ht⟩ (k_X7_within l g A M (x) (0) (1)) (cwS 3 ht (gUS uw_301 uw_302 uw_34 uw_303) rfl rfl rfl (by decide +kernel) ⟨by decide, by decide⟩) hK hM hS rfl hl.1 rfl (Nat.le_of_ble_eq_true rfl) dX7_restore_3 ⟨by decide, by decide⟩ (fun H locs hM hS => ?_)
  refine lv_if_ne (tgt := 12) hx hb dX7_restore_6 (by decide) (fun c_6 => ?_) (fun c_6 => ?_)
  · obtain ⟨hw1, hw2⟩ := win_of c_6
    obtain ⟨i, hi9, ei, ec⟩ := clampQ (hi := 1) (n := 1) hw1 hw2 rfl (by decide)
    have hi : i < 2 := by omega
    subst ei
    refine lv_aload_n hx hb dX7_restore_12 rfl (lv_at hl 0 rfl) ?_
    refine m_get (ci := 7) (C := RX7) (T := TX7) (N := 7) hx hb ht ui_X7 hown hK hM hX.AX hX.obj rfl 4 (by decide) (ht _ uw_279) rfl dX7_restore_13 ?_
    refine lv_iload_n hx hb dX7_restore_16 rfl (lv_at hl 1 rfl) ?_
    refine m_zald hx hb hK hM hX.1.2.2.1 hX.1.2.2.2.2.2.1 (vp_in_nI hi (by omega)) dX7_restore_17 ?_
    rw [nI_clamp (show i < 2 ^ 31 by omega)]
    refine lv_if_ne (tgt := 24) hx hb dX7_restore_18 (by decide) (fun c_18 => ?_) (fun c_18 => ?_)
    · refine lv_aload_n hx hb dX7_restore_24 rfl (lv_at hl 0 rfl) ?_
      refine m_get (ci := 7) (C := RX7) (T := TX7) (N := 7) hx hb ht ui_X7 hown hK hM hX.AX hX.obj rfl 2 (by decide) (ht _ uw_277) rfl dX7_restore_25 ?_
      refine lv_aload_n hx hb dX7_restore_28 rfl (lv_at hl 0 rfl) ?_
      refine m_get (ci := 7) (C := RX7) (T := TX7) (N := 7) hx hb ht ui_X7 hown hK hM hX.AX hX.obj rfl 0 (by decide) (ht _ uw_275) rfl dX7_restore_29 ?_
      obtain ⟨ρ8, πs8, hH8⟩ := hX.his
      refine m_callV (As := [.ref (X + 1)]) (rest := []) ⟨hx, hb, hml, hown, ht⟩ (k_X1_record l g A M (X + 71) ρ8 πs8 hs (nI k) hH8 (X + 1) π now n hX.nowV (by omega) k rfl hk6 hn hn20) (cwV 1 ht (gU uw_304 uw_305 uw_306 uw_39 uw_307) rfl rfl rfl (by decide +kernel) ⟨by decide, by decide⟩) hK hM hS (m_recv hK hM hH8.1 hH8.2.2.2.1 rfl) rfl hl.1 rfl (Nat.le_of_ble_eq_true rfl) dX7_restore_32 ⟨by decide, by decide⟩ (fun M H locs hp hM hS => ?_)
      obtain ⟨⟨ρ7, πs7, hH7⟩, hF7⟩ := hp
      have hX := hX.setH hH7 hF7
      refine lv_aload_n hx hb dX7_restore_35 rfl (lv_at hl 0 rfl) ?_
      refine m_get (ci := 7) (C := RX7) (T := TX7) (N := 7) hx hb ht ui_X7 hown hK hM hX.AX hX.obj rfl 0 (by decide) (ht _ uw_275) rfl dX7_restore_36 ?_
      refine lv_aload_n hx hb dX7_restore_39 rfl (lv_at hl 0 rfl) ?_
      refine m_get (ci := 7) (C := RX7) (T := TX7) (N := 7) hx hb ht ui_X7 hown hK hM hX.AX hX.obj rfl 3 (by decide) (ht _ uw_278) rfl dX7_restore_40 ?_
      refine lv_iload_n hx hb dX7_restore_43 rfl (lv_at hl 1 rfl) ?_
      refine m_aald hx hb hK hM hX.1.2.1 5 hX.1.2.2.2.2.1 rfl (vp_in_nI hi (by omega)) (r := .ref (X + 288 + 35 * i)) (by rw [nI_clamp (by omega)]; rfl) dX7_restore_44 ?_
      obtain ⟨πi, hSl⟩ := hX.slo hi
      obtain ⟨hn9, hn29⟩ := (hsl i hi).eq
      refine m_callV (As := [.ref (X + 288 + 35 * i)]) (rest := []) ⟨hx, hb, hml, hown, ht⟩ (k_X6_copyFrom l g A M (X + 1) π now (X + 288 + 35 * i) πi (sl i) (onN (sl i)) hX.nowV hSl (by omega) hn9 hn29) (cwV 1 ht (gU uw_524 uw_313 uw_314 uw_35 uw_315) rfl rfl rfl (by decide +kernel) ⟨by decide, by decide⟩) hK hM hS (m_recv hK hM hX.nowV.AW hX.nowV.W rfl) rfl hl.1 rfl (Nat.le_of_ble_eq_true rfl) dX7_restore_45 ⟨by decide, by decide⟩ (fun M H locs hp hM hS => ?_)
      obtain ⟨hV9, hF9⟩ := hp
      have hX := hX.setN hV9 hF9
      refine lv_aload_n hx hb dX7_restore_48 rfl (lv_at hl 0 rfl) ?_
      refine m_get (ci := 7) (C := RX7) (T := TX7) (N := 7) hx hb ht ui_X7 hown hK hM hX.AX hX.obj rfl 0 (by decide) (ht _ uw_275) rfl dX7_restore_49 ?_
      refine rv_getW hx hb ht ui_X6 hown hK hM hX.nowV 2 (by decide) (ht _ uw_193) dX7_restore_52 ?_
      subst hQ
      exact m_zret hx hb hr (rfl) hlk hK hM hS dX7_restore_55 (by unfold oRestore; rw [if_neg c_6]; dsimp only; rw [ec, if_neg c_18]; rw [← hN] at hX; exact ⟨rfl, π, hX⟩)
    · refine lv_ldc (v := (-1000005)) hx hb hown (ht _ uw_579) dX7_restore_21 ?_
      subst hQ
      exact m_zret hx hb hr (rfl) hlk hK hM hS dX7_restore_23 (by unfold oRestore; rw [if_neg c_6]; dsimp only; rw [ec, if_pos c_18]; exact ⟨rfl, π, hX⟩)
  · refine lv_ldc (v := (-1000002)) hx hb hown (ht _ uw_340) dX7_restore_9 ?_
    subst hQ
    exact m_zret hx hb hr (rfl) hlk hK hM hS dX7_restore_11 (by unfold oRestore; rw [if_pos c_6]; exact ⟨rfl, π, hX⟩)
end
section
def putF (x : Int64) (q : Nat) (f : Nat → Int32) (L : Nat) : Nat → Nat → Int32
  | 0 => f
  | b + 1 => va_up (putF x q f L b) (L + b) (vp_nar .char ((codC x (nI (q - 1 - b))).toUInt32 % 65536).toInt32)
theorem putF_s {x : Int64} {q : Nat} {f : Nat → Int32} {L b r : Nat} (h : r = q - 1 - b) : putF x q f L (b + 1) = va_up (putF x q f L b) (L + b) (vp_nar .char ((codC x (nI r)).toUInt32 % 65536).toInt32) := by
  subst h
  rfl
def oPut (c : CS) (x : Int64) : Int32 × CS := if chC x = 0 then (-1000002, c) else if ¬ nI c.2.2.2.2.2.2 + chC x ≤ 60 then (-1000004, c) else
  (nI (c.2.2.2.2.2.2 + (chC x).toNatClampNeg), c.1, c.2.1, c.2.2.1, c.2.2.2.1, c.2.2.2.2.1, putF x (chC x).toNatClampNeg c.2.2.2.2.2.1 c.2.2.2.2.2.2 (chC x).toNatClampNeg, c.2.2.2.2.2.2 + (chC x).toNatClampNeg)
theorem chC_q (x : Int64) : ∃ q, q ≤ 8 ∧ chC x = nI q := by
  unfold chC
  split
  · exact ⟨0, by omega, rfl⟩
  · rename_i p h
    have := chW_le x 8 0 p h
    split
    · exact ⟨p, by omega, rfl⟩
    · exact ⟨0, by omega, rfl⟩
def obeS (v : VV) (i : Nat) : Int32 × VV := if onN v < 20 then (if whC (senC v i (onN v)) ((senC v i (onN v)).2.1 i 5) < 0 then 0 else 1, senC v i (onN v)) else (0, v)
theorem obeS_a {v : VV} {i n : Nat} (hN : onN v = n) (h : n < 20) : obeS v i = (if whC (senC v i n) ((senC v i n).2.1 i 5) < 0 then 0 else 1, senC v i n) := by unfold obeS; rw [hN, if_pos h]
theorem obeS_b {v : VV} {i n : Nat} (hN : onN v = n) (h : ¬ n < 20) : obeS v i = (0, v) := by unfold obeS; rw [hN, if_neg h]
def obeR (v : VV) (x y : Int32) : Int32 × VV := if ¬ v.1 2 + y ≤ 9999 then (0, v) else (1, pasC x v y.toNatClampNeg)
def obeV (v : VV) (o : Bool × Nat × Int32 × Int32 × Int32) : Int32 × VV := if o.2.2.1 = 115 then obeS v o.2.2.2.1.toNatClampNeg else obeR v o.2.2.2.1 o.2.2.2.2
def runL (f : Nat → Int32) (L : Nat) : Nat → Nat → Int32 → VV → Int32 × VV
  | 0, _, d, v => (d, v)
  | z + 1, q, d, v => if (ordC f L q).1 = true then runL f L z ((ordC f L q).2.1 + 1) (if (obeV v (ordC f L q)).1 = 0 then d else d + 1) (obeV v (ordC f L q)).2 else (d, v)
def oRun (c : CS) : Int32 × CS := match fauC c.2.2.2.2.2.1 c.2.2.2.2.2.2 60 0 with
  | some _ => (-1000003, c)
  | none =>
    let r := runL c.2.2.2.2.2.1 c.2.2.2.2.2.2 60 0 0 c.1
    (r.1, r.2, recV c.2.2.1 c.2.1 c.1 (onN c.1), recK c.2.2.1, c.2.2.2.1, c.2.2.2.2.1, c.2.2.2.2.2.1, 0)
theorem oRun_b {c : CS} (h : ¬ fauC c.2.2.2.2.2.1 c.2.2.2.2.2.2 60 0 = none) : oRun c = (-1000003, c) := by
  unfold oRun
  split
  · rfl
  · rename_i z; exact absurd z h
theorem oRun_y {c : CS} (h : fauC c.2.2.2.2.2.1 c.2.2.2.2.2.2 60 0 = none) {d : Int32} {v : VV} (h2 : runL c.2.2.2.2.2.1 c.2.2.2.2.2.2 60 0 0 c.1 = (d, v)) : oRun c = (d, v, recV c.2.2.1 c.2.1 c.1 (onN c.1), recK c.2.2.1, c.2.2.2.1, c.2.2.2.2.1, c.2.2.2.2.2.1, 0) := by
  unfold oRun
  rw [h, h2]
theorem fauC_b (f : Nat → Int32) (L : Nat) : ∀ (z q r : Nat), fauC f L z q = some r → r ≤ q + 7 * z + 7 := by
  intro z
  induction z with
  | zero => intro q r h; cases h; omega
  | succ z ih =>
    intro q r h
    have h6 := ordC_q f L q
    unfold fauC at h
    split at h
    · split at h
      · cases h
      · split at h
        · have := ih _ _ h; omega
        · cases h; omega
    · cases h; omega
theorem fau_none {f : Nat → Int32} {L : Nat} (h : (match fauC f L 60 0 with | none => -1000006 | some q => nI q) = (-1000006 : Int32)) : fauC f L 60 0 = none := by
  cases e : fauC f L 60 0 with
  | none => rfl
  | some q =>
    rw [e] at h
    have hb := fauC_b f L 60 0 q e
    exfalso
    have h2 : ¬ nI q < 0 := nI_pos (by omega)
    rw [show nI q = -1000006 from h] at h2
    exact h2 (by decide)
theorem run_s {f : Nat → Int32} {L o q : Nat} {d : Int32} {v : VV} (ho : o < 60) : runL f L (60 - o) q d v = if (ordC f L q).1 = true then runL f L (60 - (o + 1)) ((ordC f L q).2.1 + 1) (if (obeV v (ordC f L q)).1 = 0 then d else d + 1) (obeV v (ordC f L q)).2 else (d, v) := by
  rw [show 60 - o = (60 - (o + 1)) + 1 by omega]
  rfl
theorem run_0 {f : Nat → Int32} {L o q : Nat} {d : Int32} {v : VV} (h : 60 ≤ o) (h2 : o ≤ 60) : runL f L (60 - o) q d v = (d, v) := by
  rw [show 60 - o = 0 by omega]
  rfl
theorem run_1 {f : Nat → Int32} {L o q : Nat} {d : Int32} {v : VV} (h : o < 60) (ok : ¬ (ordC f L q).1 = true) : runL f L (60 - o) q d v = (d, v) := by rw [run_s h, if_neg ok]
theorem run_y {f : Nat → Int32} {L o q : Nat} {d : Int32} {v : VV} (h : o < 60) (ok : (ordC f L q).1 = true) (c : ¬ (obeV v (ordC f L q)).1 = 0) : runL f L (60 - (o + 1)) ((ordC f L q).2.1 + 1) (d + 1) (obeV v (ordC f L q)).2 = runL f L (60 - o) q d v := by rw [run_s h, if_pos ok, if_neg c]
theorem run_n {f : Nat → Int32} {L o q : Nat} {d : Int32} {v : VV} (h : o < 60) (ok : (ordC f L q).1 = true) (c : (obeV v (ordC f L q)).1 = 0) : runL f L (60 - (o + 1)) ((ordC f L q).2.1 + 1) d (obeV v (ordC f L q)).2 = runL f L (60 - o) q d v := by rw [run_s h, if_pos ok, if_pos c]
theorem rnC_rng {f : Nat → Int32} {L q : Nat} {lo hi : Int32} (h : 0 ≤ (rnC f L q lo hi).1) (hh : 0 ≤ hi) : (rnC f L q lo hi).1 ≤ hi := by
  unfold rnC at h ⊢
  split
  · exact Int32.le_trans (show (-1 : Int32) ≤ 0 by decide) hh
  · rename_i c1
    split
    · exact Int32.not_lt.mp (fun z => c1 (Or.inr z))
    · split
      · exact Int32.le_trans (show (-1 : Int32) ≤ 0 by decide) hh
      · rename_i c3
        exact Int32.not_lt.mp c3
theorem ord_cases {f : Nat → Int32} {L q : Nat} (ok : (ordC f L q).1 = true) : ((ordC f L q).2.2.1 = 115 ∧ ∃ i, i < 6 ∧ (ordC f L q).2.2.2.1 = nI i) ∨ ((ordC f L q).2.2.1 = 114 ∧ ∃ i, i ≤ 24 ∧ (ordC f L q).2.2.2.2 = nI i) := by
  by_cases h1 : sgC f L q = 114
  · right
    rw [ord_r h1] at ok ⊢
    refine ⟨rfl, ?_⟩
    unfold raiC at ok ⊢
    split at ok
    · cases ok
    · rename_i c
      rw [if_neg c]
      have h0 := of_decide_eq_true ok
      obtain ⟨j, hj, e, -⟩ := clampQ (hi := 24) (n := 24) h0 (rnC_rng h0 (by decide)) rfl (by decide)
      exact ⟨j, hj, e⟩
  · by_cases h2 : sgC f L q = 115
    · left
      rw [ord_s h2] at ok ⊢
      have h0 := of_decide_eq_true ok
      obtain ⟨j, hj, e, -⟩ := clampQ (hi := 5) (n := 5) h0 (rnC_rng h0 (by decide)) rfl (by decide)
      exact ⟨rfl, j, by omega, e⟩
    · rw [ord_n h1 h2] at ok
      cases ok
theorem obeV_s {v : VV} {o : Bool × Nat × Int32 × Int32 × Int32} {i : Nat} (h : o.2.2.1 = 115) (h2 : o.2.2.2.1 = nI i) (hi : i < 6) : obeV v o = obeS v i := by
  unfold obeV
  rw [if_pos h, h2, nI_clamp (by omega)]
theorem obeV_r {v : VV} {o : Bool × Nat × Int32 × Int32 × Int32} (h : o.2.2.1 = 114) : obeV v o = obeR v o.2.2.2.1 o.2.2.2.2 := by
  unfold obeV
  rw [if_neg (by rw [h]; decide)]
theorem seR_3 (v : VV) (i n : Nat) : (seR v i n).1 3 = nI (n + 1) := by simp [seR, va_up, nI_1]
theorem senC_on {v : VV} {i n : Nat} (h : n < 20) : OnW (senC v i n) := by
  unfold senC
  split
  · exact ⟨n, by omega, by rw [rmvC_3]; rfl⟩
  · exact ⟨n + 1, by omega, seR_3 v i n⟩
theorem obeV_on {v : VV} {o : Bool × Nat × Int32 × Int32 × Int32} (h : OnW v) : OnW (obeV v o).2 := by
  unfold obeV
  split
  · unfold obeS
    split
    · rename_i z; exact senC_on z
    · exact h
  · unfold obeR
    split
    · exact h
    · exact pasC_on h _
theorem recK_le {k : Nat} (h : k ≤ 6) : recK k ≤ 6 := by
  unfold recK
  split <;> omega
theorem recV_on {k : Nat} {hs : Nat → VV} {w : VV} {n : Nat} (h : ∀ i, i < 6 → OnW (hs i)) (hw : OnW w) (hk : k ≤ 6) : ∀ i, i < 6 → OnW (recV k hs w n i) := by
  intro i hi
  unfold recV
  have h0 : ∀ j, j < 6 → OnW (rotN 0 6 hs j) := by
    intro j hj
    rw [rot_I]
    exact h _ (by unfold rotI; split; omega; split <;> omega)
  obtain ⟨m, hm, e⟩ := hw
  by_cases hk6 : k = 6
  · rw [if_pos hk6, if_pos hk6]
    by_cases hi5 : i = 5
    · rw [hi5, va_up_self]; exact ⟨m, hm, e⟩
    · rw [va_up_ne _ _ hi5]; exact h0 i hi
  · rw [if_neg hk6, if_neg hk6]
    by_cases hik : i = k
    · rw [hik, va_up_self]; exact ⟨m, hm, e⟩
    · rw [va_up_ne _ _ hik]; exact h i hi
theorem dec_eq (x : Int32) : x + Int32.ofInt (-1) = x - 1 := by
  rw [Int32.sub_eq_add_neg]
  rfl
theorem RXS.of {g : GG} {A : Nat → Prop} {M0 M : MM} {X : Nat} {π : Nat → Nat} {now : VV} {hs : Nat → VV} {k : Nat} {sl : Nat → VV} {sv f : Nat → Int32} {L : Nat} (h : RX g A M0 M X π now hs k sl sv f L) : RXS g A M M X (now, hs, k, sl, sv, f, L) := ⟨π, h.1, FrX.rf⟩
set_option maxHeartbeats 4000000 in
set_option maxRecDepth 100000 in
/-- put -/
theorem k_X7_put (l : Launch) (g : GG) (A : Nat → Prop) (M0 : MM) (X : Nat) (now : VV) (hs : Nat → VV) (k : Nat) (sl : Nat → VV) (sv f : Nat → Int32) (L : Nat) (hR : RXS g A M0 M0 X (now, hs, k, sl, sv, f, L)) (hI : CI (now, hs, k, sl, sv, f, L)) (x : Int64)  : Met l yX7_put (Uw yX7_put cX7_put 5 (Option.some ClassFile.FieldType.int)) (rmD 3) (PreM [.ref (X), .long (x)] g A M0) (PosI (fun r M1 => r = (oPut (now, hs, k, sl, sv, f, L) x).1 ∧ RXS g A M0 M1 X (oPut (now, hs, k, sl, sv, f, L) x).2) g A) 0 0 A := by
  refine mk_Met (own := RX7) rfl rfl (by decide) (Nat.le_of_ble_eq_true rfl) ?_
  intro p e s m below meth c ls aa Q haa hQ hx hb hr hlk hml hown hts hK hM hS hl hnm
  obtain ⟨M, hMM⟩ : ∃ M, M = M0 := ⟨_, rfl⟩
  rw [← hMM] at hM hR
  have ht : ∀ w ∈ lw_good, w.before _ s = true := fun w h => hts w (List.mem_cons_of_mem _ h)
  have hl : lv_has ls 5 [(0, .ref (X)), (1, .long (x))] := hl
  obtain ⟨π, hX⟩ := hR
  have hX : RX g A M0 M X π now hs k sl sv f L := ⟨hX.1, by rw [hMM]; exact FrX.rf⟩
  obtain ⟨⟨n, hn20, hn⟩, hk6, hhs, hsl, hL, hch⟩ := id hI
  have hN : onN now = n := onN_eq hn hn20
  have hL : L ≤ 60 := hL
  refine lv_lload_n hx hb dX7_put_0 rfl (lv_at hl 1 rfl) ?_
  refine m_callRSI (val := chC x) (As := [.long (x)]) (rest := []) ⟨hx, hb, hml, hown, ht⟩ (k_X7_charactersIn l g A M x) (cwS 1 ht (gUS uw_553 uw_554 uw_34 uw_555) rfl rfl rfl (by decide +kernel) ⟨by decide, by decide⟩) hK hM hS rfl hl.1 rfl (Nat.le_of_ble_eq_true rfl) dX7_put_1 ⟨by decide, by decide⟩ (fun H locs hM hS => ?_)
  refine lv_istore_n (lv' := [(3, .int (chC x)), (0, .ref (X)), (1, .long (x))]) hx hb dX7_put_4 rfl hl (by decide) rfl (fun ls hl => ?_)
  refine lv_iload_n hx hb dX7_put_5 rfl (lv_at hl 0 rfl) ?_
  refine lv_if_ne (tgt := 12) hx hb dX7_put_6 (by decide) (fun c_6 => ?_) (fun c_6 => ?_)
  · obtain ⟨rs, hTx⟩ := hX.txt
    obtain ⟨q, hq8, eq⟩ := chC_q x
    refine lv_aload_n hx hb dX7_put_12 rfl (lv_at hl 1 rfl) ?_
    refine m_get (ci := 7) (C := RX7) (T := TX7) (N := 7) hx hb ht ui_X7 hown hK hM hX.AX hX.obj rfl 5 (by decide) (ht _ uw_280) rfl dX7_put_13 ?_
    refine rt_getPl hx hb ht ui_X3 hown hK hM hTx (ht _ uw_238) dX7_put_16 ?_
    refine lv_iload_n hx hb dX7_put_19 rfl (lv_at hl 0 rfl) ?_
    refine lv_iadd hx hb dX7_put_20 ?_
    refine lv_bipush (v := 60) hx hb dX7_put_21 (by first | rfl | decide) ?_
    refine lv_icmp_le (tgt := 29) hx hb dX7_put_23 (by decide) (fun c_23 => ?_) (fun c_23 => ?_)
    · have hq60 : L + q ≤ 60 := by
        rw [eq, nI_add] at c_23
        exact nI_le_of (by decide) (by omega) c_23
      have hq1 : ¬ q = 0 := fun z => c_6 (by rw [eq, z]; rfl)
      rw [eq] at hl
      refine lv_iload_n hx hb dX7_put_29 rfl (lv_at hl 0 rfl) ?_
      refine lv_iconst (v := 1) hx hb dX7_put_30 (by first | rfl | decide) ?_
      refine lv_isub hx hb dX7_put_31 ?_
      refine lv_istore (lv' := [(4, .int ((nI q) - (1))), (3, .int (nI q)), (0, .ref (X)), (1, .long (x))]) hx hb dX7_put_32 hl (by decide) rfl (fun ls hl => ?_)
      have loop_34 : ∀ (z_34 : Nat) (r9 : Nat) (b : Nat) (rs : Nat → Int32) (M : MM) (H : Heap) (locs : List Loc) (ls : Array Slot), r9 < z_34 → b + r9 = q → HD g A M H → RX g A M0 M X π now hs k sl sv (putF x q f L b) (L + b) → RepT g A M (X + 285) (putF x q f L b) (nI (L + b)) rs → va_S A s.heap H locs → lv_has ls 5 [(4, .int (nI r9 - 1)), (3, .int (nI q)), (0, .ref (X)), (1, .long (x))] → W p l e (rmD 3) s m aa below meth c H locs 0 0 Q (F0 m 34 ls []) := by
        intro z_34
        induction z_34 with
        | zero => intro r9 b rs M H locs ls hz hb9; exact absurd hz (Nat.not_lt_zero _)
        | succ z_34 ih_34 =>
        intro r9 b rs M H locs ls hz hb9 hM hX hTx hS hl
        refine lv_iload hx hb dX7_put_34 (lv_at hl 0 rfl) ?_
        refine lv_if_lt (tgt := 59) hx hb dX7_put_36 (by decide) (fun c_36 => ?_) (fun c_36 => ?_)
        · have hr9 : r9 = 0 := by
            apply Classical.byContradiction
            intro z
            obtain ⟨r, rfl⟩ : ∃ r, r9 = r + 1 := ⟨r9 - 1, by omega⟩
            rw [nI_pred] at c_36
            exact nI_pos (by omega) c_36
          subst hr9
          have hbq : b = q := by omega
          subst hbq
          refine lv_aload_n hx hb dX7_put_59 rfl (lv_at hl 2 rfl) ?_
          refine m_get (ci := 7) (C := RX7) (T := TX7) (N := 7) hx hb ht ui_X7 hown hK hM hX.AX hX.obj rfl 5 (by decide) (ht _ uw_280) rfl dX7_put_60 ?_
          refine rt_getPl hx hb ht ui_X3 hown hK hM hTx (ht _ uw_238) dX7_put_63 ?_
          subst hQ
          exact m_zret hx hb hr (rfl) hlk hK hM hS dX7_put_66 (by unfold oPut; rw [if_neg c_6, if_neg (fun z => z c_23), eq, nI_clamp (by omega)]; exact ⟨rfl, π, hX⟩)
        · obtain ⟨r, rfl⟩ : ∃ r, r9 = r + 1 := ⟨r9 - 1, by have z : r9 ≠ 0 := fun z => c_36 (by rw [z]; decide); omega⟩
          rw [nI_pred] at hl
          refine lv_aload_n hx hb dX7_put_39 rfl (lv_at hl 2 rfl) ?_
          refine m_get (ci := 7) (C := RX7) (T := TX7) (N := 7) hx hb ht ui_X7 hown hK hM hX.AX hX.obj rfl 5 (by decide) (ht _ uw_280) rfl dX7_put_40 ?_
          refine lv_lload_n hx hb dX7_put_43 rfl (lv_at hl 3 rfl) ?_
          refine lv_iload hx hb dX7_put_44 (lv_at hl 0 rfl) ?_
          refine m_callRSI (val := codC x (nI r)) (As := [.long (x), .int (nI r)]) (rest := [.ref (X + 285)]) ⟨hx, hb, hml, hown, ht⟩ (k_X7_codeAt l g A M x (nI r)) (cwS 2 ht (gUS uw_556 uw_557 uw_34 uw_558) rfl rfl rfl (by decide +kernel) ⟨by decide, by decide⟩) hK hM hS rfl hl.1 rfl (Nat.le_of_ble_eq_true rfl) dX7_put_46 ⟨by decide, by decide⟩ (fun H locs hM hS => ?_)
          refine lv_i2c (v := ((codC x (nI r)).toUInt32 % 65536).toInt32) hx hb dX7_put_49 rfl ?_
          refine m_callV (As := [.int (((codC x (nI r)).toUInt32 % 65536).toInt32)]) (rest := []) ⟨hx, hb, hml, hown, ht⟩ (k_X3_append l g A M (X + 285) (putF x q f L b) (L + b) rs hTx (by omega) (((codC x (nI r)).toUInt32 % 65536).toInt32) (by omega)) (cwV 1 ht (gU uw_559 uw_560 uw_561 uw_40 uw_562) rfl rfl rfl (by decide +kernel) ⟨by decide, by decide⟩) hK hM hS (m_recv hK hM hTx.1 hTx.2.2.2.1 rfl) rfl hl.1 rfl (Nat.le_of_ble_eq_true rfl) dX7_put_50 ⟨by decide, by decide⟩ (fun M H locs hp hM hS => ?_)
          obtain ⟨hT9, hF9⟩ := hp
          have hX := hX.setX hT9 hF9
          obtain ⟨rs, hTx⟩ := hX.txt
          refine lv_iinc (v := nI r - 1) (lv' := [(4, .int (nI r - 1)), (3, .int (nI q)), (0, .ref (X)), (1, .long (x))]) hx hb dX7_put_53 hl (k := 0) rfl (dec_eq _) (by decide) rfl (fun ls hl => ?_)
          refine lv_goto (tgt := 34) hx hb dX7_put_56 (by decide) ?_
          have hX1 : RX g A M0 M X π now hs k sl sv (putF x q f L (b + 1)) (L + (b + 1)) := by rw [putF_s (show r = q - 1 - b by omega)]; exact hX
          obtain ⟨rs, hTx1⟩ := hX1.txt
          exact ih_34 r (b + 1) _ _ _ _ _ (by omega) (by omega) hM hX1 hTx1 hS (lv_sub hl [0, 1, 2, 3] rfl)
      exact loop_34 _ q 0 rs _ _ _ _ (Nat.lt_succ_self _) (by omega) hM hX hTx hS (lv_sub hl [0, 1, 2, 3] rfl)
    · refine lv_ldc (v := (-1000004)) hx hb hown (ht _ uw_355) dX7_put_26 ?_
      subst hQ
      exact m_zret hx hb hr (rfl) hlk hK hM hS dX7_put_28 (by unfold oPut; rw [if_neg c_6, if_pos c_23]; exact ⟨rfl, π, hX⟩)
  · refine lv_ldc (v := (-1000002)) hx hb hown (ht _ uw_340) dX7_put_9 ?_
    subst hQ
    exact m_zret hx hb hr (rfl) hlk hK hM hS dX7_put_11 (by unfold oPut; rw [if_pos c_6]; exact ⟨rfl, π, hX⟩)

set_option maxHeartbeats 4000000 in
set_option maxRecDepth 100000 in
/-- obeyOrder -/
theorem k_X7_obey_s (l : Launch) (g : GG) (A : Nat → Prop) (M0 : MM) (X : Nat) (now : VV) (hs : Nat → VV) (k : Nat) (sl : Nat → VV) (sv f : Nat → Int32) (L : Nat) (hR : RXS g A M0 M0 X (now, hs, k, sl, sv, f, L)) (hI : CI (now, hs, k, sl, sv, f, L)) (rs : Nat → Int32) (hT0 : RepT g A M0 (X + 285) f (nI L) rs) (hk1 : rs 1 = 115) (i : Nat) (hi : i < 6) (hg : rs 4 = nI i)  : Met l yX7_obeyOrder (Uw yX7_obeyOrder cX7_obeyOrder 1 (Option.some ClassFile.FieldType.boolean)) (rmD 4) (PreM [.ref (X)] g A M0) (PosI (fun r M1 => r = (obeS now i).1 ∧ (∃ π1, RX g A M0 M1 X π1 (obeS now i).2 hs k sl sv f L) ∧ RepT g A M1 (X + 285) f (nI L) rs) g A) 0 0 A := by
  refine mk_Met (own := RX7) rfl rfl (by decide) (Nat.le_of_ble_eq_true rfl) ?_
  intro p e s m below meth c ls aa Q haa hQ hx hb hr hlk hml hown hts hK hM hS hl hnm
  obtain ⟨M, hMM⟩ : ∃ M, M = M0 := ⟨_, rfl⟩
  rw [← hMM] at hM hR
  have ht : ∀ w ∈ lw_good, w.before _ s = true := fun w h => hts w (List.mem_cons_of_mem _ h)
  have hl : lv_has ls 1 [(0, .ref (X))] := hl
  obtain ⟨π, hX⟩ := hR
  have hX : RX g A M0 M X π now hs k sl sv f L := ⟨hX.1, by rw [hMM]; exact FrX.rf⟩
  obtain ⟨⟨n, hn20, hn⟩, hk6, hhs, hsl, hL, hch⟩ := id hI
  have hN : onN now = n := onN_eq hn hn20
  have hTx : RepT g A M (X + 285) f (nI L) rs := by rw [hMM]; exact hT0
  refine lv_aload_n hx hb dX7_obeyOrder_0 rfl (lv_at hl 0 rfl) ?_
  refine m_get (ci := 7) (C := RX7) (T := TX7) (N := 7) hx hb ht ui_X7 hown hK hM hX.AX hX.obj rfl 6 (by decide) (ht _ uw_281) rfl dX7_obeyOrder_1 ?_
  refine rt_getD hx hb ht ui_X2 hown hK hM hTx 1 (by decide) (ht _ uw_255) dX7_obeyOrder_4 ?_
  refine lv_bipush (v := 115) hx hb dX7_obeyOrder_7 (by first | rfl | decide) ?_
  refine lv_icmp_ne (tgt := 35) hx hb dX7_obeyOrder_9 (by decide) (fun c_9 => absurd (hk1) c_9) (fun c_9 => ?_)
  refine lv_aload_n hx hb dX7_obeyOrder_12 rfl (lv_at hl 0 rfl) ?_
  by_cases hlt : n < 20
  · refine m_get (ci := 7) (C := RX7) (T := TX7) (N := 7) hx hb ht ui_X7 hown hK hM hX.AX hX.obj rfl 0 (by decide) (ht _ uw_275) rfl dX7_obeyOrder_13 ?_
    refine lv_aload_n hx hb dX7_obeyOrder_16 rfl (lv_at hl 0 rfl) ?_
    refine m_get (ci := 7) (C := RX7) (T := TX7) (N := 7) hx hb ht ui_X7 hown hK hM hX.AX hX.obj rfl 6 (by decide) (ht _ uw_281) rfl dX7_obeyOrder_17 ?_
    refine rt_getD hx hb ht ui_X2 hown hK hM hTx 4 (by decide) (ht _ uw_261) dX7_obeyOrder_20 ?_
    refine m_callI (As := [.int (rs 4)]) (rest := []) ⟨hx, hb, hml, hown, ht⟩ ((by have z := k_X6_sendRunner l g A M (X + 1) π now i hX.nowV n hn hn20 hi; rw [← hg] at z; exact z)) (cwV 1 ht (gU uw_404 uw_405 uw_406 uw_35 uw_407) rfl rfl rfl (by decide +kernel) ⟨by decide, by decide⟩) hK hM hS (m_recv hK hM hX.nowV.AW hX.nowV.W rfl) rfl hl.1 rfl (Nat.le_of_ble_eq_true rfl) dX7_obeyOrder_23 ⟨by decide, by decide⟩ (fun r9 M H locs hp hM hS => ?_)
    obtain ⟨e9, ⟨π, hV9⟩, hF9⟩ := hp.1 hlt
    have hX := hX.setN hV9 hF9
    have hTx := hTx.agr (M1 := M) (fun q h1 h2 => hF9 q (by omega))
    refine lv_if_lt (tgt := 33) hx hb dX7_obeyOrder_26 (by decide) (fun c_26 => ?_) (fun c_26 => ?_)
    · refine lv_iconst (v := 0) hx hb dX7_obeyOrder_33 (by first | rfl | decide) ?_
      subst hQ
      exact m_zret hx hb hr (rfl) hlk hK hM hS dX7_obeyOrder_34 (by rw [obeS_a hN hlt]; exact ⟨by first | (rw [← e9]; exact (if_pos c_26).symm) | (rw [← e9]; exact (if_neg c_26).symm), ⟨π, hX⟩, hTx⟩)
    · refine lv_iconst (v := 1) hx hb dX7_obeyOrder_29 (by first | rfl | decide) ?_
      refine lv_goto (tgt := 34) hx hb dX7_obeyOrder_30 (by decide) ?_
      subst hQ
      exact m_zret hx hb hr (rfl) hlk hK hM hS dX7_obeyOrder_34 (by rw [obeS_a hN hlt]; exact ⟨by first | (rw [← e9]; exact (if_pos c_26).symm) | (rw [← e9]; exact (if_neg c_26).symm), ⟨π, hX⟩, hTx⟩)
  · refine m_get (ci := 7) (C := RX7) (T := TX7) (N := 7) hx hb ht ui_X7 hown hK hM hX.AX hX.obj rfl 0 (by decide) (ht _ uw_275) rfl dX7_obeyOrder_13 ?_
    refine lv_aload_n hx hb dX7_obeyOrder_16 rfl (lv_at hl 0 rfl) ?_
    refine m_get (ci := 7) (C := RX7) (T := TX7) (N := 7) hx hb ht ui_X7 hown hK hM hX.AX hX.obj rfl 6 (by decide) (ht _ uw_281) rfl dX7_obeyOrder_17 ?_
    refine rt_getD hx hb ht ui_X2 hown hK hM hTx 4 (by decide) (ht _ uw_261) dX7_obeyOrder_20 ?_
    refine m_callI (As := [.int (rs 4)]) (rest := []) ⟨hx, hb, hml, hown, ht⟩ ((by have z := k_X6_sendRunner l g A M (X + 1) π now i hX.nowV n hn hn20 hi; rw [← hg] at z; exact z)) (cwV 1 ht (gU uw_404 uw_405 uw_406 uw_35 uw_407) rfl rfl rfl (by decide +kernel) ⟨by decide, by decide⟩) hK hM hS (m_recv hK hM hX.nowV.AW hX.nowV.W rfl) rfl hl.1 rfl (Nat.le_of_ble_eq_true rfl) dX7_obeyOrder_23 ⟨by decide, by decide⟩ (fun r9 M H locs hp hM hS => ?_)
    obtain ⟨e9, e8⟩ := hp.2 hlt
    rw [e8] at hM
    refine lv_if_lt (tgt := 33) hx hb dX7_obeyOrder_26 (by decide) (fun c_26 => ?_) (fun c_26 => ?_)
    · refine lv_iconst (v := 0) hx hb dX7_obeyOrder_33 (by first | rfl | decide) ?_
      subst hQ
      exact m_zret hx hb hr (rfl) hlk hK hM hS dX7_obeyOrder_34 (by rw [obeS_b hN hlt]; exact ⟨rfl, ⟨π, hX⟩, hTx⟩)
    · refine lv_iconst (v := 1) hx hb dX7_obeyOrder_29 (by first | rfl | decide) ?_
      refine lv_goto (tgt := 34) hx hb dX7_obeyOrder_30 (by decide) ?_
      subst hQ
      exact m_zret hx hb hr (rfl) hlk hK hM hS dX7_obeyOrder_34 (absurd (show (-1000004 : Int32) < 0 by decide) (by rw [← e9]; exact c_26))

set_option maxHeartbeats 4000000 in
set_option maxRecDepth 100000 in
/-- obeyOrder -/
theorem k_X7_obey_r (l : Launch) (g : GG) (A : Nat → Prop) (M0 : MM) (X : Nat) (now : VV) (hs : Nat → VV) (k : Nat) (sl : Nat → VV) (sv f : Nat → Int32) (L : Nat) (hR : RXS g A M0 M0 X (now, hs, k, sl, sv, f, L)) (hI : CI (now, hs, k, sl, sv, f, L)) (rs : Nat → Int32) (hT0 : RepT g A M0 (X + 285) f (nI L) rs) (hk1 : rs 1 = 114) (q : Nat) (hq : q ≤ 24) (hg : rs 3 = nI q)  : Met l yX7_obeyOrder (Uw yX7_obeyOrder cX7_obeyOrder 1 (Option.some ClassFile.FieldType.boolean)) (rmD 5) (PreM [.ref (X)] g A M0) (PosI (fun r M1 => r = (obeR now (rs 2) (rs 3)).1 ∧ (∃ π1, RX g A M0 M1 X π1 (obeR now (rs 2) (rs 3)).2 hs k sl sv f L) ∧ RepT g A M1 (X + 285) f (nI L) rs) g A) 0 0 A := by
  refine mk_Met (own := RX7) rfl rfl (by decide) (Nat.le_of_ble_eq_true rfl) ?_
  intro p e s m below meth c ls aa Q haa hQ hx hb hr hlk hml hown hts hK hM hS hl hnm
  obtain ⟨M, hMM⟩ : ∃ M, M = M0 := ⟨_, rfl⟩
  rw [← hMM] at hM hR
  have ht : ∀ w ∈ lw_good, w.before _ s = true := fun w h => hts w (List.mem_cons_of_mem _ h)
  have hl : lv_has ls 1 [(0, .ref (X))] := hl
  obtain ⟨π, hX⟩ := hR
  have hX : RX g A M0 M X π now hs k sl sv f L := ⟨hX.1, by rw [hMM]; exact FrX.rf⟩
  obtain ⟨⟨n, hn20, hn⟩, hk6, hhs, hsl, hL, hch⟩ := id hI
  have hN : onN now = n := onN_eq hn hn20
  have hTx : RepT g A M (X + 285) f (nI L) rs := by rw [hMM]; exact hT0
  refine lv_aload_n hx hb dX7_obeyOrder_0 rfl (lv_at hl 0 rfl) ?_
  refine m_get (ci := 7) (C := RX7) (T := TX7) (N := 7) hx hb ht ui_X7 hown hK hM hX.AX hX.obj rfl 6 (by decide) (ht _ uw_281) rfl dX7_obeyOrder_1 ?_
  refine rt_getD hx hb ht ui_X2 hown hK hM hTx 1 (by decide) (ht _ uw_255) dX7_obeyOrder_4 ?_
  refine lv_bipush (v := 115) hx hb dX7_obeyOrder_7 (by first | rfl | decide) ?_
  refine lv_icmp_ne (tgt := 35) hx hb dX7_obeyOrder_9 (by decide) (fun c_9 => ?_) (fun c_9 => absurd c_9 (by rw [hk1]; decide))
  refine lv_aload_n hx hb dX7_obeyOrder_35 rfl (lv_at hl 0 rfl) ?_
  refine m_get (ci := 7) (C := RX7) (T := TX7) (N := 7) hx hb ht ui_X7 hown hK hM hX.AX hX.obj rfl 0 (by decide) (ht _ uw_275) rfl dX7_obeyOrder_36 ?_
  refine lv_aload_n hx hb dX7_obeyOrder_39 rfl (lv_at hl 0 rfl) ?_
  refine m_get (ci := 7) (C := RX7) (T := TX7) (N := 7) hx hb ht ui_X7 hown hK hM hX.AX hX.obj rfl 6 (by decide) (ht _ uw_281) rfl dX7_obeyOrder_40 ?_
  refine rt_getD hx hb ht ui_X2 hown hK hM hTx 3 (by decide) (ht _ uw_259) dX7_obeyOrder_43 ?_
  refine m_callRI (val := if now.1 2 + rs 3 ≤ 9999 then 1 else 0) (As := [.int (rs 3)]) (rest := []) ⟨hx, hb, hml, hown, ht⟩ (k_X6_hasTimeFor l g A M (X + 1) π now (rs 3) hX.nowV) (cwV 1 ht (gU uw_351 uw_352 uw_353 uw_35 uw_354) rfl rfl rfl (by decide +kernel) ⟨by decide, by decide⟩) hK hM hS (m_recv hK hM hX.nowV.AW hX.nowV.W rfl) rfl hl.1 rfl (Nat.le_of_ble_eq_true rfl) dX7_obeyOrder_46 ⟨by decide, by decide⟩ (fun H locs hM hS => ?_)
  refine lv_if_ne (tgt := 54) hx hb dX7_obeyOrder_49 (by decide) (fun c_49 => ?_) (fun c_49 => ?_)
  · refine lv_aload_n hx hb dX7_obeyOrder_54 rfl (lv_at hl 0 rfl) ?_
    refine m_get (ci := 7) (C := RX7) (T := TX7) (N := 7) hx hb ht ui_X7 hown hK hM hX.AX hX.obj rfl 0 (by decide) (ht _ uw_275) rfl dX7_obeyOrder_55 ?_
    refine lv_aload_n hx hb dX7_obeyOrder_58 rfl (lv_at hl 0 rfl) ?_
    refine m_get (ci := 7) (C := RX7) (T := TX7) (N := 7) hx hb ht ui_X7 hown hK hM hX.AX hX.obj rfl 6 (by decide) (ht _ uw_281) rfl dX7_obeyOrder_59 ?_
    refine rt_getD hx hb ht ui_X2 hown hK hM hTx 2 (by decide) (ht _ uw_257) dX7_obeyOrder_62 ?_
    refine lv_aload_n hx hb dX7_obeyOrder_65 rfl (lv_at hl 0 rfl) ?_
    refine m_get (ci := 7) (C := RX7) (T := TX7) (N := 7) hx hb ht ui_X7 hown hK hM hX.AX hX.obj rfl 6 (by decide) (ht _ uw_281) rfl dX7_obeyOrder_66 ?_
    refine rt_getD hx hb ht ui_X2 hown hK hM hTx 3 (by decide) (ht _ uw_259) dX7_obeyOrder_69 ?_
    refine m_callI (As := [.int (rs 2), .int (rs 3)]) (rest := []) ⟨hx, hb, hml, hown, ht⟩ ((by have z := k_X6_passHours l g A M (X + 1) π now (rs 2) q hX.nowV hI.1 (by omega); rw [← hg] at z; exact z)) (cwV 2 ht (gU uw_356 uw_357 uw_358 uw_35 uw_359) rfl rfl rfl (by decide +kernel) ⟨by decide, by decide⟩) hK hM hS (m_recv hK hM hX.nowV.AW hX.nowV.W rfl) rfl hl.1 rfl (Nat.le_of_ble_eq_true rfl) dX7_obeyOrder_72 ⟨by decide, by decide⟩ (fun r9 M H locs hp hM hS => ?_)
    obtain ⟨-, ⟨π, hV9⟩, hF9⟩ := hp
    have hX := hX.setN hV9 hF9
    have hTx := hTx.agr (M1 := M) (fun q h1 h2 => hF9 q (by omega))
    refine lv_pop hx hb dX7_obeyOrder_75 rfl ?_
    refine lv_iconst (v := 1) hx hb dX7_obeyOrder_76 (by first | rfl | decide) ?_
    subst hQ
    exact m_zret hx hb hr (rfl) hlk hK hM hS dX7_obeyOrder_77 (by unfold obeR; rw [if_neg (fun z => c_49 (ite10.mpr z)), hg, nI_clamp (by omega)]; exact ⟨rfl, ⟨π, hX⟩, hTx⟩)
  · refine lv_iconst (v := 0) hx hb dX7_obeyOrder_52 (by first | rfl | decide) ?_
    subst hQ
    exact m_zret hx hb hr (rfl) hlk hK hM hS dX7_obeyOrder_53 (by unfold obeR; rw [if_pos (ite10.mp c_49)]; exact ⟨rfl, ⟨π, hX⟩, hTx⟩)

set_option maxHeartbeats 4000000 in
set_option maxRecDepth 100000 in
/-- run -/
theorem k_X7_run (l : Launch) (g : GG) (A : Nat → Prop) (M0 : MM) (X : Nat) (now : VV) (hs : Nat → VV) (k : Nat) (sl : Nat → VV) (sv f : Nat → Int32) (L : Nat) (hR : RXS g A M0 M0 X (now, hs, k, sl, sv, f, L)) (hI : CI (now, hs, k, sl, sv, f, L))  : Met l yX7_run (Uw yX7_run cX7_run 3 (Option.some ClassFile.FieldType.int)) (rmD 7) (PreM [.ref (X)] g A M0) (PosI (fun r M1 => r = (oRun (now, hs, k, sl, sv, f, L)).1 ∧ RXS g A M0 M1 X (oRun (now, hs, k, sl, sv, f, L)).2) g A) 0 0 A := by
  refine mk_Met (own := RX7) rfl rfl (by decide) (Nat.le_of_ble_eq_true rfl) ?_
  intro p e s m below meth c ls aa Q haa hQ hx hb hr hlk hml hown hts hK hM hS hl hnm
  obtain ⟨M, hMM⟩ : ∃ M, M = M0 := ⟨_, rfl⟩
  rw [← hMM] at hM hR
  have ht : ∀ w ∈ lw_good, w.before _ s = true := fun w h => hts w (List.mem_cons_of_mem _ h)
  have hl : lv_has ls 3 [(0, .ref (X))] := hl
  obtain ⟨π, hX⟩ := hR
  have hX : RX g A M0 M X π now hs k sl sv f L := ⟨hX.1, by rw [hMM]; exact FrX.rf⟩
  obtain ⟨⟨n, hn20, hn⟩, hk6, hhs, hsl, hL, hch⟩ := id hI
  have hN : onN now = n := onN_eq hn hn20
  have hL : L ≤ 60 := hL
  have hk6 : k ≤ 6 := hk6
  obtain ⟨rs, hTx⟩ := hX.txt
  refine lv_aload_n hx hb dX7_run_0 rfl (lv_at hl 0 rfl) ?_
  refine m_get (ci := 7) (C := RX7) (T := TX7) (N := 7) hx hb ht ui_X7 hown hK hM hX.AX hX.obj rfl 6 (by decide) (ht _ uw_281) rfl dX7_run_1 ?_
  refine m_callI (As := []) (rest := []) ⟨hx, hb, hml, hown, ht⟩ (k_X2_findFault l g A M (X + 285) f L rs hTx hL hch) (cwV 0 ht (gU uw_433 uw_434 uw_435 uw_41 uw_436) rfl rfl rfl (by decide +kernel) ⟨by decide, by decide⟩) hK hM hS (m_recv hK hM hTx.2.2.1 hTx.2.2.2.2.2 rfl) rfl hl.1 rfl (Nat.le_of_ble_eq_true rfl) dX7_run_4 ⟨by decide, by decide⟩ (fun r9 M H locs hp hM hS => ?_)
  obtain ⟨e9, rs9, hT9, hF9⟩ := hp
  have hX := hX.setX hT9 hF9
  have hTx := hT9
  refine lv_ldc (v := (-1000006)) hx hb hown (ht _ uw_471) dX7_run_7 ?_
  refine lv_icmp_eq (tgt := 15) hx hb dX7_run_9 (by decide) (fun c_9 => ?_) (fun c_9 => ?_)
  · have hfau : fauC f L 60 0 = none := fau_none (e9.symm.trans c_9)
    refine lv_aload_n hx hb dX7_run_15 rfl (lv_at hl 0 rfl) ?_
    refine m_get (ci := 7) (C := RX7) (T := TX7) (N := 7) hx hb ht ui_X7 hown hK hM hX.AX hX.obj rfl 2 (by decide) (ht _ uw_277) rfl dX7_run_16 ?_
    refine lv_aload_n hx hb dX7_run_19 rfl (lv_at hl 0 rfl) ?_
    refine m_get (ci := 7) (C := RX7) (T := TX7) (N := 7) hx hb ht ui_X7 hown hK hM hX.AX hX.obj rfl 0 (by decide) (ht _ uw_275) rfl dX7_run_20 ?_
    obtain ⟨ρ8, πs8, hH8⟩ := hX.his
    refine m_callV (As := [.ref (X + 1)]) (rest := []) ⟨hx, hb, hml, hown, ht⟩ (k_X1_record l g A M (X + 71) ρ8 πs8 hs (nI k) hH8 (X + 1) π now n hX.nowV (by omega) k rfl hk6 hn hn20) (cwV 1 ht (gU uw_304 uw_305 uw_306 uw_39 uw_307) rfl rfl rfl (by decide +kernel) ⟨by decide, by decide⟩) hK hM hS (m_recv hK hM hH8.1 hH8.2.2.2.1 rfl) rfl hl.1 rfl (Nat.le_of_ble_eq_true rfl) dX7_run_23 ⟨by decide, by decide⟩ (fun M H locs hp hM hS => ?_)
    obtain ⟨⟨ρ7, πs7, hH7⟩, hF7⟩ := hp
    have hX := hX.setH hH7 hF7
    refine lv_aload_n hx hb dX7_run_26 rfl (lv_at hl 0 rfl) ?_
    obtain ⟨rs7, hTx⟩ := hX.txt
    obtain ⟨w0, hw0⟩ : ∃ w0, w0 = runL f L 60 0 0 now := ⟨_, rfl⟩
    refine m_get (ci := 7) (C := RX7) (T := TX7) (N := 7) hx hb ht ui_X7 hown hK hM hX.AX hX.obj rfl 6 (by decide) (ht _ uw_281) rfl dX7_run_27 ?_
    refine m_callV (As := []) (rest := []) ⟨hx, hb, hml, hown, ht⟩ (k_X2_goToStart l g A M (X + 285) f L rs7 hTx hL) (cwV 0 ht (gU uw_473 uw_438 uw_439 uw_41 uw_440) rfl rfl rfl (by decide +kernel) ⟨by decide, by decide⟩) hK hM hS (m_recv hK hM hTx.2.2.1 hTx.2.2.2.2.2 rfl) rfl hl.1 rfl (Nat.le_of_ble_eq_true rfl) dX7_run_30 ⟨by decide, by decide⟩ (fun M H locs hp hM hS => ?_)
    obtain ⟨hT9, hF9⟩ := hp
    have hX := hX.setX hT9 hF9
    have hTx := hT9
    refine lv_iconst (v := 0) hx hb dX7_run_33 (by first | rfl | decide) ?_
    refine lv_istore_n (lv' := [(1, .int (0)), (0, .ref (X))]) hx hb dX7_run_34 rfl hl (by decide) rfl (fun ls hl => ?_)
    refine lv_iconst (v := 0) hx hb dX7_run_35 (by first | rfl | decide) ?_
    refine lv_istore_n (lv' := [(2, .int (0)), (1, .int (0)), (0, .ref (X))]) hx hb dX7_run_36 rfl hl (by decide) rfl (fun ls hl => ?_)
    have loop_37 : ∀ (z_37 : Nat) (o : Nat) (q : Nat) (d : Int32) (v9 : VV) (π : Nat → Nat) (rs : Nat → Int32) (M : MM) (H : Heap) (locs : List Loc) (ls : Array Slot), 60 - o < z_37 → o ≤ 60 → q ≤ 7 * o → rs 0 = nI q → OnW v9 → runL f L (60 - o) q d v9 = w0 → HD g A M H → RX g A M0 M X π v9 (recV k hs now n) (recK k) sl sv f L → RepT g A M (X + 285) f (nI L) rs → va_S A s.heap H locs → lv_has ls 3 [(2, .int (nI o)), (1, .int (d)), (0, .ref (X))] → W p l e (rmD 7) s m aa below meth c H locs 0 0 Q (F0 m 37 ls []) := by
      intro z_37
      induction z_37 with
      | zero => intro o q d v9 π rs M H locs ls hz ho hq hat hon9 hw; exact absurd hz (Nat.not_lt_zero _)
      | succ z_37 ih_37 =>
      intro o q d v9 π rs M H locs ls hz ho hq hat hon9 hw hM hX hTx hS hl
      refine lv_iload_n hx hb dX7_run_37 rfl (lv_at hl 0 rfl) ?_
      refine lv_bipush (v := 60) hx hb dX7_run_38 (by first | rfl | decide) ?_
      refine lv_icmp_ge (tgt := 76) hx hb dX7_run_40 (by decide) (fun c_40 => ?_) (fun c_40 => ?_)
      · refine lv_aload_n hx hb dX7_run_76 rfl (lv_at hl 2 rfl) ?_
        refine m_get (ci := 7) (C := RX7) (T := TX7) (N := 7) hx hb ht ui_X7 hown hK hM hX.AX hX.obj rfl 5 (by decide) (ht _ uw_280) rfl dX7_run_77 ?_
        refine lv_iconst (v := 0) hx hb dX7_run_80 (by first | rfl | decide) ?_
        refine rt_putPl hx hb ht ui_X3 hown hK hM hS hTx FrT.rf (ht _ uw_238) dX7_run_81 (fun M H locs hM hT9 hF9 hS => ?_)
        have hX := hX.setX (L1 := 0) hT9 hF9
        refine lv_iload_n hx hb dX7_run_84 rfl (lv_at hl 1 rfl) ?_
        subst hQ
        exact m_zret hx hb hr (rfl) hlk hK hM hS dX7_run_85 (by
            have e5 : w0 = (d, v9) := by
              rw [← hw]
              first
                | exact run_0 (nI_le_of (by omega) (by decide) c_40) ho
                | exact run_1 (nI_lt_of (by omega) (by decide) c_40) (by rw [e_r1] at c_50; exact ite_no c_50)
            rw [oRun_y hfau (show runL f L 60 0 0 now = (d, v9) from hw0.symm.trans e5)]
            rw [← hN] at hX
            exact ⟨rfl, π, hX⟩)
      · have ho60 : o < 60 := nI_lt_of (by omega) (by decide) c_40
        refine lv_aload_n hx hb dX7_run_43 rfl (lv_at hl 2 rfl) ?_
        refine m_get (ci := 7) (C := RX7) (T := TX7) (N := 7) hx hb ht ui_X7 hown hK hM hX.AX hX.obj rfl 6 (by decide) (ht _ uw_281) rfl dX7_run_44 ?_
        refine m_callI (As := []) (rest := []) ⟨hx, hb, hml, hown, ht⟩ (k_X2_readOrder l g A M (X + 285) f L rs hTx hL hch q (by omega) hat (by omega)) (cwV 0 ht (gU uw_474 uw_442 uw_443 uw_41 uw_444) rfl rfl rfl (by decide +kernel) ⟨by decide, by decide⟩) hK hM hS (m_recv hK hM hTx.2.2.1 hTx.2.2.2.2.2 rfl) rfl hl.1 rfl (Nat.le_of_ble_eq_true rfl) dX7_run_47 ⟨by decide, by decide⟩ (fun r9 M H locs hp hM hS => ?_)
        obtain ⟨e_r1, rs1, hT9, hF9, k0, k9⟩ := hp
        have hX := hX.setX hT9 hF9
        have hTx := hT9
        refine lv_if_eq (tgt := 76) hx hb dX7_run_50 (by decide) (fun c_50 => ?_) (fun c_50 => ?_)
        · refine lv_aload_n hx hb dX7_run_76 rfl (lv_at hl 2 rfl) ?_
          refine m_get (ci := 7) (C := RX7) (T := TX7) (N := 7) hx hb ht ui_X7 hown hK hM hX.AX hX.obj rfl 5 (by decide) (ht _ uw_280) rfl dX7_run_77 ?_
          refine lv_iconst (v := 0) hx hb dX7_run_80 (by first | rfl | decide) ?_
          refine rt_putPl hx hb ht ui_X3 hown hK hM hS hTx FrT.rf (ht _ uw_238) dX7_run_81 (fun M H locs hM hT9 hF9 hS => ?_)
          have hX := hX.setX (L1 := 0) hT9 hF9
          refine lv_iload_n hx hb dX7_run_84 rfl (lv_at hl 1 rfl) ?_
          subst hQ
          exact m_zret hx hb hr (rfl) hlk hK hM hS dX7_run_85 (by
              have e5 : w0 = (d, v9) := by
                rw [← hw]
                first
                  | exact run_0 (nI_le_of (by omega) (by decide) c_40) ho
                  | exact run_1 (nI_lt_of (by omega) (by decide) c_40) (by rw [e_r1] at c_50; exact ite_no c_50)
              rw [oRun_y hfau (show runL f L 60 0 0 now = (d, v9) from hw0.symm.trans e5)]
              rw [← hN] at hX
              exact ⟨rfl, π, hX⟩)
        · have ok : (ordC f L q).1 = true := by rw [e_r1] at c_50; exact ite_ok c_50
          have hq5 := ordC_q f L q
          obtain ⟨k1, k2, k4⟩ := k9 ok
          have hI9 : CI (v9, recV k hs now n, recK k, sl, sv, f, L) := ⟨hon9, recK_le hk6, recV_on hhs ⟨n, hn20, hn⟩ hk6, hsl, hL, hch⟩
          rcases ord_cases ok with ⟨ek, i, hi, ei⟩ | ⟨ek, i, hi, ei⟩
          · have k3 := k4 ek
            refine lv_aload_n hx hb dX7_run_53 rfl (lv_at hl 2 rfl) ?_
            refine m_callI (As := []) (rest := []) ⟨hx, hb, hml, hown, ht⟩ (k_X7_obey_s l g A M X v9 (recV k hs now n) (recK k) sl sv f L (RXS.of hX) hI9 rs1 hTx (k1.trans ek) i hi (k3.trans ei)) (cwV 0 ht (gU uw_475 uw_477 uw_10 uw_34 uw_478) rfl rfl rfl (by decide +kernel) ⟨by decide, by decide⟩) hK hM hS (m_recv hK hM hX.AX hX.obj rfl) rfl hl.1 rfl (Nat.le_of_ble_eq_true rfl) dX7_run_54 ⟨by decide, by decide⟩ (fun r9 M H locs hp hM hS => ?_)
            obtain ⟨e9, ⟨π, hX9⟩, hTx⟩ := hp
            have hX : RX g A M0 M X π (obeV v9 (ordC f L q)).2 (recV k hs now n) (recK k) sl sv f L := ⟨by rw [obeV_s ek ei hi]; exact hX9.1, fun z1 z2 => (hX9.2 z1 z2).trans (hX.2 z1 z2)⟩
            have e57 : (obeV v9 (ordC f L q)).1 = r9 := by rw [obeV_s ek ei hi]; exact e9.symm
            refine lv_if_eq (tgt := 63) hx hb dX7_run_57 (by decide) (fun c_57 => ?_) (fun c_57 => ?_)
            · refine lv_aload_n hx hb dX7_run_63 rfl (lv_at hl 2 rfl) ?_
              refine m_get (ci := 7) (C := RX7) (T := TX7) (N := 7) hx hb ht ui_X7 hown hK hM hX.AX hX.obj rfl 6 (by decide) (ht _ uw_281) rfl dX7_run_64 ?_
              refine m_callV (As := []) (rest := []) ⟨hx, hb, hml, hown, ht⟩ (k_X2_passSeparator l g A M (X + 285) f L rs1 hTx hL) (cwV 0 ht (gU uw_479 uw_468 uw_469 uw_41 uw_470) rfl rfl rfl (by decide +kernel) ⟨by decide, by decide⟩) hK hM hS (m_recv hK hM hTx.2.2.1 hTx.2.2.2.2.2 rfl) rfl hl.1 rfl (Nat.le_of_ble_eq_true rfl) dX7_run_67 ⟨by decide, by decide⟩ (fun M H locs hp hM hS => ?_)
              obtain ⟨hT9, hF9⟩ := hp
              have hX := hX.setX hT9 hF9
              have hTx := hT9
              refine lv_iinc (v := nI (o + 1)) (lv' := [(2, .int (nI (o + 1))), (1, .int (d)), (0, .ref (X))]) hx hb dX7_run_70 hl (k := 0) rfl (nI_1 _) (by decide) rfl (fun ls hl => ?_)
              refine lv_goto (tgt := 37) hx hb dX7_run_73 (by decide) ?_
              exact ih_37 (o + 1) ((ordC f L q).2.1 + 1) d ((obeV v9 (ordC f L q)).2) π _ _ _ _ _ (by omega) (by omega) (by omega) (by show rs1 0 + 1 = _; rw [k0]; exact nI_1 _) (obeV_on hon9) (by rw [← hw]; exact run_n ho60 ok (by rw [e57]; exact c_57)) hM hX hTx hS (lv_sub hl [0, 1, 2] rfl)
            · refine lv_iinc (v := (d) + (1)) (lv' := [(1, .int ((d) + (1))), (2, .int (nI o)), (0, .ref (X))]) hx hb dX7_run_60 hl (k := 1) rfl (rfl) (by decide) rfl (fun ls hl => ?_)
              refine lv_aload_n hx hb dX7_run_63 rfl (lv_at hl 2 rfl) ?_
              refine m_get (ci := 7) (C := RX7) (T := TX7) (N := 7) hx hb ht ui_X7 hown hK hM hX.AX hX.obj rfl 6 (by decide) (ht _ uw_281) rfl dX7_run_64 ?_
              refine m_callV (As := []) (rest := []) ⟨hx, hb, hml, hown, ht⟩ (k_X2_passSeparator l g A M (X + 285) f L rs1 hTx hL) (cwV 0 ht (gU uw_479 uw_468 uw_469 uw_41 uw_470) rfl rfl rfl (by decide +kernel) ⟨by decide, by decide⟩) hK hM hS (m_recv hK hM hTx.2.2.1 hTx.2.2.2.2.2 rfl) rfl hl.1 rfl (Nat.le_of_ble_eq_true rfl) dX7_run_67 ⟨by decide, by decide⟩ (fun M H locs hp hM hS => ?_)
              obtain ⟨hT9, hF9⟩ := hp
              have hX := hX.setX hT9 hF9
              have hTx := hT9
              refine lv_iinc (v := nI (o + 1)) (lv' := [(2, .int (nI (o + 1))), (1, .int ((d) + (1))), (0, .ref (X))]) hx hb dX7_run_70 hl (k := 1) rfl (nI_1 _) (by decide) rfl (fun ls hl => ?_)
              refine lv_goto (tgt := 37) hx hb dX7_run_73 (by decide) ?_
              exact ih_37 (o + 1) ((ordC f L q).2.1 + 1) ((d) + (1)) ((obeV v9 (ordC f L q)).2) π _ _ _ _ _ (by omega) (by omega) (by omega) (by show rs1 0 + 1 = _; rw [k0]; exact nI_1 _) (obeV_on hon9) (by rw [← hw]; exact run_y ho60 ok (by rw [e57]; exact c_57)) hM hX hTx hS (lv_sub hl [0, 1, 2] rfl)
          · have k3 := k2 ek
            refine lv_aload_n hx hb dX7_run_53 rfl (lv_at hl 2 rfl) ?_
            refine m_callI (As := []) (rest := []) ⟨hx, hb, hml, hown, ht⟩ (k_X7_obey_r l g A M X v9 (recV k hs now n) (recK k) sl sv f L (RXS.of hX) hI9 rs1 hTx (k1.trans ek) i hi (k3.2.trans ei)) (cwV 0 ht (gU uw_475 uw_477 uw_10 uw_34 uw_478) rfl rfl rfl (by decide +kernel) ⟨by decide, by decide⟩) hK hM hS (m_recv hK hM hX.AX hX.obj rfl) rfl hl.1 rfl (Nat.le_of_ble_eq_true rfl) dX7_run_54 ⟨by decide, by decide⟩ (fun r9 M H locs hp hM hS => ?_)
            obtain ⟨e9, ⟨π, hX9⟩, hTx⟩ := hp
            have hX : RX g A M0 M X π (obeV v9 (ordC f L q)).2 (recV k hs now n) (recK k) sl sv f L := ⟨by rw [obeV_r ek, ← k3.1, ← k3.2]; exact hX9.1, fun z1 z2 => (hX9.2 z1 z2).trans (hX.2 z1 z2)⟩
            have e57 : (obeV v9 (ordC f L q)).1 = r9 := by rw [obeV_r ek, ← k3.1, ← k3.2]; exact e9.symm
            refine lv_if_eq (tgt := 63) hx hb dX7_run_57 (by decide) (fun c_57 => ?_) (fun c_57 => ?_)
            · refine lv_aload_n hx hb dX7_run_63 rfl (lv_at hl 2 rfl) ?_
              refine m_get (ci := 7) (C := RX7) (T := TX7) (N := 7) hx hb ht ui_X7 hown hK hM hX.AX hX.obj rfl 6 (by decide) (ht _ uw_281) rfl dX7_run_64 ?_
              refine m_callV (As := []) (rest := []) ⟨hx, hb, hml, hown, ht⟩ (k_X2_passSeparator l g A M (X + 285) f L rs1 hTx hL) (cwV 0 ht (gU uw_479 uw_468 uw_469 uw_41 uw_470) rfl rfl rfl (by decide +kernel) ⟨by decide, by decide⟩) hK hM hS (m_recv hK hM hTx.2.2.1 hTx.2.2.2.2.2 rfl) rfl hl.1 rfl (Nat.le_of_ble_eq_true rfl) dX7_run_67 ⟨by decide, by decide⟩ (fun M H locs hp hM hS => ?_)
              obtain ⟨hT9, hF9⟩ := hp
              have hX := hX.setX hT9 hF9
              have hTx := hT9
              refine lv_iinc (v := nI (o + 1)) (lv' := [(2, .int (nI (o + 1))), (1, .int (d)), (0, .ref (X))]) hx hb dX7_run_70 hl (k := 0) rfl (nI_1 _) (by decide) rfl (fun ls hl => ?_)
              refine lv_goto (tgt := 37) hx hb dX7_run_73 (by decide) ?_
              exact ih_37 (o + 1) ((ordC f L q).2.1 + 1) d ((obeV v9 (ordC f L q)).2) π _ _ _ _ _ (by omega) (by omega) (by omega) (by show rs1 0 + 1 = _; rw [k0]; exact nI_1 _) (obeV_on hon9) (by rw [← hw]; exact run_n ho60 ok (by rw [e57]; exact c_57)) hM hX hTx hS (lv_sub hl [0, 1, 2] rfl)
            · refine lv_iinc (v := (d) + (1)) (lv' := [(1, .int ((d) + (1))), (2, .int (nI o)), (0, .ref (X))]) hx hb dX7_run_60 hl (k := 1) rfl (rfl) (by decide) rfl (fun ls hl => ?_)
              refine lv_aload_n hx hb dX7_run_63 rfl (lv_at hl 2 rfl) ?_
              refine m_get (ci := 7) (C := RX7) (T := TX7) (N := 7) hx hb ht ui_X7 hown hK hM hX.AX hX.obj rfl 6 (by decide) (ht _ uw_281) rfl dX7_run_64 ?_
              refine m_callV (As := []) (rest := []) ⟨hx, hb, hml, hown, ht⟩ (k_X2_passSeparator l g A M (X + 285) f L rs1 hTx hL) (cwV 0 ht (gU uw_479 uw_468 uw_469 uw_41 uw_470) rfl rfl rfl (by decide +kernel) ⟨by decide, by decide⟩) hK hM hS (m_recv hK hM hTx.2.2.1 hTx.2.2.2.2.2 rfl) rfl hl.1 rfl (Nat.le_of_ble_eq_true rfl) dX7_run_67 ⟨by decide, by decide⟩ (fun M H locs hp hM hS => ?_)
              obtain ⟨hT9, hF9⟩ := hp
              have hX := hX.setX hT9 hF9
              have hTx := hT9
              refine lv_iinc (v := nI (o + 1)) (lv' := [(2, .int (nI (o + 1))), (1, .int ((d) + (1))), (0, .ref (X))]) hx hb dX7_run_70 hl (k := 1) rfl (nI_1 _) (by decide) rfl (fun ls hl => ?_)
              refine lv_goto (tgt := 37) hx hb dX7_run_73 (by decide) ?_
              exact ih_37 (o + 1) ((ordC f L q).2.1 + 1) ((d) + (1)) ((obeV v9 (ordC f L q)).2) π _ _ _ _ _ (by omega) (by omega) (by omega) (by show rs1 0 + 1 = _; rw [k0]; exact nI_1 _) (obeV_on hon9) (by rw [← hw]; exact run_y ho60 ok (by rw [e57]; exact c_57)) hM hX hTx hS (lv_sub hl [0, 1, 2] rfl)
    exact loop_37 _ 0 0 0 now π (va_up rs7 0 0) _ _ _ _ (Nat.lt_succ_self _) (by omega) (by omega) rfl hI.1 hw0.symm hM hX hTx hS (lv_sub hl [0, 1, 2] rfl)
  · refine lv_ldc (v := (-1000003)) hx hb hown (ht _ uw_472) dX7_run_12 ?_
    subst hQ
    exact m_zret hx hb hr (rfl) hlk hK hM hS dX7_run_14 (by rw [oRun_b (fun z => c_9 (e9.trans (by rw [z])))]; exact ⟨rfl, π, hX⟩)
end
