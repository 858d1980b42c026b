section
-- ===== PART A: goes FIRST, ahead of the names: the tables' words, and 'selects' of the private methods out of them =====
/-- a private method of a class that the tables say can be made, by its rows of tables_1 -/
def lw_okq (q : MethodName × Nat) : Prop := (q.1.cls ≠ "java/lang/invoke/MethodHandle" ∧ q.1.cls ≠ "java/lang/invoke/VarHandle") ∧ Cond.instantiable q.1.cls q.2 ∈ tables_1 ∧ Cond.privateMethod q.1 ∈ tables_1 ∧ Cond.instanceMethod q.1 ∈ tables_1
theorem lw_p0 : lw_okq (⟨"RouteWatch$Houses", "providersOf", "(I)I"⟩, 5) := ⟨⟨by decide +kernel, by decide +kernel⟩, List.mem_of_getElem? (i := 20) (by decide +kernel), List.mem_of_getElem? (i := 190) (by decide +kernel), List.mem_of_getElem? (i := 191) (by decide +kernel)⟩
theorem lw_p1 : lw_okq (⟨"RouteWatch$Houses", "put", "(III)V"⟩, 5) := ⟨⟨by decide +kernel, by decide +kernel⟩, List.mem_of_getElem? (i := 20) (by decide +kernel), List.mem_of_getElem? (i := 202) (by decide +kernel), List.mem_of_getElem? (i := 203) (by decide +kernel)⟩
theorem lw_p2 : lw_okq (⟨"RouteWatch", "refusal", "(I)I"⟩, 6) := ⟨⟨by decide +kernel, by decide +kernel⟩, List.mem_of_getElem? (i := 12) (by decide +kernel), List.mem_of_getElem? (i := 302) (by decide +kernel), List.mem_of_getElem? (i := 303) (by decide +kernel)⟩
theorem lw_p3 : lw_okq (⟨"RouteWatch$Settling", "goRound", "(III)Z"⟩, 6) := ⟨⟨by decide +kernel, by decide +kernel⟩, List.mem_of_getElem? (i := 77) (by decide +kernel), List.mem_of_getElem? (i := 329) (by decide +kernel), List.mem_of_getElem? (i := 330) (by decide +kernel)⟩
theorem lw_p4 : lw_okq (⟨"RouteWatch$Settling", "openHouses", "(I)I"⟩, 6) := ⟨⟨by decide +kernel, by decide +kernel⟩, List.mem_of_getElem? (i := 77) (by decide +kernel), List.mem_of_getElem? (i := 333) (by decide +kernel), List.mem_of_getElem? (i := 334) (by decide +kernel)⟩
theorem lw_p5 : lw_okq (⟨"RouteWatch$Settling", "bestFor", "(III)I"⟩, 6) := ⟨⟨by decide +kernel, by decide +kernel⟩, List.mem_of_getElem? (i := 77) (by decide +kernel), List.mem_of_getElem? (i := 352) (by decide +kernel), List.mem_of_getElem? (i := 353) (by decide +kernel)⟩
theorem lw_p6 : lw_okq (⟨"RouteWatch$Goings", "fillHops", "(LRouteWatch$Ways;)I"⟩, 5) := ⟨⟨by decide +kernel, by decide +kernel⟩, List.mem_of_getElem? (i := 122) (by decide +kernel), List.mem_of_getElem? (i := 410) (by decide +kernel), List.mem_of_getElem? (i := 411) (by decide +kernel)⟩
theorem lw_p7 : lw_okq (⟨"RouteWatch", "isFalse", "(I)Z"⟩, 6) := ⟨⟨by decide +kernel, by decide +kernel⟩, List.mem_of_getElem? (i := 12) (by decide +kernel), List.mem_of_getElem? (i := 450) (by decide +kernel), List.mem_of_getElem? (i := 451) (by decide +kernel)⟩
theorem lw_p8 : lw_okq (⟨"RouteWatch", "seersOf", "(I)I"⟩, 6) := ⟨⟨by decide +kernel, by decide +kernel⟩, List.mem_of_getElem? (i := 12) (by decide +kernel), List.mem_of_getElem? (i := 454) (by decide +kernel), List.mem_of_getElem? (i := 455) (by decide +kernel)⟩
theorem lw_p9 : lw_okq (⟨"RouteWatch", "noteSeersOfFalse", "()I"⟩, 6) := ⟨⟨by decide +kernel, by decide +kernel⟩, List.mem_of_getElem? (i := 12) (by decide +kernel), List.mem_of_getElem? (i := 465) (by decide +kernel), List.mem_of_getElem? (i := 466) (by decide +kernel)⟩
theorem lw_p10 : lw_okq (⟨"RouteWatch", "meetsAll", "(II)Z"⟩, 6) := ⟨⟨by decide +kernel, by decide +kernel⟩, List.mem_of_getElem? (i := 12) (by decide +kernel), List.mem_of_getElem? (i := 473) (by decide +kernel), List.mem_of_getElem? (i := 474) (by decide +kernel)⟩
theorem lw_p11 : lw_okq (⟨"RouteWatch", "nextSet", "(I)I"⟩, 6) := ⟨⟨by decide +kernel, by decide +kernel⟩, List.mem_of_getElem? (i := 12) (by decide +kernel), List.mem_of_getElem? (i := 477) (by decide +kernel), List.mem_of_getElem? (i := 478) (by decide +kernel)⟩
theorem lw_p12 : lw_okq (⟨"RouteWatch", "falseSayings", "()I"⟩, 6) := ⟨⟨by decide +kernel, by decide +kernel⟩, List.mem_of_getElem? (i := 12) (by decide +kernel), List.mem_of_getElem? (i := 513) (by decide +kernel), List.mem_of_getElem? (i := 514) (by decide +kernel)⟩
theorem lw_p13 : lw_okq (⟨"RouteWatchModel", "isHouse", "(I)Z"⟩, 20) := ⟨⟨by decide +kernel, by decide +kernel⟩, List.mem_of_getElem? (i := 517) (by decide +kernel), List.mem_of_getElem? (i := 592) (by decide +kernel), List.mem_of_getElem? (i := 593) (by decide +kernel)⟩
theorem lw_p14 : lw_okq (⟨"RouteWatchModel", "above", "(I)I"⟩, 20) := ⟨⟨by decide +kernel, by decide +kernel⟩, List.mem_of_getElem? (i := 517) (by decide +kernel), List.mem_of_getElem? (i := 599) (by decide +kernel), List.mem_of_getElem? (i := 600) (by decide +kernel)⟩
theorem lw_p15 : lw_okq (⟨"RouteWatchModel", "rightOf", "(II)I"⟩, 20) := ⟨⟨by decide +kernel, by decide +kernel⟩, List.mem_of_getElem? (i := 517) (by decide +kernel), List.mem_of_getElem? (i := 617) (by decide +kernel), List.mem_of_getElem? (i := 618) (by decide +kernel)⟩
def lw_privs_1 : List (MethodName × Nat) := [(⟨"RouteWatch$Houses", "providersOf", "(I)I"⟩, 5), (⟨"RouteWatch$Houses", "put", "(III)V"⟩, 5), (⟨"RouteWatch", "refusal", "(I)I"⟩, 6), (⟨"RouteWatch$Settling", "goRound", "(III)Z"⟩, 6), (⟨"RouteWatch$Settling", "openHouses", "(I)I"⟩, 6), (⟨"RouteWatch$Settling", "bestFor", "(III)I"⟩, 6), (⟨"RouteWatch$Goings", "fillHops", "(LRouteWatch$Ways;)I"⟩, 5), (⟨"RouteWatch", "isFalse", "(I)Z"⟩, 6), (⟨"RouteWatch", "seersOf", "(I)I"⟩, 6), (⟨"RouteWatch", "noteSeersOfFalse", "()I"⟩, 6), (⟨"RouteWatch", "meetsAll", "(II)Z"⟩, 6), (⟨"RouteWatch", "nextSet", "(I)I"⟩, 6), (⟨"RouteWatch", "falseSayings", "()I"⟩, 6), (⟨"RouteWatchModel", "isHouse", "(I)Z"⟩, 20), (⟨"RouteWatchModel", "above", "(I)I"⟩, 20), (⟨"RouteWatchModel", "rightOf", "(II)I"⟩, 20)]
theorem lw_r1 : ∀ q ∈ lw_privs_1, lw_okq q := List.forall_mem_cons.mpr ⟨lw_p0, List.forall_mem_cons.mpr ⟨lw_p1, List.forall_mem_cons.mpr ⟨lw_p2, List.forall_mem_cons.mpr ⟨lw_p3, List.forall_mem_cons.mpr ⟨lw_p4, List.forall_mem_cons.mpr ⟨lw_p5, List.forall_mem_cons.mpr ⟨lw_p6, List.forall_mem_cons.mpr ⟨lw_p7, List.forall_mem_cons.mpr ⟨lw_p8, List.forall_mem_cons.mpr ⟨lw_p9, List.forall_mem_cons.mpr ⟨lw_p10, List.forall_mem_cons.mpr ⟨lw_p11, List.forall_mem_cons.mpr ⟨lw_p12, List.forall_mem_cons.mpr ⟨lw_p13, List.forall_mem_cons.mpr ⟨lw_p14, List.forall_mem_cons.mpr ⟨lw_p15, fun _ h => absurd h List.not_mem_nil⟩⟩⟩⟩⟩⟩⟩⟩⟩⟩⟩⟩⟩⟩⟩⟩
theorem lw_p16 : lw_okq (⟨"RouteWatchModel", "rightfulFor", "(II)I"⟩, 20) := ⟨⟨by decide +kernel, by decide +kernel⟩, List.mem_of_getElem? (i := 517) (by decide +kernel), List.mem_of_getElem? (i := 629) (by decide +kernel), List.mem_of_getElem? (i := 630) (by decide +kernel)⟩
theorem lw_p17 : lw_okq (⟨"RouteWatchModel", "says", "(III)Z"⟩, 20) := ⟨⟨by decide +kernel, by decide +kernel⟩, List.mem_of_getElem? (i := 517) (by decide +kernel), List.mem_of_getElem? (i := 637) (by decide +kernel), List.mem_of_getElem? (i := 638) (by decide +kernel)⟩
theorem lw_p18 : lw_okq (⟨"RouteWatchModel", "addSaying", "(III)V"⟩, 20) := ⟨⟨by decide +kernel, by decide +kernel⟩, List.mem_of_getElem? (i := 517) (by decide +kernel), List.mem_of_getElem? (i := 641) (by decide +kernel), List.mem_of_getElem? (i := 642) (by decide +kernel)⟩
theorem lw_p19 : lw_okq (⟨"RouteWatchModel", "asked", "(II)I"⟩, 20) := ⟨⟨by decide +kernel, by decide +kernel⟩, List.mem_of_getElem? (i := 517) (by decide +kernel), List.mem_of_getElem? (i := 657) (by decide +kernel), List.mem_of_getElem? (i := 658) (by decide +kernel)⟩
theorem lw_p20 : lw_okq (⟨"RouteWatchModel", "isSaid", "(II)Z"⟩, 20) := ⟨⟨by decide +kernel, by decide +kernel⟩, List.mem_of_getElem? (i := 517) (by decide +kernel), List.mem_of_getElem? (i := 661) (by decide +kernel), List.mem_of_getElem? (i := 662) (by decide +kernel)⟩
theorem lw_p21 : lw_okq (⟨"RouteWatchModel", "findWays", "(III)V"⟩, 20) := ⟨⟨by decide +kernel, by decide +kernel⟩, List.mem_of_getElem? (i := 517) (by decide +kernel), List.mem_of_getElem? (i := 665) (by decide +kernel), List.mem_of_getElem? (i := 666) (by decide +kernel)⟩
theorem lw_p22 : lw_okq (⟨"RouteWatchModel", "goRound", "(III)Z"⟩, 20) := ⟨⟨by decide +kernel, by decide +kernel⟩, List.mem_of_getElem? (i := 517) (by decide +kernel), List.mem_of_getElem? (i := 669) (by decide +kernel), List.mem_of_getElem? (i := 670) (by decide +kernel)⟩
theorem lw_p23 : lw_okq (⟨"RouteWatchModel", "bestFor", "(IIII)I"⟩, 20) := ⟨⟨by decide +kernel, by decide +kernel⟩, List.mem_of_getElem? (i := 517) (by decide +kernel), List.mem_of_getElem? (i := 673) (by decide +kernel), List.mem_of_getElem? (i := 674) (by decide +kernel)⟩
theorem lw_p24 : lw_okq (⟨"RouteWatchModel", "mayTake", "(IIIII)Z"⟩, 20) := ⟨⟨by decide +kernel, by decide +kernel⟩, List.mem_of_getElem? (i := 517) (by decide +kernel), List.mem_of_getElem? (i := 677) (by decide +kernel), List.mem_of_getElem? (i := 678) (by decide +kernel)⟩
theorem lw_p25 : lw_okq (⟨"RouteWatchModel", "isOn", "(II)Z"⟩, 20) := ⟨⟨by decide +kernel, by decide +kernel⟩, List.mem_of_getElem? (i := 517) (by decide +kernel), List.mem_of_getElem? (i := 681) (by decide +kernel), List.mem_of_getElem? (i := 682) (by decide +kernel)⟩
theorem lw_p26 : lw_okq (⟨"RouteWatchModel", "passes", "(IIII)Z"⟩, 20) := ⟨⟨by decide +kernel, by decide +kernel⟩, List.mem_of_getElem? (i := 517) (by decide +kernel), List.mem_of_getElem? (i := 685) (by decide +kernel), List.mem_of_getElem? (i := 686) (by decide +kernel)⟩
theorem lw_p27 : lw_okq (⟨"RouteWatchModel", "findHops", "(II)V"⟩, 20) := ⟨⟨by decide +kernel, by decide +kernel⟩, List.mem_of_getElem? (i := 517) (by decide +kernel), List.mem_of_getElem? (i := 705) (by decide +kernel), List.mem_of_getElem? (i := 706) (by decide +kernel)⟩
theorem lw_p28 : lw_okq (⟨"RouteWatchModel", "endOf", "(I)I"⟩, 20) := ⟨⟨by decide +kernel, by decide +kernel⟩, List.mem_of_getElem? (i := 517) (by decide +kernel), List.mem_of_getElem? (i := 709) (by decide +kernel), List.mem_of_getElem? (i := 710) (by decide +kernel)⟩
theorem lw_p29 : lw_okq (⟨"RouteWatchModel", "nextOf", "(I)I"⟩, 20) := ⟨⟨by decide +kernel, by decide +kernel⟩, List.mem_of_getElem? (i := 517) (by decide +kernel), List.mem_of_getElem? (i := 713) (by decide +kernel), List.mem_of_getElem? (i := 714) (by decide +kernel)⟩
theorem lw_p30 : lw_okq (⟨"RouteWatchModel", "misledBy", "(II)I"⟩, 20) := ⟨⟨by decide +kernel, by decide +kernel⟩, List.mem_of_getElem? (i := 517) (by decide +kernel), List.mem_of_getElem? (i := 721) (by decide +kernel), List.mem_of_getElem? (i := 722) (by decide +kernel)⟩
theorem lw_p31 : lw_okq (⟨"RouteWatchModel", "isFalse", "(I)Z"⟩, 20) := ⟨⟨by decide +kernel, by decide +kernel⟩, List.mem_of_getElem? (i := 517) (by decide +kernel), List.mem_of_getElem? (i := 729) (by decide +kernel), List.mem_of_getElem? (i := 730) (by decide +kernel)⟩
def lw_privs_2 : List (MethodName × Nat) := [(⟨"RouteWatchModel", "rightfulFor", "(II)I"⟩, 20), (⟨"RouteWatchModel", "says", "(III)Z"⟩, 20), (⟨"RouteWatchModel", "addSaying", "(III)V"⟩, 20), (⟨"RouteWatchModel", "asked", "(II)I"⟩, 20), (⟨"RouteWatchModel", "isSaid", "(II)Z"⟩, 20), (⟨"RouteWatchModel", "findWays", "(III)V"⟩, 20), (⟨"RouteWatchModel", "goRound", "(III)Z"⟩, 20), (⟨"RouteWatchModel", "bestFor", "(IIII)I"⟩, 20), (⟨"RouteWatchModel", "mayTake", "(IIIII)Z"⟩, 20), (⟨"RouteWatchModel", "isOn", "(II)Z"⟩, 20), (⟨"RouteWatchModel", "passes", "(IIII)Z"⟩, 20), (⟨"RouteWatchModel", "findHops", "(II)V"⟩, 20), (⟨"RouteWatchModel", "endOf", "(I)I"⟩, 20), (⟨"RouteWatchModel", "nextOf", "(I)I"⟩, 20), (⟨"RouteWatchModel", "misledBy", "(II)I"⟩, 20), (⟨"RouteWatchModel", "isFalse", "(I)Z"⟩, 20)]
theorem lw_r2 : ∀ q ∈ lw_privs_2, lw_okq q := List.forall_mem_cons.mpr ⟨lw_p16, List.forall_mem_cons.mpr ⟨lw_p17, List.forall_mem_cons.mpr ⟨lw_p18, List.forall_mem_cons.mpr ⟨lw_p19, List.forall_mem_cons.mpr ⟨lw_p20, List.forall_mem_cons.mpr ⟨lw_p21, List.forall_mem_cons.mpr ⟨lw_p22, List.forall_mem_cons.mpr ⟨lw_p23, List.forall_mem_cons.mpr ⟨lw_p24, List.forall_mem_cons.mpr ⟨lw_p25, List.forall_mem_cons.mpr ⟨lw_p26, List.forall_mem_cons.mpr ⟨lw_p27, List.forall_mem_cons.mpr ⟨lw_p28, List.forall_mem_cons.mpr ⟨lw_p29, List.forall_mem_cons.mpr ⟨lw_p30, List.forall_mem_cons.mpr ⟨lw_p31, fun _ h => absurd h List.not_mem_nil⟩⟩⟩⟩⟩⟩⟩⟩⟩⟩⟩⟩⟩⟩⟩⟩
theorem lw_p32 : lw_okq (⟨"RouteWatchModel", "seenBy", "(I)I"⟩, 20) := ⟨⟨by decide +kernel, by decide +kernel⟩, List.mem_of_getElem? (i := 517) (by decide +kernel), List.mem_of_getElem? (i := 733) (by decide +kernel), List.mem_of_getElem? (i := 734) (by decide +kernel)⟩
def lw_privs_3 : List (MethodName × Nat) := [(⟨"RouteWatchModel", "seenBy", "(I)I"⟩, 20)]
theorem lw_r3 : ∀ q ∈ lw_privs_3, lw_okq q := List.forall_mem_cons.mpr ⟨lw_p32, fun _ h => absurd h List.not_mem_nil⟩
def lw_privs : List (MethodName × Nat) := lw_privs_1 ++ (lw_privs_2 ++ (lw_privs_3))
def lw_tbl : List Cond := k2_sels lw_privs ++ tables_1
theorem lw_privs_ok : ∀ q ∈ lw_privs, lw_okq q := by
  show ∀ q ∈ lw_privs_1 ++ (lw_privs_2 ++ (lw_privs_3)), lw_okq q
  exact List.forall_mem_append.mpr ⟨lw_r1, List.forall_mem_append.mpr ⟨lw_r2, lw_r3⟩⟩

def RX0 : String := "RouteWatch$Goings"
def TX0 : u_T := fun k => match k with
  | 0 => ("RouteWatch$Goings", "houses", "LRouteWatch$Houses;", true)
  | 1 => ("RouteWatch$Goings", "rights", "LRouteWatch$Rights;", true)
  | 2 => ("RouteWatch$Goings", "sayings", "LRouteWatch$Sayings;", true)
  | 3 => ("RouteWatch$Goings", "settling", "LRouteWatch$Settling;", true)
  | _ => ("RouteWatch$Goings", "hops", "[I", true)
def tyX0 : Nat → FieldType := fun k => match k with
  | 0 => .object "RouteWatch$Houses"
  | 1 => .object "RouteWatch$Rights"
  | 2 => .object "RouteWatch$Sayings"
  | 3 => .object "RouteWatch$Settling"
  | _ => .array .int
theorem nmX0 : ∀ a, a < 5 → ∀ b, b < 5 → a ≠ b → (TX0 a).2.1 ≠ (TX0 b).2.1 := by decide +kernel
theorem tyX0_ok : ∀ k, k < 5 → parseFieldDescriptor (TX0 k).2.2.1 = some (tyX0 k) := by decide +kernel
abbrev cX0_init : ByteArray := prog_2_method_1_code
def yX0_init : MethodName := ⟨RX0, "<init>", "(LRouteWatch$Houses;LRouteWatch$Rights;LRouteWatch$Sayings;LRouteWatch$Settling;)V"⟩
abbrev cX0_look : ByteArray := prog_2_method_2_code
def yX0_look : MethodName := ⟨RX0, "look", "(II)V"⟩
abbrev cX0_fillHops : ByteArray := prog_2_method_3_code
def yX0_fillHops : MethodName := ⟨RX0, "fillHops", "(LRouteWatch$Ways;)I"⟩
abbrev cX0_end : ByteArray := prog_2_method_4_code
def yX0_end : MethodName := ⟨RX0, "end", "(I)I"⟩
abbrev cX0_astray : ByteArray := prog_2_method_5_code
def yX0_astray : MethodName := ⟨RX0, "astray", "(II)I"⟩
abbrev cX0_allSayers : ByteArray := prog_2_method_6_code
def yX0_allSayers : MethodName := ⟨RX0, "allSayers", "(I)I"⟩
abbrev cX0_helpers : ByteArray := prog_2_method_7_code
def yX0_helpers : MethodName := ⟨RX0, "helpers", "(I)I"⟩
def RX1 : String := "RouteWatch$Houses"
def TX1 : u_T := fun k => match k with
  | 0 => ("RouteWatch$Houses", "number", "I", false)
  | 1 => ("RouteWatch$Houses", "ties", "I", false)
  | 2 => ("RouteWatch$Houses", "leaking", "I", false)
  | 3 => ("RouteWatch$Houses", "refusing", "I", false)
  | _ => ("RouteWatch$Houses", "kinds", "[[I", true)
def tyX1 : Nat → FieldType := fun k => match k with
  | 0 => .int
  | 1 => .int
  | 2 => .int
  | 3 => .int
  | _ => .array (.array .int)
theorem nmX1 : ∀ a, a < 5 → ∀ b, b < 5 → a ≠ b → (TX1 a).2.1 ≠ (TX1 b).2.1 := by decide +kernel
theorem tyX1_ok : ∀ k, k < 5 → parseFieldDescriptor (TX1 k).2.2.1 = some (tyX1 k) := by decide +kernel
abbrev cX1_init : ByteArray := prog_3_method_1_code
def yX1_init : MethodName := ⟨RX1, "<init>", "()V"⟩
abbrev cX1_number : ByteArray := prog_3_method_2_code
def yX1_number : MethodName := ⟨RX1, "number", "()I"⟩
abbrev cX1_ties : ByteArray := prog_3_method_3_code
def yX1_ties : MethodName := ⟨RX1, "ties", "()I"⟩
abbrev cX1_leaking : ByteArray := prog_3_method_4_code
def yX1_leaking : MethodName := ⟨RX1, "leaking", "()I"⟩
abbrev cX1_refusing : ByteArray := prog_3_method_5_code
def yX1_refusing : MethodName := ⟨RX1, "refusing", "()I"⟩
abbrev cX1_has : ByteArray := prog_3_method_6_code
def yX1_has : MethodName := ⟨RX1, "has", "(I)Z"⟩
abbrev cX1_build : ByteArray := prog_3_method_7_code
def yX1_build : MethodName := ⟨RX1, "build", "()I"⟩
abbrev cX1_kind : ByteArray := prog_3_method_8_code
def yX1_kind : MethodName := ⟨RX1, "kind", "(II)I"⟩
abbrev cX1_put : ByteArray := prog_3_method_9_code
def yX1_put : MethodName := ⟨RX1, "put", "(III)V"⟩
abbrev cX1_bind : ByteArray := prog_3_method_10_code
def yX1_bind : MethodName := ⟨RX1, "bind", "(IIII)V"⟩
abbrev cX1_part : ByteArray := prog_3_method_11_code
def yX1_part : MethodName := ⟨RX1, "part", "(II)V"⟩
abbrev cX1_isAbove : ByteArray := prog_3_method_12_code
def yX1_isAbove : MethodName := ⟨RX1, "isAbove", "(II)Z"⟩
abbrev cX1_providersOf : ByteArray := prog_3_method_13_code
def yX1_providersOf : MethodName := ⟨RX1, "providersOf", "(I)I"⟩
abbrev cX1_turnLeak : ByteArray := prog_3_method_14_code
def yX1_turnLeak : MethodName := ⟨RX1, "turnLeak", "(IZ)I"⟩
abbrev cX1_turnRefusal : ByteArray := prog_3_method_15_code
def yX1_turnRefusal : MethodName := ⟨RX1, "turnRefusal", "(IZ)I"⟩
def RX2 : String := "RouteWatch$Rights"
def TX2 : u_T := fun k => match k with
  | 0 => ("RouteWatch$Rights", "number", "I", false)
  | _ => ("RouteWatch$Rights", "holders", "[I", true)
def tyX2 : Nat → FieldType := fun k => match k with
  | 0 => .int
  | _ => .array .int
theorem nmX2 : ∀ a, a < 2 → ∀ b, b < 2 → a ≠ b → (TX2 a).2.1 ≠ (TX2 b).2.1 := by decide +kernel
theorem tyX2_ok : ∀ k, k < 2 → parseFieldDescriptor (TX2 k).2.2.1 = some (tyX2 k) := by decide +kernel
abbrev cX2_init : ByteArray := prog_4_method_1_code
def yX2_init : MethodName := ⟨RX2, "<init>", "()V"⟩
abbrev cX2_number : ByteArray := prog_4_method_2_code
def yX2_number : MethodName := ⟨RX2, "number", "()I"⟩
abbrev cX2_holder : ByteArray := prog_4_method_3_code
def yX2_holder : MethodName := ⟨RX2, "holder", "(I)I"⟩
abbrev cX2_give : ByteArray := prog_4_method_4_code
def yX2_give : MethodName := ⟨RX2, "give", "(II)V"⟩
abbrev cX2_owner : ByteArray := prog_4_method_5_code
def yX2_owner : MethodName := ⟨RX2, "owner", "(I)I"⟩
def RX3 : String := "RouteWatch$Sayings"
def TX3 : u_T := fun k => match k with
  | 0 => ("RouteWatch$Sayings", "number", "I", false)
  | 1 => ("RouteWatch$Sayings", "blocks", "[I", true)
  | 2 => ("RouteWatch$Sayings", "houses", "[I", true)
  | _ => ("RouteWatch$Sayings", "sayers", "[I", true)
def tyX3 : Nat → FieldType := fun k => match k with
  | 0 => .int
  | 1 => .array .int
  | 2 => .array .int
  | _ => .array .int
theorem nmX3 : ∀ a, a < 4 → ∀ b, b < 4 → a ≠ b → (TX3 a).2.1 ≠ (TX3 b).2.1 := by decide +kernel
theorem tyX3_ok : ∀ k, k < 4 → parseFieldDescriptor (TX3 k).2.2.1 = some (tyX3 k) := by decide +kernel
abbrev cX3_init : ByteArray := prog_5_method_1_code
def yX3_init : MethodName := ⟨RX3, "<init>", "()V"⟩
abbrev cX3_number : ByteArray := prog_5_method_2_code
def yX3_number : MethodName := ⟨RX3, "number", "()I"⟩
abbrev cX3_has : ByteArray := prog_5_method_3_code
def yX3_has : MethodName := ⟨RX3, "has", "(I)Z"⟩
abbrev cX3_block : ByteArray := prog_5_method_4_code
def yX3_block : MethodName := ⟨RX3, "block", "(I)I"⟩
abbrev cX3_sayer : ByteArray := prog_5_method_5_code
def yX3_sayer : MethodName := ⟨RX3, "sayer", "(I)I"⟩
abbrev cX3_sayers : ByteArray := prog_5_method_6_code
def yX3_sayers : MethodName := ⟨RX3, "sayers", "(I)I"⟩
abbrev cX3_suppose : ByteArray := prog_5_method_7_code
def yX3_suppose : MethodName := ⟨RX3, "suppose", "(II)V"⟩
abbrev cX3_add : ByteArray := prog_5_method_8_code
def yX3_add : MethodName := ⟨RX3, "add", "(II)I"⟩
abbrev cX3_drop : ByteArray := prog_5_method_9_code
def yX3_drop : MethodName := ⟨RX3, "drop", "(I)V"⟩
def RX4 : String := "RouteWatch$Settling"
def TX4 : u_T := fun k => match k with
  | 0 => ("RouteWatch$Settling", "houses", "LRouteWatch$Houses;", true)
  | 1 => ("RouteWatch$Settling", "rights", "LRouteWatch$Rights;", true)
  | 2 => ("RouteWatch$Settling", "sayings", "LRouteWatch$Sayings;", true)
  | 3 => ("RouteWatch$Settling", "now", "LRouteWatch$Ways;", true)
  | 4 => ("RouteWatch$Settling", "before", "LRouteWatch$Ways;", true)
  | _ => ("RouteWatch$Settling", "changing", "I", false)
def tyX4 : Nat → FieldType := fun k => match k with
  | 0 => .object "RouteWatch$Houses"
  | 1 => .object "RouteWatch$Rights"
  | 2 => .object "RouteWatch$Sayings"
  | 3 => .object "RouteWatch$Ways"
  | 4 => .object "RouteWatch$Ways"
  | _ => .int
theorem nmX4 : ∀ a, a < 6 → ∀ b, b < 6 → a ≠ b → (TX4 a).2.1 ≠ (TX4 b).2.1 := by decide +kernel
theorem tyX4_ok : ∀ k, k < 6 → parseFieldDescriptor (TX4 k).2.2.1 = some (tyX4 k) := by decide +kernel
abbrev cX4_init : ByteArray := prog_6_method_1_code
def yX4_init : MethodName := ⟨RX4, "<init>", "(LRouteWatch$Houses;LRouteWatch$Rights;LRouteWatch$Sayings;)V"⟩
abbrev cX4_ways : ByteArray := prog_6_method_2_code
def yX4_ways : MethodName := ⟨RX4, "ways", "()LRouteWatch$Ways;"⟩
abbrev cX4_changing : ByteArray := prog_6_method_3_code
def yX4_changing : MethodName := ⟨RX4, "changing", "()I"⟩
abbrev cX4_settle : ByteArray := prog_6_method_4_code
def yX4_settle : MethodName := ⟨RX4, "settle", "(II)V"⟩
abbrev cX4_goRound : ByteArray := prog_6_method_5_code
def yX4_goRound : MethodName := ⟨RX4, "goRound", "(III)Z"⟩
abbrev cX4_openHouses : ByteArray := prog_6_method_6_code
def yX4_openHouses : MethodName := ⟨RX4, "openHouses", "(I)I"⟩
abbrev cX4_bestFor : ByteArray := prog_6_method_7_code
def yX4_bestFor : MethodName := ⟨RX4, "bestFor", "(III)I"⟩
abbrev cX4_breaker : ByteArray := prog_6_method_8_code
def yX4_breaker : MethodName := ⟨RX4, "breaker", "(I)I"⟩
def RX5 : String := "RouteWatch$Ways"
def TX5 : u_T := fun k => match k with
  | 0 => ("RouteWatch$Ways", "rows", "[J", true)
  | 1 => ("RouteWatch$Ways", "lengths", "[I", true)
  | 2 => ("RouteWatch$Ways", "lasts", "[I", true)
  | _ => ("RouteWatch$Ways", "members", "[I", true)
def tyX5 : Nat → FieldType := fun k => match k with
  | 0 => .array .long
  | 1 => .array .int
  | 2 => .array .int
  | _ => .array .int
theorem nmX5 : ∀ a, a < 4 → ∀ b, b < 4 → a ≠ b → (TX5 a).2.1 ≠ (TX5 b).2.1 := by decide +kernel
theorem tyX5_ok : ∀ k, k < 4 → parseFieldDescriptor (TX5 k).2.2.1 = some (tyX5 k) := by decide +kernel
abbrev cX5_init : ByteArray := prog_7_method_1_code
def yX5_init : MethodName := ⟨RX5, "<init>", "()V"⟩
abbrev cX5_begin : ByteArray := prog_7_method_2_code
def yX5_begin : MethodName := ⟨RX5, "begin", "(I)V"⟩
abbrev cX5_copy : ByteArray := prog_7_method_3_code
def yX5_copy : MethodName := ⟨RX5, "copy", "(LRouteWatch$Ways;)V"⟩
abbrev cX5_length : ByteArray := prog_7_method_4_code
def yX5_length : MethodName := ⟨RX5, "length", "(I)I"⟩
abbrev cX5_at : ByteArray := prog_7_method_5_code
def yX5_at : MethodName := ⟨RX5, "at", "(II)I"⟩
abbrev cX5_last : ByteArray := prog_7_method_6_code
def yX5_last : MethodName := ⟨RX5, "last", "(I)I"⟩
abbrev cX5_isOn : ByteArray := prog_7_method_7_code
def yX5_isOn : MethodName := ⟨RX5, "isOn", "(II)Z"⟩
abbrev cX5_follow : ByteArray := prog_7_method_8_code
def yX5_follow : MethodName := ⟨RX5, "follow", "(ILRouteWatch$Ways;I)Z"⟩
def RX6 : String := "RouteWatch"
def TX6 : u_T := fun k => match k with
  | 0 => ("RouteWatch", "houses", "LRouteWatch$Houses;", true)
  | 1 => ("RouteWatch", "rights", "LRouteWatch$Rights;", true)
  | 2 => ("RouteWatch", "sayings", "LRouteWatch$Sayings;", true)
  | 3 => ("RouteWatch", "settling", "LRouteWatch$Settling;", true)
  | 4 => ("RouteWatch", "goings", "LRouteWatch$Goings;", true)
  | _ => ("RouteWatch", "seers", "[I", true)
def tyX6 : Nat → FieldType := fun k => match k with
  | 0 => .object "RouteWatch$Houses"
  | 1 => .object "RouteWatch$Rights"
  | 2 => .object "RouteWatch$Sayings"
  | 3 => .object "RouteWatch$Settling"
  | 4 => .object "RouteWatch$Goings"
  | _ => .array .int
theorem nmX6 : ∀ a, a < 6 → ∀ b, b < 6 → a ≠ b → (TX6 a).2.1 ≠ (TX6 b).2.1 := by decide +kernel
theorem tyX6_ok : ∀ k, k < 6 → parseFieldDescriptor (TX6 k).2.2.1 = some (tyX6 k) := by decide +kernel
abbrev cX6_init : ByteArray := prog_1_method_1_code
def yX6_init : MethodName := ⟨RX6, "<init>", "()V"⟩
abbrev cX6_house : ByteArray := prog_1_method_2_code
def yX6_house : MethodName := ⟨RX6, "house", "()I"⟩
abbrev cX6_tie : ByteArray := prog_1_method_3_code
def yX6_tie : MethodName := ⟨RX6, "tie", "(IIZ)I"⟩
abbrev cX6_untie : ByteArray := prog_1_method_4_code
def yX6_untie : MethodName := ⟨RX6, "untie", "(II)I"⟩
abbrev cX6_right : ByteArray := prog_1_method_5_code
def yX6_right : MethodName := ⟨RX6, "right", "(III)I"⟩
abbrev cX6_free : ByteArray := prog_1_method_6_code
def yX6_free : MethodName := ⟨RX6, "free", "(II)I"⟩
abbrev cX6_rightful : ByteArray := prog_1_method_7_code
def yX6_rightful : MethodName := ⟨RX6, "rightful", "(II)I"⟩
abbrev cX6_say : ByteArray := prog_1_method_8_code
def yX6_say : MethodName := ⟨RX6, "say", "(III)I"⟩
abbrev cX6_unsay : ByteArray := prog_1_method_9_code
def yX6_unsay : MethodName := ⟨RX6, "unsay", "(I)I"⟩
abbrev cX6_set : ByteArray := prog_1_method_10_code
def yX6_set : MethodName := ⟨RX6, "set", "(IIZ)I"⟩
abbrev cX6_rounds : ByteArray := prog_1_method_11_code
def yX6_rounds : MethodName := ⟨RX6, "rounds", "(II)I"⟩
abbrev cX6_restless : ByteArray := prog_1_method_12_code
def yX6_restless : MethodName := ⟨RX6, "restless", "(II)I"⟩
abbrev cX6_way : ByteArray := prog_1_method_13_code
def yX6_way : MethodName := ⟨RX6, "way", "(IIII)I"⟩
abbrev cX6_broken : ByteArray := prog_1_method_14_code
def yX6_broken : MethodName := ⟨RX6, "broken", "(III)I"⟩
abbrev cX6_goes : ByteArray := prog_1_method_15_code
def yX6_goes : MethodName := ⟨RX6, "goes", "(II)I"⟩
abbrev cX6_misled : ByteArray := prog_1_method_16_code
def yX6_misled : MethodName := ⟨RX6, "misled", "(I)I"⟩
abbrev cX6_saying : ByteArray := prog_1_method_17_code
def yX6_saying : MethodName := ⟨RX6, "saying", "(II)I"⟩
abbrev cX6_watchers : ByteArray := prog_1_method_18_code
def yX6_watchers : MethodName := ⟨RX6, "watchers", "()I"⟩
abbrev cX6_cure : ByteArray := prog_1_method_19_code
def yX6_cure : MethodName := ⟨RX6, "cure", "(I)I"⟩
abbrev cX6_halves : ByteArray := prog_1_method_20_code
def yX6_halves : MethodName := ⟨RX6, "halves", "(I)I"⟩
abbrev cX6_count : ByteArray := prog_1_method_21_code
def yX6_count : MethodName := ⟨RX6, "count", "(I)I"⟩
abbrev cX6_blockNumber : ByteArray := prog_1_method_22_code
def yX6_blockNumber : MethodName := ⟨RX6, "blockNumber", "(II)I"⟩
abbrev cX6_lengthOf : ByteArray := prog_1_method_23_code
def yX6_lengthOf : MethodName := ⟨RX6, "lengthOf", "(I)I"⟩
abbrev cX6_firstOf : ByteArray := prog_1_method_24_code
def yX6_firstOf : MethodName := ⟨RX6, "firstOf", "(I)I"⟩
abbrev cX6_isAddress : ByteArray := prog_1_method_25_code
def yX6_isAddress : MethodName := ⟨RX6, "isAddress", "(I)Z"⟩
abbrev cX6_isBlock : ByteArray := prog_1_method_26_code
def yX6_isBlock : MethodName := ⟨RX6, "isBlock", "(I)Z"⟩
abbrev cX6_bit : ByteArray := prog_1_method_27_code
def yX6_bit : MethodName := ⟨RX6, "bit", "(I)I"⟩
abbrev cX6_hasBit : ByteArray := prog_1_method_28_code
def yX6_hasBit : MethodName := ⟨RX6, "hasBit", "(II)Z"⟩
abbrev cX6_refusal : ByteArray := prog_1_method_29_code
def yX6_refusal : MethodName := ⟨RX6, "refusal", "(I)I"⟩
abbrev cX6_isFalse : ByteArray := prog_1_method_30_code
def yX6_isFalse : MethodName := ⟨RX6, "isFalse", "(I)Z"⟩
abbrev cX6_falseSayings : ByteArray := prog_1_method_31_code
def yX6_falseSayings : MethodName := ⟨RX6, "falseSayings", "()I"⟩
abbrev cX6_seersOf : ByteArray := prog_1_method_32_code
def yX6_seersOf : MethodName := ⟨RX6, "seersOf", "(I)I"⟩
abbrev cX6_noteSeersOfFalse : ByteArray := prog_1_method_33_code
def yX6_noteSeersOfFalse : MethodName := ⟨RX6, "noteSeersOfFalse", "()I"⟩
abbrev cX6_meetsAll : ByteArray := prog_1_method_34_code
def yX6_meetsAll : MethodName := ⟨RX6, "meetsAll", "(II)Z"⟩
abbrev cX6_nextSet : ByteArray := prog_1_method_35_code
def yX6_nextSet : MethodName := ⟨RX6, "nextSet", "(I)I"⟩
def RX7 : String := "RouteWatchModel"
def TX7 : u_T := fun k => match k with
  | 0 => ("RouteWatchModel", "houses", "I", false)
  | 1 => ("RouteWatchModel", "ties", "[I", true)
  | 2 => ("RouteWatchModel", "rights", "I", false)
  | 3 => ("RouteWatchModel", "rightLength", "[I", true)
  | 4 => ("RouteWatchModel", "rightFirst", "[I", true)
  | 5 => ("RouteWatchModel", "rightHouse", "[I", true)
  | 6 => ("RouteWatchModel", "sayings", "I", false)
  | 7 => ("RouteWatchModel", "sayLength", "[I", true)
  | 8 => ("RouteWatchModel", "sayFirst", "[I", true)
  | 9 => ("RouteWatchModel", "sayHouse", "[I", true)
  | 10 => ("RouteWatchModel", "leaks", "I", false)
  | 11 => ("RouteWatchModel", "refuses", "I", false)
  | 12 => ("RouteWatchModel", "ways", "[I", true)
  | 13 => ("RouteWatchModel", "size", "[I", true)
  | 14 => ("RouteWatchModel", "before", "[I", true)
  | 15 => ("RouteWatchModel", "sizeBefore", "[I", true)
  | 16 => ("RouteWatchModel", "roundMany", "I", false)
  | 17 => ("RouteWatchModel", "isRestless", "Z", false)
  | 18 => ("RouteWatchModel", "hops", "[I", true)
  | _ => ("RouteWatchModel", "sights", "[I", true)
def tyX7 : Nat → FieldType := fun k => match k with
  | 0 => .int
  | 1 => .array .int
  | 2 => .int
  | 3 => .array .int
  | 4 => .array .int
  | 5 => .array .int
  | 6 => .int
  | 7 => .array .int
  | 8 => .array .int
  | 9 => .array .int
  | 10 => .int
  | 11 => .int
  | 12 => .array .int
  | 13 => .array .int
  | 14 => .array .int
  | 15 => .array .int
  | 16 => .int
  | 17 => .boolean
  | 18 => .array .int
  | _ => .array .int
theorem nmX7 : ∀ a, a < 20 → ∀ b, b < 20 → a ≠ b → (TX7 a).2.1 ≠ (TX7 b).2.1 := by decide +kernel
theorem tyX7_ok : ∀ k, k < 20 → parseFieldDescriptor (TX7 k).2.2.1 = some (tyX7 k) := by decide +kernel
abbrev cX7_init : ByteArray := prog_9_method_1_code
def yX7_init : MethodName := ⟨RX7, "<init>", "()V"⟩
abbrev cX7_in : ByteArray := prog_9_method_2_code
def yX7_in : MethodName := ⟨RX7, "in", "(III)Z"⟩
abbrev cX7_isHouse : ByteArray := prog_9_method_3_code
def yX7_isHouse : MethodName := ⟨RX7, "isHouse", "(I)Z"⟩
abbrev cX7_isBlock : ByteArray := prog_9_method_4_code
def yX7_isBlock : MethodName := ⟨RX7, "isBlock", "(II)Z"⟩
abbrev cX7_isOf : ByteArray := prog_9_method_5_code
def yX7_isOf : MethodName := ⟨RX7, "isOf", "(II)Z"⟩
abbrev cX7_house : ByteArray := prog_9_method_6_code
def yX7_house : MethodName := ⟨RX7, "house", "()I"⟩
abbrev cX7_above : ByteArray := prog_9_method_7_code
def yX7_above : MethodName := ⟨RX7, "above", "(I)I"⟩
abbrev cX7_tie : ByteArray := prog_9_method_8_code
def yX7_tie : MethodName := ⟨RX7, "tie", "(IIZ)I"⟩
abbrev cX7_untie : ByteArray := prog_9_method_9_code
def yX7_untie : MethodName := ⟨RX7, "untie", "(II)I"⟩
abbrev cX7_rightOf : ByteArray := prog_9_method_10_code
def yX7_rightOf : MethodName := ⟨RX7, "rightOf", "(II)I"⟩
abbrev cX7_right : ByteArray := prog_9_method_11_code
def yX7_right : MethodName := ⟨RX7, "right", "(III)I"⟩
abbrev cX7_free : ByteArray := prog_9_method_12_code
def yX7_free : MethodName := ⟨RX7, "free", "(II)I"⟩
abbrev cX7_rightfulFor : ByteArray := prog_9_method_13_code
def yX7_rightfulFor : MethodName := ⟨RX7, "rightfulFor", "(II)I"⟩
abbrev cX7_rightful : ByteArray := prog_9_method_14_code
def yX7_rightful : MethodName := ⟨RX7, "rightful", "(II)I"⟩
abbrev cX7_says : ByteArray := prog_9_method_15_code
def yX7_says : MethodName := ⟨RX7, "says", "(III)Z"⟩
abbrev cX7_isSaid : ByteArray := prog_9_method_16_code
def yX7_isSaid : MethodName := ⟨RX7, "isSaid", "(II)Z"⟩
abbrev cX7_addSaying : ByteArray := prog_9_method_17_code
def yX7_addSaying : MethodName := ⟨RX7, "addSaying", "(III)V"⟩
abbrev cX7_say : ByteArray := prog_9_method_18_code
def yX7_say : MethodName := ⟨RX7, "say", "(III)I"⟩
abbrev cX7_unsay : ByteArray := prog_9_method_19_code
def yX7_unsay : MethodName := ⟨RX7, "unsay", "(I)I"⟩
abbrev cX7_set : ByteArray := prog_9_method_20_code
def yX7_set : MethodName := ⟨RX7, "set", "(IIZ)I"⟩
abbrev cX7_isOn : ByteArray := prog_9_method_21_code
def yX7_isOn : MethodName := ⟨RX7, "isOn", "(II)Z"⟩
abbrev cX7_passes : ByteArray := prog_9_method_22_code
def yX7_passes : MethodName := ⟨RX7, "passes", "(IIII)Z"⟩
abbrev cX7_mayTake : ByteArray := prog_9_method_23_code
def yX7_mayTake : MethodName := ⟨RX7, "mayTake", "(IIIII)Z"⟩
abbrev cX7_bestFor : ByteArray := prog_9_method_24_code
def yX7_bestFor : MethodName := ⟨RX7, "bestFor", "(IIII)I"⟩
abbrev cX7_goRound : ByteArray := prog_9_method_25_code
def yX7_goRound : MethodName := ⟨RX7, "goRound", "(III)Z"⟩
abbrev cX7_findWays : ByteArray := prog_9_method_26_code
def yX7_findWays : MethodName := ⟨RX7, "findWays", "(III)V"⟩
abbrev cX7_asked : ByteArray := prog_9_method_27_code
def yX7_asked : MethodName := ⟨RX7, "asked", "(II)I"⟩
abbrev cX7_rounds : ByteArray := prog_9_method_28_code
def yX7_rounds : MethodName := ⟨RX7, "rounds", "(II)I"⟩
abbrev cX7_restless : ByteArray := prog_9_method_29_code
def yX7_restless : MethodName := ⟨RX7, "restless", "(II)I"⟩
abbrev cX7_way : ByteArray := prog_9_method_30_code
def yX7_way : MethodName := ⟨RX7, "way", "(IIII)I"⟩
abbrev cX7_broken : ByteArray := prog_9_method_31_code
def yX7_broken : MethodName := ⟨RX7, "broken", "(III)I"⟩
abbrev cX7_findHops : ByteArray := prog_9_method_32_code
def yX7_findHops : MethodName := ⟨RX7, "findHops", "(II)V"⟩
abbrev cX7_nextOf : ByteArray := prog_9_method_33_code
def yX7_nextOf : MethodName := ⟨RX7, "nextOf", "(I)I"⟩
abbrev cX7_endOf : ByteArray := prog_9_method_34_code
def yX7_endOf : MethodName := ⟨RX7, "endOf", "(I)I"⟩
abbrev cX7_goes : ByteArray := prog_9_method_35_code
def yX7_goes : MethodName := ⟨RX7, "goes", "(II)I"⟩
abbrev cX7_misledBy : ByteArray := prog_9_method_36_code
def yX7_misledBy : MethodName := ⟨RX7, "misledBy", "(II)I"⟩
abbrev cX7_misled : ByteArray := prog_9_method_37_code
def yX7_misled : MethodName := ⟨RX7, "misled", "(I)I"⟩
abbrev cX7_isFalse : ByteArray := prog_9_method_38_code
def yX7_isFalse : MethodName := ⟨RX7, "isFalse", "(I)Z"⟩
abbrev cX7_seenBy : ByteArray := prog_9_method_39_code
def yX7_seenBy : MethodName := ⟨RX7, "seenBy", "(I)I"⟩
abbrev cX7_saying : ByteArray := prog_9_method_40_code
def yX7_saying : MethodName := ⟨RX7, "saying", "(II)I"⟩
abbrev cX7_ones : ByteArray := prog_9_method_41_code
def yX7_ones : MethodName := ⟨RX7, "ones", "(I)I"⟩
abbrev cX7_watchers : ByteArray := prog_9_method_42_code
def yX7_watchers : MethodName := ⟨RX7, "watchers", "()I"⟩
abbrev cX7_cure : ByteArray := prog_9_method_43_code
def yX7_cure : MethodName := ⟨RX7, "cure", "(I)I"⟩
abbrev cX7_halves : ByteArray := prog_9_method_44_code
def yX7_halves : MethodName := ⟨RX7, "halves", "(I)I"⟩
abbrev cX7_count : ByteArray := prog_9_method_45_code
def yX7_count : MethodName := ⟨RX7, "count", "(I)I"⟩
def RJ6 : String := "java/lang/Integer"
abbrev cJ6_bitCount_0f7a4 : ByteArray := prog_10_method_49_code
def yJ6_bitCount_0f7a4 : MethodName := ⟨RJ6, "bitCount", "(I)I"⟩
def RJ10 : String := "java/lang/System"
def RL : String := "RouteWatchLaw"
abbrev cL_law : ByteArray := code
def yL_law : MethodName := ⟨RL, "law", "([I)Z"⟩
abbrev clz : List vw_C := [(RX0, TX0, 5), (RX1, TX1, 5), (RX2, TX2, 2), (RX3, TX3, 4), (RX4, TX4, 6), (RX5, TX5, 4), (RX6, TX6, 6), (RX7, TX7, 20)]
def gtbl : List Cond := lw_tbl.filter goodWord
theorem zx_mem {w : Cond} (i : Nat) (h : lw_tbl[i]? = some w) (g : goodWord w = true) : w ∈ gtbl := List.mem_filter.mpr ⟨List.mem_of_getElem? h, g⟩
theorem zx_t {w : Cond} (h : w ∈ tables_1) (g : goodWord w = true) : w ∈ gtbl := List.mem_filter.mpr ⟨List.mem_append_right _ h, g⟩
theorem zx_mem1 {w : Cond} (i : Nat) (h : tables_1_1[i]? = some w) (g : goodWord w = true) : w ∈ gtbl := zx_t (List.mem_append_left _ (List.mem_of_getElem? h)) g
theorem zx_mem2 {w : Cond} (i : Nat) (h : tables_1_2[i]? = some w) (g : goodWord w = true) : w ∈ gtbl := zx_t (List.mem_append_right _ (List.mem_append_left _ (List.mem_of_getElem? h))) g
theorem zx_mem3 {w : Cond} (i : Nat) (h : tables_1_3[i]? = some w) (g : goodWord w = true) : w ∈ gtbl := zx_t (List.mem_append_right _ (List.mem_append_right _ (List.mem_append_left _ (List.mem_of_getElem? h)))) g
theorem zx_mem4 {w : Cond} (i : Nat) (h : tables_1_4[i]? = some w) (g : goodWord w = true) : w ∈ gtbl := zx_t (List.mem_append_right _ (List.mem_append_right _ (List.mem_append_right _ (List.mem_of_getElem? h)))) g
theorem zx_good {w : Cond} (h : w ∈ gtbl) : (w.onTables && w.keeps) = true ∨ ∃ ty, w = .arrayClass ty := good_of_word (List.mem_filter.mp h).2
theorem zx_GI (x : Cond) (hx : x ∈ gtbl) : GoodIn gtbl (x :: gtbl) := fun w hw => by
  rcases List.mem_cons.mp hw with rfl | h
  · exact ⟨hx, zx_good hx⟩
  · exact ⟨h, zx_good h⟩
theorem in_RL : Cond.initialized RL ∈ gtbl := zx_mem1 0 (by decide +kernel) (by decide +kernel)
theorem in_RX6 : Cond.initialized RX6 ∈ gtbl := zx_mem1 1 (by decide +kernel) (by decide +kernel)
theorem in_RX1 : Cond.initialized RX1 ∈ gtbl := zx_mem1 2 (by decide +kernel) (by decide +kernel)
theorem in_RX2 : Cond.initialized RX2 ∈ gtbl := zx_mem1 3 (by decide +kernel) (by decide +kernel)
theorem in_RX3 : Cond.initialized RX3 ∈ gtbl := zx_mem1 4 (by decide +kernel) (by decide +kernel)
theorem in_RX4 : Cond.initialized RX4 ∈ gtbl := zx_mem1 5 (by decide +kernel) (by decide +kernel)
theorem in_RX5 : Cond.initialized RX5 ∈ gtbl := zx_mem1 6 (by decide +kernel) (by decide +kernel)
theorem in_RX0 : Cond.initialized RX0 ∈ gtbl := zx_mem1 7 (by decide +kernel) (by decide +kernel)
theorem in_RX7 : Cond.initialized RX7 ∈ gtbl := zx_mem1 8 (by decide +kernel) (by decide +kernel)
theorem in_RJ10 : Cond.initialized RJ10 ∈ gtbl := zx_mem1 9 (by decide +kernel) (by decide +kernel)
theorem in_RJ6 : Cond.initialized RJ6 ∈ gtbl := zx_mem1 10 (by decide +kernel) (by decide +kernel)
theorem kl_RL_7 : Cond.classLink RL 7 RX6 ∈ gtbl := zx_mem1 11 (by decide +kernel) (by decide +kernel)
theorem it_RX6 : Cond.instantiable RX6 6 ∈ gtbl := zx_mem1 12 (by decide +kernel) (by decide +kernel)
theorem ml_RL_9 : Cond.methodLink RL 9 yX6_init ∈ gtbl := zx_mem1 13 (by decide +kernel) (by decide +kernel)
theorem im_yX6_init : Cond.instanceMethod yX6_init ∈ gtbl := zx_mem1 14 (by decide +kernel) (by decide +kernel)
abbrev w_yX6_init : Cond := Cond.code yX6_init cX6_init 1 none
set_option maxRecDepth 100000 in
theorem cd_yX6_init : w_yX6_init ∈ gtbl := zx_mem1 15 rfl rfl
theorem ml_RX6_3 : Cond.methodLink RX6 3 objectInit ∈ gtbl := zx_mem1 16 (by decide +kernel) (by decide +kernel)
theorem im_objectInit : Cond.instanceMethod objectInit ∈ gtbl := zx_mem1 17 (by decide +kernel) (by decide +kernel)
set_option maxRecDepth 100000 in
theorem cd_objectInit : Cond.code objectInit ⟨#[0xb1]⟩ 1 none ∈ gtbl := zx_mem1 18 rfl rfl
theorem kl_RX6_9 : Cond.classLink RX6 9 RX1 ∈ gtbl := zx_mem1 19 (by decide +kernel) (by decide +kernel)
theorem it_RX1 : Cond.instantiable RX1 5 ∈ gtbl := zx_mem1 20 (by decide +kernel) (by decide +kernel)
theorem im_yX1_init : Cond.instanceMethod yX1_init ∈ gtbl := zx_mem1 22 (by decide +kernel) (by decide +kernel)
abbrev w_yX1_init : Cond := Cond.code yX1_init cX1_init 1 none
set_option maxRecDepth 100000 in
theorem cd_yX1_init : w_yX1_init ∈ gtbl := zx_mem1 23 rfl rfl
theorem ml_RX1_3 : Cond.methodLink RX1 3 objectInit ∈ gtbl := zx_mem1 24 (by decide +kernel) (by decide +kernel)
theorem kl_RX1_9 : Cond.classLink RX1 9 "[[I" ∈ gtbl := zx_mem1 25 (by decide +kernel) (by decide +kernel)
theorem fl_RX1_16 : Cond.fieldLink RX1 16 "RouteWatch$Houses" "number" "I" ∈ gtbl := zx_mem1 27 (by decide +kernel) (by decide +kernel)
theorem fl_RX1_20 : Cond.fieldLink RX1 20 "RouteWatch$Houses" "ties" "I" ∈ gtbl := zx_mem1 28 (by decide +kernel) (by decide +kernel)
theorem fl_RX1_23 : Cond.fieldLink RX1 23 "RouteWatch$Houses" "leaking" "I" ∈ gtbl := zx_mem1 29 (by decide +kernel) (by decide +kernel)
theorem fl_RX1_26 : Cond.fieldLink RX1 26 "RouteWatch$Houses" "refusing" "I" ∈ gtbl := zx_mem1 30 (by decide +kernel) (by decide +kernel)
theorem fl_RX1_11 : Cond.fieldLink RX1 11 "RouteWatch$Houses" "kinds" "[[I" ∈ gtbl := zx_mem1 31 (by decide +kernel) (by decide +kernel)
theorem ac_int : Cond.arrayClass .int ∈ gtbl := zx_mem1 43 (by decide +kernel) (by decide +kernel)
theorem kl_RX6_16 : Cond.classLink RX6 16 RX2 ∈ gtbl := zx_mem1 44 (by decide +kernel) (by decide +kernel)
theorem it_RX2 : Cond.instantiable RX2 2 ∈ gtbl := zx_mem1 45 (by decide +kernel) (by decide +kernel)
theorem ml_RX6_18 : Cond.methodLink RX6 18 yX2_init ∈ gtbl := zx_mem1 46 (by decide +kernel) (by decide +kernel)
theorem im_yX2_init : Cond.instanceMethod yX2_init ∈ gtbl := zx_mem1 47 (by decide +kernel) (by decide +kernel)
abbrev w_yX2_init : Cond := Cond.code yX2_init cX2_init 2 none
set_option maxRecDepth 100000 in
theorem cd_yX2_init : w_yX2_init ∈ gtbl := zx_mem1 48 rfl rfl
theorem ml_RX2_3 : Cond.methodLink RX2 3 objectInit ∈ gtbl := zx_mem1 49 (by decide +kernel) (by decide +kernel)
theorem fl_RX2_15 : Cond.fieldLink RX2 15 "RouteWatch$Rights" "number" "I" ∈ gtbl := zx_mem1 50 (by decide +kernel) (by decide +kernel)
theorem fl_RX2_9 : Cond.fieldLink RX2 9 "RouteWatch$Rights" "holders" "[I" ∈ gtbl := zx_mem1 51 (by decide +kernel) (by decide +kernel)
theorem kl_RX6_23 : Cond.classLink RX6 23 RX3 ∈ gtbl := zx_mem1 57 (by decide +kernel) (by decide +kernel)
theorem it_RX3 : Cond.instantiable RX3 4 ∈ gtbl := zx_mem1 58 (by decide +kernel) (by decide +kernel)
theorem im_yX3_init : Cond.instanceMethod yX3_init ∈ gtbl := zx_mem1 60 (by decide +kernel) (by decide +kernel)
abbrev w_yX3_init : Cond := Cond.code yX3_init cX3_init 1 none
set_option maxRecDepth 100000 in
theorem cd_yX3_init : w_yX3_init ∈ gtbl := zx_mem1 61 rfl rfl
theorem ml_RX3_3 : Cond.methodLink RX3 3 objectInit ∈ gtbl := zx_mem1 62 (by decide +kernel) (by decide +kernel)
theorem fl_RX3_21 : Cond.fieldLink RX3 21 "RouteWatch$Sayings" "number" "I" ∈ gtbl := zx_mem1 63 (by decide +kernel) (by decide +kernel)
theorem fl_RX3_9 : Cond.fieldLink RX3 9 "RouteWatch$Sayings" "blocks" "[I" ∈ gtbl := zx_mem1 64 (by decide +kernel) (by decide +kernel)
theorem fl_RX3_15 : Cond.fieldLink RX3 15 "RouteWatch$Sayings" "houses" "[I" ∈ gtbl := zx_mem1 65 (by decide +kernel) (by decide +kernel)
theorem fl_RX3_18 : Cond.fieldLink RX3 18 "RouteWatch$Sayings" "sayers" "[I" ∈ gtbl := zx_mem1 66 (by decide +kernel) (by decide +kernel)
theorem kl_RX6_30 : Cond.classLink RX6 30 RX4 ∈ gtbl := zx_mem1 76 (by decide +kernel) (by decide +kernel)
theorem it_RX4 : Cond.instantiable RX4 6 ∈ gtbl := zx_mem1 77 (by decide +kernel) (by decide +kernel)
theorem ml_RX6_32 : Cond.methodLink RX6 32 yX4_init ∈ gtbl := zx_mem1 78 (by decide +kernel) (by decide +kernel)
theorem im_yX4_init : Cond.instanceMethod yX4_init ∈ gtbl := zx_mem1 79 (by decide +kernel) (by decide +kernel)
abbrev w_yX4_init : Cond := Cond.code yX4_init cX4_init 4 none
set_option maxRecDepth 100000 in
theorem cd_yX4_init : w_yX4_init ∈ gtbl := zx_mem1 80 rfl rfl
theorem ml_RX4_3 : Cond.methodLink RX4 3 objectInit ∈ gtbl := zx_mem1 81 (by decide +kernel) (by decide +kernel)
theorem kl_RX4_9 : Cond.classLink RX4 9 RX5 ∈ gtbl := zx_mem1 82 (by decide +kernel) (by decide +kernel)
theorem it_RX5 : Cond.instantiable RX5 4 ∈ gtbl := zx_mem1 83 (by decide +kernel) (by decide +kernel)
theorem im_yX5_init : Cond.instanceMethod yX5_init ∈ gtbl := zx_mem1 85 (by decide +kernel) (by decide +kernel)
abbrev w_yX5_init : Cond := Cond.code yX5_init cX5_init 1 none
set_option maxRecDepth 100000 in
theorem cd_yX5_init : w_yX5_init ∈ gtbl := zx_mem1 86 rfl rfl
theorem ml_RX5_3 : Cond.methodLink RX5 3 objectInit ∈ gtbl := zx_mem1 87 (by decide +kernel) (by decide +kernel)
theorem fl_RX5_9 : Cond.fieldLink RX5 9 "RouteWatch$Ways" "rows" "[J" ∈ gtbl := zx_mem1 88 (by decide +kernel) (by decide +kernel)
theorem fl_RX5_15 : Cond.fieldLink RX5 15 "RouteWatch$Ways" "lengths" "[I" ∈ gtbl := zx_mem1 89 (by decide +kernel) (by decide +kernel)
theorem fl_RX5_19 : Cond.fieldLink RX5 19 "RouteWatch$Ways" "lasts" "[I" ∈ gtbl := zx_mem1 90 (by decide +kernel) (by decide +kernel)
theorem fl_RX5_22 : Cond.fieldLink RX5 22 "RouteWatch$Ways" "members" "[I" ∈ gtbl := zx_mem1 91 (by decide +kernel) (by decide +kernel)
theorem ac_long : Cond.arrayClass .long ∈ gtbl := zx_mem1 101 (by decide +kernel) (by decide +kernel)
theorem fl_RX4_21 : Cond.fieldLink RX4 21 "RouteWatch$Settling" "houses" "LRouteWatch$Houses;" ∈ gtbl := zx_mem1 102 (by decide +kernel) (by decide +kernel)
theorem fl_RX4_25 : Cond.fieldLink RX4 25 "RouteWatch$Settling" "rights" "LRouteWatch$Rights;" ∈ gtbl := zx_mem1 103 (by decide +kernel) (by decide +kernel)
theorem fl_RX4_29 : Cond.fieldLink RX4 29 "RouteWatch$Settling" "sayings" "LRouteWatch$Sayings;" ∈ gtbl := zx_mem1 104 (by decide +kernel) (by decide +kernel)
theorem fl_RX4_12 : Cond.fieldLink RX4 12 "RouteWatch$Settling" "now" "LRouteWatch$Ways;" ∈ gtbl := zx_mem1 105 (by decide +kernel) (by decide +kernel)
theorem fl_RX4_18 : Cond.fieldLink RX4 18 "RouteWatch$Settling" "before" "LRouteWatch$Ways;" ∈ gtbl := zx_mem1 106 (by decide +kernel) (by decide +kernel)
theorem fl_RX4_33 : Cond.fieldLink RX4 33 "RouteWatch$Settling" "changing" "I" ∈ gtbl := zx_mem1 107 (by decide +kernel) (by decide +kernel)
theorem kl_RX6_39 : Cond.classLink RX6 39 RX0 ∈ gtbl := zx_mem1 121 (by decide +kernel) (by decide +kernel)
theorem it_RX0 : Cond.instantiable RX0 5 ∈ gtbl := zx_mem1 122 (by decide +kernel) (by decide +kernel)
theorem ml_RX6_41 : Cond.methodLink RX6 41 yX0_init ∈ gtbl := zx_mem1 123 (by decide +kernel) (by decide +kernel)
theorem im_yX0_init : Cond.instanceMethod yX0_init ∈ gtbl := zx_mem1 124 (by decide +kernel) (by decide +kernel)
abbrev w_yX0_init : Cond := Cond.code yX0_init cX0_init 5 none
set_option maxRecDepth 100000 in
theorem cd_yX0_init : w_yX0_init ∈ gtbl := zx_mem1 125 rfl rfl
theorem ml_RX0_3 : Cond.methodLink RX0 3 objectInit ∈ gtbl := zx_mem1 126 (by decide +kernel) (by decide +kernel)
theorem fl_RX0_15 : Cond.fieldLink RX0 15 "RouteWatch$Goings" "houses" "LRouteWatch$Houses;" ∈ gtbl := zx_mem1 127 (by decide +kernel) (by decide +kernel)
theorem fl_RX0_19 : Cond.fieldLink RX0 19 "RouteWatch$Goings" "rights" "LRouteWatch$Rights;" ∈ gtbl := zx_mem1 128 (by decide +kernel) (by decide +kernel)
theorem fl_RX0_23 : Cond.fieldLink RX0 23 "RouteWatch$Goings" "sayings" "LRouteWatch$Sayings;" ∈ gtbl := zx_mem1 129 (by decide +kernel) (by decide +kernel)
theorem fl_RX0_27 : Cond.fieldLink RX0 27 "RouteWatch$Goings" "settling" "LRouteWatch$Settling;" ∈ gtbl := zx_mem1 130 (by decide +kernel) (by decide +kernel)
theorem fl_RX0_9 : Cond.fieldLink RX0 9 "RouteWatch$Goings" "hops" "[I" ∈ gtbl := zx_mem1 131 (by decide +kernel) (by decide +kernel)
theorem fl_RX6_12 : Cond.fieldLink RX6 12 "RouteWatch" "houses" "LRouteWatch$Houses;" ∈ gtbl := zx_mem1 143 (by decide +kernel) (by decide +kernel)
theorem fl_RX6_19 : Cond.fieldLink RX6 19 "RouteWatch" "rights" "LRouteWatch$Rights;" ∈ gtbl := zx_mem1 144 (by decide +kernel) (by decide +kernel)
theorem fl_RX6_26 : Cond.fieldLink RX6 26 "RouteWatch" "sayings" "LRouteWatch$Sayings;" ∈ gtbl := zx_mem1 145 (by decide +kernel) (by decide +kernel)
theorem fl_RX6_35 : Cond.fieldLink RX6 35 "RouteWatch" "settling" "LRouteWatch$Settling;" ∈ gtbl := zx_mem1 146 (by decide +kernel) (by decide +kernel)
theorem fl_RX6_44 : Cond.fieldLink RX6 44 "RouteWatch" "goings" "LRouteWatch$Goings;" ∈ gtbl := zx_mem1 147 (by decide +kernel) (by decide +kernel)
theorem fl_RX6_48 : Cond.fieldLink RX6 48 "RouteWatch" "seers" "[I" ∈ gtbl := zx_mem1 148 (by decide +kernel) (by decide +kernel)
theorem ml_RL_13 : Cond.methodLink RL 13 yX6_house ∈ gtbl := zx_mem1 162 (by decide +kernel) (by decide +kernel)
theorem im_yX6_house : Cond.instanceMethod yX6_house ∈ gtbl := zx_mem1 163 (by decide +kernel) (by decide +kernel)
theorem sl_yX6_house : Cond.selects RX6 yX6_house yX6_house ∈ gtbl := zx_mem1 164 (by decide +kernel) (by decide +kernel)
abbrev w_yX6_house : Cond := Cond.code yX6_house cX6_house 1 (some .int)
set_option maxRecDepth 100000 in
theorem cd_yX6_house : w_yX6_house ∈ gtbl := zx_mem1 165 rfl rfl
theorem ml_RX6_52 : Cond.methodLink RX6 52 yX1_build ∈ gtbl := zx_mem1 166 (by decide +kernel) (by decide +kernel)
theorem im_yX1_build : Cond.instanceMethod yX1_build ∈ gtbl := zx_mem1 167 (by decide +kernel) (by decide +kernel)
theorem sl_yX1_build : Cond.selects RX1 yX1_build yX1_build ∈ gtbl := zx_mem1 168 (by decide +kernel) (by decide +kernel)
abbrev w_yX1_build : Cond := Cond.code yX1_build cX1_build 1 (some .int)
set_option maxRecDepth 100000 in
theorem cd_yX1_build : w_yX1_build ∈ gtbl := zx_mem1 169 rfl rfl
theorem ml_RL_18 : Cond.methodLink RL 18 yX6_tie ∈ gtbl := zx_mem1 170 (by decide +kernel) (by decide +kernel)
theorem im_yX6_tie : Cond.instanceMethod yX6_tie ∈ gtbl := zx_mem1 171 (by decide +kernel) (by decide +kernel)
theorem sl_yX6_tie : Cond.selects RX6 yX6_tie yX6_tie ∈ gtbl := zx_mem1 172 (by decide +kernel) (by decide +kernel)
abbrev w_yX6_tie : Cond := Cond.code yX6_tie cX6_tie 4 (some .int)
set_option maxRecDepth 100000 in
theorem cd_yX6_tie : w_yX6_tie ∈ gtbl := zx_mem1 173 rfl rfl
theorem ml_RX6_56 : Cond.methodLink RX6 56 yX1_has ∈ gtbl := zx_mem1 174 (by decide +kernel) (by decide +kernel)
theorem im_yX1_has : Cond.instanceMethod yX1_has ∈ gtbl := zx_mem1 175 (by decide +kernel) (by decide +kernel)
theorem sl_yX1_has : Cond.selects RX1 yX1_has yX1_has ∈ gtbl := zx_mem1 176 (by decide +kernel) (by decide +kernel)
abbrev w_yX1_has : Cond := Cond.code yX1_has cX1_has 2 (some .boolean)
set_option maxRecDepth 100000 in
theorem cd_yX1_has : w_yX1_has ∈ gtbl := zx_mem1 177 rfl rfl
theorem ml_RX6_60 : Cond.methodLink RX6 60 yX1_kind ∈ gtbl := zx_mem1 178 (by decide +kernel) (by decide +kernel)
theorem im_yX1_kind : Cond.instanceMethod yX1_kind ∈ gtbl := zx_mem1 179 (by decide +kernel) (by decide +kernel)
theorem sl_yX1_kind : Cond.selects RX1 yX1_kind yX1_kind ∈ gtbl := zx_mem1 180 (by decide +kernel) (by decide +kernel)
abbrev w_yX1_kind : Cond := Cond.code yX1_kind cX1_kind 4 (some .int)
set_option maxRecDepth 100000 in
theorem cd_yX1_kind : w_yX1_kind ∈ gtbl := zx_mem1 181 rfl rfl
theorem ml_RX6_64 : Cond.methodLink RX6 64 yX1_isAbove ∈ gtbl := zx_mem1 182 (by decide +kernel) (by decide +kernel)
theorem im_yX1_isAbove : Cond.instanceMethod yX1_isAbove ∈ gtbl := zx_mem1 183 (by decide +kernel) (by decide +kernel)
theorem sl_yX1_isAbove : Cond.selects RX1 yX1_isAbove yX1_isAbove ∈ gtbl := zx_mem1 184 (by decide +kernel) (by decide +kernel)
abbrev w_yX1_isAbove : Cond := Cond.code yX1_isAbove cX1_isAbove 5 (some .boolean)
set_option maxRecDepth 100000 in
theorem cd_yX1_isAbove : w_yX1_isAbove ∈ gtbl := zx_mem1 185 rfl rfl
theorem sm_yX6_bit : Cond.static yX6_bit ∈ gtbl := zx_mem1 187 (by decide +kernel) (by decide +kernel)
abbrev w_yX6_bit : Cond := Cond.code yX6_bit cX6_bit 1 (some .int)
set_option maxRecDepth 100000 in
theorem cd_yX6_bit : w_yX6_bit ∈ gtbl := zx_mem1 188 rfl rfl
theorem ml_RX1_41 : Cond.methodLink RX1 41 yX1_providersOf ∈ gtbl := zx_mem1 189 (by decide +kernel) (by decide +kernel)
theorem im_yX1_providersOf : Cond.instanceMethod yX1_providersOf ∈ gtbl := zx_mem1 191 (by decide +kernel) (by decide +kernel)
abbrev w_yX1_providersOf : Cond := Cond.code yX1_providersOf cX1_providersOf 5 (some .int)
set_option maxRecDepth 100000 in
theorem cd_yX1_providersOf : w_yX1_providersOf ∈ gtbl := zx_mem1 192 rfl rfl
theorem sm_yX6_hasBit : Cond.static yX6_hasBit ∈ gtbl := zx_mem1 194 (by decide +kernel) (by decide +kernel)
abbrev w_yX6_hasBit : Cond := Cond.code yX6_hasBit cX6_hasBit 2 (some .boolean)
set_option maxRecDepth 100000 in
theorem cd_yX6_hasBit : w_yX6_hasBit ∈ gtbl := zx_mem1 195 rfl rfl
theorem ml_RX1_48 : Cond.methodLink RX1 48 yX1_kind ∈ gtbl := zx_mem1 196 (by decide +kernel) (by decide +kernel)
theorem ml_RX6_68 : Cond.methodLink RX6 68 yX1_bind ∈ gtbl := zx_mem1 197 (by decide +kernel) (by decide +kernel)
theorem im_yX1_bind : Cond.instanceMethod yX1_bind ∈ gtbl := zx_mem1 198 (by decide +kernel) (by decide +kernel)
theorem sl_yX1_bind : Cond.selects RX1 yX1_bind yX1_bind ∈ gtbl := zx_mem1 199 (by decide +kernel) (by decide +kernel)
abbrev w_yX1_bind : Cond := Cond.code yX1_bind cX1_bind 5 none
set_option maxRecDepth 100000 in
theorem cd_yX1_bind : w_yX1_bind ∈ gtbl := zx_mem1 200 rfl rfl
theorem ml_RX1_33 : Cond.methodLink RX1 33 yX1_put ∈ gtbl := zx_mem1 201 (by decide +kernel) (by decide +kernel)
theorem im_yX1_put : Cond.instanceMethod yX1_put ∈ gtbl := zx_mem1 203 (by decide +kernel) (by decide +kernel)
abbrev w_yX1_put : Cond := Cond.code yX1_put cX1_put 4 none
set_option maxRecDepth 100000 in
theorem cd_yX1_put : w_yX1_put ∈ gtbl := zx_mem1 204 rfl rfl
theorem ml_RX1_29 : Cond.methodLink RX1 29 yX1_has ∈ gtbl := zx_mem1 205 (by decide +kernel) (by decide +kernel)
theorem ml_RL_23 : Cond.methodLink RL 23 yX6_untie ∈ gtbl := zx_mem1 206 (by decide +kernel) (by decide +kernel)
theorem im_yX6_untie : Cond.instanceMethod yX6_untie ∈ gtbl := zx_mem1 207 (by decide +kernel) (by decide +kernel)
theorem sl_yX6_untie : Cond.selects RX6 yX6_untie yX6_untie ∈ gtbl := zx_mem1 208 (by decide +kernel) (by decide +kernel)
abbrev w_yX6_untie : Cond := Cond.code yX6_untie cX6_untie 3 (some .int)
set_option maxRecDepth 100000 in
theorem cd_yX6_untie : w_yX6_untie ∈ gtbl := zx_mem1 209 rfl rfl
theorem ml_RX6_72 : Cond.methodLink RX6 72 yX1_part ∈ gtbl := zx_mem1 210 (by decide +kernel) (by decide +kernel)
theorem im_yX1_part : Cond.instanceMethod yX1_part ∈ gtbl := zx_mem1 211 (by decide +kernel) (by decide +kernel)
theorem sl_yX1_part : Cond.selects RX1 yX1_part yX1_part ∈ gtbl := zx_mem1 212 (by decide +kernel) (by decide +kernel)
abbrev w_yX1_part : Cond := Cond.code yX1_part cX1_part 3 none
set_option maxRecDepth 100000 in
theorem cd_yX1_part : w_yX1_part ∈ gtbl := zx_mem1 213 rfl rfl
theorem ml_RL_28 : Cond.methodLink RL 28 yX6_right ∈ gtbl := zx_mem1 214 (by decide +kernel) (by decide +kernel)
theorem im_yX6_right : Cond.instanceMethod yX6_right ∈ gtbl := zx_mem1 215 (by decide +kernel) (by decide +kernel)
theorem sl_yX6_right : Cond.selects RX6 yX6_right yX6_right ∈ gtbl := zx_mem1 216 (by decide +kernel) (by decide +kernel)
abbrev w_yX6_right : Cond := Cond.code yX6_right cX6_right 6 (some .int)
set_option maxRecDepth 100000 in
theorem cd_yX6_right : w_yX6_right ∈ gtbl := zx_mem1 217 rfl rfl
theorem ml_RX6_76 : Cond.methodLink RX6 76 yX6_blockNumber ∈ gtbl := zx_mem1 218 (by decide +kernel) (by decide +kernel)
theorem sm_yX6_blockNumber : Cond.static yX6_blockNumber ∈ gtbl := zx_mem1 219 (by decide +kernel) (by decide +kernel)
abbrev w_yX6_blockNumber : Cond := Cond.code yX6_blockNumber cX6_blockNumber 3 (some .int)
set_option maxRecDepth 100000 in
theorem cd_yX6_blockNumber : w_yX6_blockNumber ∈ gtbl := zx_mem1 220 rfl rfl
theorem ml_RX6_140 : Cond.methodLink RX6 140 yX6_isAddress ∈ gtbl := zx_mem1 221 (by decide +kernel) (by decide +kernel)
theorem sm_yX6_isAddress : Cond.static yX6_isAddress ∈ gtbl := zx_mem1 222 (by decide +kernel) (by decide +kernel)
abbrev w_yX6_isAddress : Cond := Cond.code yX6_isAddress cX6_isAddress 1 (some .boolean)
set_option maxRecDepth 100000 in
theorem cd_yX6_isAddress : w_yX6_isAddress ∈ gtbl := zx_mem1 223 rfl rfl
theorem ml_RX6_79 : Cond.methodLink RX6 79 yX2_holder ∈ gtbl := zx_mem1 224 (by decide +kernel) (by decide +kernel)
theorem im_yX2_holder : Cond.instanceMethod yX2_holder ∈ gtbl := zx_mem1 225 (by decide +kernel) (by decide +kernel)
theorem sl_yX2_holder : Cond.selects RX2 yX2_holder yX2_holder ∈ gtbl := zx_mem1 226 (by decide +kernel) (by decide +kernel)
abbrev w_yX2_holder : Cond := Cond.code yX2_holder cX2_holder 2 (some .int)
set_option maxRecDepth 100000 in
theorem cd_yX2_holder : w_yX2_holder ∈ gtbl := zx_mem1 227 rfl rfl
theorem sm_yX6_isBlock : Cond.static yX6_isBlock ∈ gtbl := zx_mem1 229 (by decide +kernel) (by decide +kernel)
abbrev w_yX6_isBlock : Cond := Cond.code yX6_isBlock cX6_isBlock 1 (some .boolean)
set_option maxRecDepth 100000 in
theorem cd_yX6_isBlock : w_yX6_isBlock ∈ gtbl := zx_mem1 230 rfl rfl
theorem ml_RX6_83 : Cond.methodLink RX6 83 yX2_number ∈ gtbl := zx_mem1 231 (by decide +kernel) (by decide +kernel)
theorem im_yX2_number : Cond.instanceMethod yX2_number ∈ gtbl := zx_mem1 232 (by decide +kernel) (by decide +kernel)
theorem sl_yX2_number : Cond.selects RX2 yX2_number yX2_number ∈ gtbl := zx_mem1 233 (by decide +kernel) (by decide +kernel)
abbrev w_yX2_number : Cond := Cond.code yX2_number cX2_number 1 (some .int)
set_option maxRecDepth 100000 in
theorem cd_yX2_number : w_yX2_number ∈ gtbl := zx_mem1 234 rfl rfl
theorem ml_RX6_86 : Cond.methodLink RX6 86 yX2_give ∈ gtbl := zx_mem1 235 (by decide +kernel) (by decide +kernel)
theorem im_yX2_give : Cond.instanceMethod yX2_give ∈ gtbl := zx_mem1 236 (by decide +kernel) (by decide +kernel)
theorem sl_yX2_give : Cond.selects RX2 yX2_give yX2_give ∈ gtbl := zx_mem1 237 (by decide +kernel) (by decide +kernel)
abbrev w_yX2_give : Cond := Cond.code yX2_give cX2_give 3 none
set_option maxRecDepth 100000 in
theorem cd_yX2_give : w_yX2_give ∈ gtbl := zx_mem1 238 rfl rfl
theorem ml_RL_33 : Cond.methodLink RL 33 yX6_free ∈ gtbl := zx_mem1 239 (by decide +kernel) (by decide +kernel)
theorem im_yX6_free : Cond.instanceMethod yX6_free ∈ gtbl := zx_mem2 0 (by decide +kernel) (by decide +kernel)
theorem sl_yX6_free : Cond.selects RX6 yX6_free yX6_free ∈ gtbl := zx_mem2 1 (by decide +kernel) (by decide +kernel)
abbrev w_yX6_free : Cond := Cond.code yX6_free cX6_free 5 (some .int)
set_option maxRecDepth 100000 in
theorem cd_yX6_free : w_yX6_free ∈ gtbl := zx_mem2 2 rfl rfl
theorem ml_RL_37 : Cond.methodLink RL 37 yX6_rightful ∈ gtbl := zx_mem2 3 (by decide +kernel) (by decide +kernel)
theorem im_yX6_rightful : Cond.instanceMethod yX6_rightful ∈ gtbl := zx_mem2 4 (by decide +kernel) (by decide +kernel)
theorem sl_yX6_rightful : Cond.selects RX6 yX6_rightful yX6_rightful ∈ gtbl := zx_mem2 5 (by decide +kernel) (by decide +kernel)
abbrev w_yX6_rightful : Cond := Cond.code yX6_rightful cX6_rightful 4 (some .int)
set_option maxRecDepth 100000 in
theorem cd_yX6_rightful : w_yX6_rightful ∈ gtbl := zx_mem2 6 rfl rfl
theorem ml_RX6_89 : Cond.methodLink RX6 89 yX2_owner ∈ gtbl := zx_mem2 7 (by decide +kernel) (by decide +kernel)
theorem im_yX2_owner : Cond.instanceMethod yX2_owner ∈ gtbl := zx_mem2 8 (by decide +kernel) (by decide +kernel)
theorem sl_yX2_owner : Cond.selects RX2 yX2_owner yX2_owner ∈ gtbl := zx_mem2 9 (by decide +kernel) (by decide +kernel)
abbrev w_yX2_owner : Cond := Cond.code yX2_owner cX2_owner 4 (some .int)
set_option maxRecDepth 100000 in
theorem cd_yX2_owner : w_yX2_owner ∈ gtbl := zx_mem2 10 rfl rfl
theorem ml_RX2_23 : Cond.methodLink RX2 23 yX2_holder ∈ gtbl := zx_mem2 11 (by decide +kernel) (by decide +kernel)
theorem ml_RL_41 : Cond.methodLink RL 41 yX6_say ∈ gtbl := zx_mem2 12 (by decide +kernel) (by decide +kernel)
theorem im_yX6_say : Cond.instanceMethod yX6_say ∈ gtbl := zx_mem2 13 (by decide +kernel) (by decide +kernel)
theorem sl_yX6_say : Cond.selects RX6 yX6_say yX6_say ∈ gtbl := zx_mem2 14 (by decide +kernel) (by decide +kernel)
abbrev w_yX6_say : Cond := Cond.code yX6_say cX6_say 5 (some .int)
set_option maxRecDepth 100000 in
theorem cd_yX6_say : w_yX6_say ∈ gtbl := zx_mem2 15 rfl rfl
theorem ml_RX6_92 : Cond.methodLink RX6 92 yX3_sayers ∈ gtbl := zx_mem2 16 (by decide +kernel) (by decide +kernel)
theorem im_yX3_sayers : Cond.instanceMethod yX3_sayers ∈ gtbl := zx_mem2 17 (by decide +kernel) (by decide +kernel)
theorem sl_yX3_sayers : Cond.selects RX3 yX3_sayers yX3_sayers ∈ gtbl := zx_mem2 18 (by decide +kernel) (by decide +kernel)
abbrev w_yX3_sayers : Cond := Cond.code yX3_sayers cX3_sayers 2 (some .int)
set_option maxRecDepth 100000 in
theorem cd_yX3_sayers : w_yX3_sayers ∈ gtbl := zx_mem2 19 rfl rfl
theorem ml_RX6_95 : Cond.methodLink RX6 95 yX6_hasBit ∈ gtbl := zx_mem2 21 (by decide +kernel) (by decide +kernel)
theorem ml_RX6_98 : Cond.methodLink RX6 98 yX3_add ∈ gtbl := zx_mem2 22 (by decide +kernel) (by decide +kernel)
theorem im_yX3_add : Cond.instanceMethod yX3_add ∈ gtbl := zx_mem2 23 (by decide +kernel) (by decide +kernel)
theorem sl_yX3_add : Cond.selects RX3 yX3_add yX3_add ∈ gtbl := zx_mem2 24 (by decide +kernel) (by decide +kernel)
abbrev w_yX3_add : Cond := Cond.code yX3_add cX3_add 3 (some .int)
set_option maxRecDepth 100000 in
theorem cd_yX3_add : w_yX3_add ∈ gtbl := zx_mem2 25 rfl rfl
theorem ml_RX3_32 : Cond.methodLink RX3 32 yX3_sayers ∈ gtbl := zx_mem2 26 (by decide +kernel) (by decide +kernel)
theorem ml_RX3_38 : Cond.methodLink RX3 38 yX3_suppose ∈ gtbl := zx_mem2 28 (by decide +kernel) (by decide +kernel)
theorem im_yX3_suppose : Cond.instanceMethod yX3_suppose ∈ gtbl := zx_mem2 29 (by decide +kernel) (by decide +kernel)
theorem sl_yX3_suppose : Cond.selects RX3 yX3_suppose yX3_suppose ∈ gtbl := zx_mem2 30 (by decide +kernel) (by decide +kernel)
abbrev w_yX3_suppose : Cond := Cond.code yX3_suppose cX3_suppose 3 none
set_option maxRecDepth 100000 in
theorem cd_yX3_suppose : w_yX3_suppose ∈ gtbl := zx_mem2 31 rfl rfl
theorem ml_RL_45 : Cond.methodLink RL 45 yX6_unsay ∈ gtbl := zx_mem2 32 (by decide +kernel) (by decide +kernel)
theorem im_yX6_unsay : Cond.instanceMethod yX6_unsay ∈ gtbl := zx_mem2 33 (by decide +kernel) (by decide +kernel)
theorem sl_yX6_unsay : Cond.selects RX6 yX6_unsay yX6_unsay ∈ gtbl := zx_mem2 34 (by decide +kernel) (by decide +kernel)
abbrev w_yX6_unsay : Cond := Cond.code yX6_unsay cX6_unsay 2 (some .int)
set_option maxRecDepth 100000 in
theorem cd_yX6_unsay : w_yX6_unsay ∈ gtbl := zx_mem2 35 rfl rfl
theorem ml_RX6_101 : Cond.methodLink RX6 101 yX3_has ∈ gtbl := zx_mem2 36 (by decide +kernel) (by decide +kernel)
theorem im_yX3_has : Cond.instanceMethod yX3_has ∈ gtbl := zx_mem2 37 (by decide +kernel) (by decide +kernel)
theorem sl_yX3_has : Cond.selects RX3 yX3_has yX3_has ∈ gtbl := zx_mem2 38 (by decide +kernel) (by decide +kernel)
abbrev w_yX3_has : Cond := Cond.code yX3_has cX3_has 2 (some .boolean)
set_option maxRecDepth 100000 in
theorem cd_yX3_has : w_yX3_has ∈ gtbl := zx_mem2 39 rfl rfl
theorem ml_RX6_102 : Cond.methodLink RX6 102 yX3_drop ∈ gtbl := zx_mem2 40 (by decide +kernel) (by decide +kernel)
theorem im_yX3_drop : Cond.instanceMethod yX3_drop ∈ gtbl := zx_mem2 41 (by decide +kernel) (by decide +kernel)
theorem sl_yX3_drop : Cond.selects RX3 yX3_drop yX3_drop ∈ gtbl := zx_mem2 42 (by decide +kernel) (by decide +kernel)
abbrev w_yX3_drop : Cond := Cond.code yX3_drop cX3_drop 3 none
set_option maxRecDepth 100000 in
theorem cd_yX3_drop : w_yX3_drop ∈ gtbl := zx_mem2 43 rfl rfl
theorem ml_RX3_25 : Cond.methodLink RX3 25 yX3_has ∈ gtbl := zx_mem2 44 (by decide +kernel) (by decide +kernel)
theorem ml_RL_50 : Cond.methodLink RL 50 yX6_set ∈ gtbl := zx_mem2 45 (by decide +kernel) (by decide +kernel)
theorem im_yX6_set : Cond.instanceMethod yX6_set ∈ gtbl := zx_mem2 46 (by decide +kernel) (by decide +kernel)
theorem sl_yX6_set : Cond.selects RX6 yX6_set yX6_set ∈ gtbl := zx_mem2 47 (by decide +kernel) (by decide +kernel)
abbrev w_yX6_set : Cond := Cond.code yX6_set cX6_set 4 (some .int)
set_option maxRecDepth 100000 in
theorem cd_yX6_set : w_yX6_set ∈ gtbl := zx_mem2 48 rfl rfl
theorem ml_RX6_106 : Cond.methodLink RX6 106 yX1_turnLeak ∈ gtbl := zx_mem2 49 (by decide +kernel) (by decide +kernel)
theorem im_yX1_turnLeak : Cond.instanceMethod yX1_turnLeak ∈ gtbl := zx_mem2 50 (by decide +kernel) (by decide +kernel)
theorem sl_yX1_turnLeak : Cond.selects RX1 yX1_turnLeak yX1_turnLeak ∈ gtbl := zx_mem2 51 (by decide +kernel) (by decide +kernel)
abbrev w_yX1_turnLeak : Cond := Cond.code yX1_turnLeak cX1_turnLeak 4 (some .int)
set_option maxRecDepth 100000 in
theorem cd_yX1_turnLeak : w_yX1_turnLeak ∈ gtbl := zx_mem2 52 rfl rfl
theorem ml_RX6_110 : Cond.methodLink RX6 110 yX1_turnRefusal ∈ gtbl := zx_mem2 53 (by decide +kernel) (by decide +kernel)
theorem im_yX1_turnRefusal : Cond.instanceMethod yX1_turnRefusal ∈ gtbl := zx_mem2 54 (by decide +kernel) (by decide +kernel)
theorem sl_yX1_turnRefusal : Cond.selects RX1 yX1_turnRefusal yX1_turnRefusal ∈ gtbl := zx_mem2 55 (by decide +kernel) (by decide +kernel)
abbrev w_yX1_turnRefusal : Cond := Cond.code yX1_turnRefusal cX1_turnRefusal 4 (some .int)
set_option maxRecDepth 100000 in
theorem cd_yX1_turnRefusal : w_yX1_turnRefusal ∈ gtbl := zx_mem2 56 rfl rfl
theorem ml_RL_54 : Cond.methodLink RL 54 yX6_rounds ∈ gtbl := zx_mem2 57 (by decide +kernel) (by decide +kernel)
theorem im_yX6_rounds : Cond.instanceMethod yX6_rounds ∈ gtbl := zx_mem2 58 (by decide +kernel) (by decide +kernel)
theorem sl_yX6_rounds : Cond.selects RX6 yX6_rounds yX6_rounds ∈ gtbl := zx_mem2 59 (by decide +kernel) (by decide +kernel)
abbrev w_yX6_rounds : Cond := Cond.code yX6_rounds cX6_rounds 5 (some .int)
set_option maxRecDepth 100000 in
theorem cd_yX6_rounds : w_yX6_rounds ∈ gtbl := zx_mem2 60 rfl rfl
theorem ml_RX6_113 : Cond.methodLink RX6 113 yX6_refusal ∈ gtbl := zx_mem2 61 (by decide +kernel) (by decide +kernel)
theorem im_yX6_refusal : Cond.instanceMethod yX6_refusal ∈ gtbl := zx_mem2 63 (by decide +kernel) (by decide +kernel)
abbrev w_yX6_refusal : Cond := Cond.code yX6_refusal cX6_refusal 2 (some .int)
set_option maxRecDepth 100000 in
theorem cd_yX6_refusal : w_yX6_refusal ∈ gtbl := zx_mem2 64 rfl rfl
theorem ml_RX6_116 : Cond.methodLink RX6 116 yX1_refusing ∈ gtbl := zx_mem2 65 (by decide +kernel) (by decide +kernel)
theorem im_yX1_refusing : Cond.instanceMethod yX1_refusing ∈ gtbl := zx_mem2 66 (by decide +kernel) (by decide +kernel)
theorem sl_yX1_refusing : Cond.selects RX1 yX1_refusing yX1_refusing ∈ gtbl := zx_mem2 67 (by decide +kernel) (by decide +kernel)
abbrev w_yX1_refusing : Cond := Cond.code yX1_refusing cX1_refusing 1 (some .int)
set_option maxRecDepth 100000 in
theorem cd_yX1_refusing : w_yX1_refusing ∈ gtbl := zx_mem2 68 rfl rfl
theorem ml_RX6_119 : Cond.methodLink RX6 119 yX4_settle ∈ gtbl := zx_mem2 69 (by decide +kernel) (by decide +kernel)
theorem im_yX4_settle : Cond.instanceMethod yX4_settle ∈ gtbl := zx_mem2 70 (by decide +kernel) (by decide +kernel)
theorem sl_yX4_settle : Cond.selects RX4 yX4_settle yX4_settle ∈ gtbl := zx_mem2 71 (by decide +kernel) (by decide +kernel)
abbrev w_yX4_settle : Cond := Cond.code yX4_settle cX4_settle 7 none
set_option maxRecDepth 100000 in
theorem cd_yX4_settle : w_yX4_settle ∈ gtbl := zx_mem2 72 rfl rfl
theorem ml_RX4_37 : Cond.methodLink RX4 37 yX3_sayers ∈ gtbl := zx_mem2 73 (by decide +kernel) (by decide +kernel)
theorem ml_RX4_43 : Cond.methodLink RX4 43 yX2_owner ∈ gtbl := zx_mem2 74 (by decide +kernel) (by decide +kernel)
theorem ml_RX4_48 : Cond.methodLink RX4 48 yX5_begin ∈ gtbl := zx_mem2 75 (by decide +kernel) (by decide +kernel)
theorem im_yX5_begin : Cond.instanceMethod yX5_begin ∈ gtbl := zx_mem2 76 (by decide +kernel) (by decide +kernel)
theorem sl_yX5_begin : Cond.selects RX5 yX5_begin yX5_begin ∈ gtbl := zx_mem2 77 (by decide +kernel) (by decide +kernel)
abbrev w_yX5_begin : Cond := Cond.code yX5_begin cX5_begin 4 none
set_option maxRecDepth 100000 in
theorem cd_yX5_begin : w_yX5_begin ∈ gtbl := zx_mem2 78 rfl rfl
theorem ml_RX4_52 : Cond.methodLink RX4 52 yX5_copy ∈ gtbl := zx_mem2 81 (by decide +kernel) (by decide +kernel)
theorem im_yX5_copy : Cond.instanceMethod yX5_copy ∈ gtbl := zx_mem2 82 (by decide +kernel) (by decide +kernel)
theorem sl_yX5_copy : Cond.selects RX5 yX5_copy yX5_copy ∈ gtbl := zx_mem2 83 (by decide +kernel) (by decide +kernel)
abbrev w_yX5_copy : Cond := Cond.code yX5_copy cX5_copy 2 none
set_option maxRecDepth 100000 in
theorem cd_yX5_copy : w_yX5_copy ∈ gtbl := zx_mem2 84 rfl rfl
theorem ml_RX5_33 : Cond.methodLink RX5 33 arraycopyName ∈ gtbl := zx_mem2 85 (by decide +kernel) (by decide +kernel)
theorem sm_arraycopyName : Cond.static arraycopyName ∈ gtbl := zx_mem2 86 (by decide +kernel) (by decide +kernel)
theorem nv_arraycopyName : Cond.native arraycopyName ∈ gtbl := zx_mem2 87 (by decide +kernel) (by decide +kernel)
theorem ml_RX4_56 : Cond.methodLink RX4 56 yX4_goRound ∈ gtbl := zx_mem2 88 (by decide +kernel) (by decide +kernel)
theorem im_yX4_goRound : Cond.instanceMethod yX4_goRound ∈ gtbl := zx_mem2 90 (by decide +kernel) (by decide +kernel)
abbrev w_yX4_goRound : Cond := Cond.code yX4_goRound cX4_goRound 8 (some .boolean)
set_option maxRecDepth 100000 in
theorem cd_yX4_goRound : w_yX4_goRound ∈ gtbl := zx_mem2 91 rfl rfl
theorem ml_RX4_60 : Cond.methodLink RX4 60 yX4_openHouses ∈ gtbl := zx_mem2 92 (by decide +kernel) (by decide +kernel)
theorem im_yX4_openHouses : Cond.instanceMethod yX4_openHouses ∈ gtbl := zx_mem2 94 (by decide +kernel) (by decide +kernel)
abbrev w_yX4_openHouses : Cond := Cond.code yX4_openHouses cX4_openHouses 4 (some .int)
set_option maxRecDepth 100000 in
theorem cd_yX4_openHouses : w_yX4_openHouses ∈ gtbl := zx_mem2 95 rfl rfl
theorem ml_RX4_81 : Cond.methodLink RX4 81 yX1_leaking ∈ gtbl := zx_mem2 96 (by decide +kernel) (by decide +kernel)
theorem im_yX1_leaking : Cond.instanceMethod yX1_leaking ∈ gtbl := zx_mem2 97 (by decide +kernel) (by decide +kernel)
theorem sl_yX1_leaking : Cond.selects RX1 yX1_leaking yX1_leaking ∈ gtbl := zx_mem2 98 (by decide +kernel) (by decide +kernel)
abbrev w_yX1_leaking : Cond := Cond.code yX1_leaking cX1_leaking 1 (some .int)
set_option maxRecDepth 100000 in
theorem cd_yX1_leaking : w_yX1_leaking ∈ gtbl := zx_mem2 99 rfl rfl
theorem ml_RX4_63 : Cond.methodLink RX4 63 yX1_number ∈ gtbl := zx_mem2 100 (by decide +kernel) (by decide +kernel)
theorem im_yX1_number : Cond.instanceMethod yX1_number ∈ gtbl := zx_mem2 101 (by decide +kernel) (by decide +kernel)
theorem sl_yX1_number : Cond.selects RX1 yX1_number yX1_number ∈ gtbl := zx_mem2 102 (by decide +kernel) (by decide +kernel)
abbrev w_yX1_number : Cond := Cond.code yX1_number cX1_number 1 (some .int)
set_option maxRecDepth 100000 in
theorem cd_yX1_number : w_yX1_number ∈ gtbl := zx_mem2 103 rfl rfl
theorem ml_RX4_84 : Cond.methodLink RX4 84 yX5_at ∈ gtbl := zx_mem2 104 (by decide +kernel) (by decide +kernel)
theorem im_yX5_at : Cond.instanceMethod yX5_at ∈ gtbl := zx_mem2 105 (by decide +kernel) (by decide +kernel)
theorem sl_yX5_at : Cond.selects RX5 yX5_at yX5_at ∈ gtbl := zx_mem2 106 (by decide +kernel) (by decide +kernel)
abbrev w_yX5_at : Cond := Cond.code yX5_at cX5_at 3 (some .int)
set_option maxRecDepth 100000 in
theorem cd_yX5_at : w_yX5_at ∈ gtbl := zx_mem2 107 rfl rfl
theorem ml_RX4_88 : Cond.methodLink RX4 88 yX1_kind ∈ gtbl := zx_mem2 108 (by decide +kernel) (by decide +kernel)
theorem ml_RX4_73 : Cond.methodLink RX4 73 yX4_bestFor ∈ gtbl := zx_mem2 111 (by decide +kernel) (by decide +kernel)
theorem im_yX4_bestFor : Cond.instanceMethod yX4_bestFor ∈ gtbl := zx_mem2 113 (by decide +kernel) (by decide +kernel)
abbrev w_yX4_bestFor : Cond := Cond.code yX4_bestFor cX4_bestFor 12 (some .int)
set_option maxRecDepth 100000 in
theorem cd_yX4_bestFor : w_yX4_bestFor ∈ gtbl := zx_mem2 114 rfl rfl
theorem ml_RX4_94 : Cond.methodLink RX4 94 yX5_length ∈ gtbl := zx_mem2 115 (by decide +kernel) (by decide +kernel)
theorem im_yX5_length : Cond.instanceMethod yX5_length ∈ gtbl := zx_mem2 116 (by decide +kernel) (by decide +kernel)
theorem sl_yX5_length : Cond.selects RX5 yX5_length yX5_length ∈ gtbl := zx_mem2 117 (by decide +kernel) (by decide +kernel)
abbrev w_yX5_length : Cond := Cond.code yX5_length cX5_length 2 (some .int)
set_option maxRecDepth 100000 in
theorem cd_yX5_length : w_yX5_length ∈ gtbl := zx_mem2 118 rfl rfl
theorem ml_RX4_97 : Cond.methodLink RX4 97 yX5_isOn ∈ gtbl := zx_mem2 119 (by decide +kernel) (by decide +kernel)
theorem im_yX5_isOn : Cond.instanceMethod yX5_isOn ∈ gtbl := zx_mem2 120 (by decide +kernel) (by decide +kernel)
theorem sl_yX5_isOn : Cond.selects RX5 yX5_isOn yX5_isOn ∈ gtbl := zx_mem2 121 (by decide +kernel) (by decide +kernel)
abbrev w_yX5_isOn : Cond := Cond.code yX5_isOn cX5_isOn 3 (some .boolean)
set_option maxRecDepth 100000 in
theorem cd_yX5_isOn : w_yX5_isOn ∈ gtbl := zx_mem2 122 rfl rfl
theorem ml_RX4_100 : Cond.methodLink RX4 100 yX5_last ∈ gtbl := zx_mem2 123 (by decide +kernel) (by decide +kernel)
theorem im_yX5_last : Cond.instanceMethod yX5_last ∈ gtbl := zx_mem2 124 (by decide +kernel) (by decide +kernel)
theorem sl_yX5_last : Cond.selects RX5 yX5_last yX5_last ∈ gtbl := zx_mem2 125 (by decide +kernel) (by decide +kernel)
abbrev w_yX5_last : Cond := Cond.code yX5_last cX5_last 2 (some .int)
set_option maxRecDepth 100000 in
theorem cd_yX5_last : w_yX5_last ∈ gtbl := zx_mem2 126 rfl rfl
theorem ml_RX4_77 : Cond.methodLink RX4 77 yX5_follow ∈ gtbl := zx_mem2 127 (by decide +kernel) (by decide +kernel)
theorem im_yX5_follow : Cond.instanceMethod yX5_follow ∈ gtbl := zx_mem2 128 (by decide +kernel) (by decide +kernel)
theorem sl_yX5_follow : Cond.selects RX5 yX5_follow yX5_follow ∈ gtbl := zx_mem2 129 (by decide +kernel) (by decide +kernel)
abbrev w_yX5_follow : Cond := Cond.code yX5_follow cX5_follow 9 (some .boolean)
set_option maxRecDepth 100000 in
theorem cd_yX5_follow : w_yX5_follow ∈ gtbl := zx_mem2 130 rfl rfl
theorem ml_RX6_122 : Cond.methodLink RX6 122 yX4_changing ∈ gtbl := zx_mem2 131 (by decide +kernel) (by decide +kernel)
theorem im_yX4_changing : Cond.instanceMethod yX4_changing ∈ gtbl := zx_mem2 132 (by decide +kernel) (by decide +kernel)
theorem sl_yX4_changing : Cond.selects RX4 yX4_changing yX4_changing ∈ gtbl := zx_mem2 133 (by decide +kernel) (by decide +kernel)
abbrev w_yX4_changing : Cond := Cond.code yX4_changing cX4_changing 1 (some .int)
set_option maxRecDepth 100000 in
theorem cd_yX4_changing : w_yX4_changing ∈ gtbl := zx_mem2 134 rfl rfl
theorem ml_RL_58 : Cond.methodLink RL 58 yX6_restless ∈ gtbl := zx_mem2 135 (by decide +kernel) (by decide +kernel)
theorem im_yX6_restless : Cond.instanceMethod yX6_restless ∈ gtbl := zx_mem2 136 (by decide +kernel) (by decide +kernel)
theorem sl_yX6_restless : Cond.selects RX6 yX6_restless yX6_restless ∈ gtbl := zx_mem2 137 (by decide +kernel) (by decide +kernel)
abbrev w_yX6_restless : Cond := Cond.code yX6_restless cX6_restless 4 (some .int)
set_option maxRecDepth 100000 in
theorem cd_yX6_restless : w_yX6_restless ∈ gtbl := zx_mem2 138 rfl rfl
theorem ml_RX6_125 : Cond.methodLink RX6 125 yX6_rounds ∈ gtbl := zx_mem2 139 (by decide +kernel) (by decide +kernel)
theorem ml_RL_62 : Cond.methodLink RL 62 yX6_way ∈ gtbl := zx_mem2 140 (by decide +kernel) (by decide +kernel)
theorem im_yX6_way : Cond.instanceMethod yX6_way ∈ gtbl := zx_mem2 141 (by decide +kernel) (by decide +kernel)
theorem sl_yX6_way : Cond.selects RX6 yX6_way yX6_way ∈ gtbl := zx_mem2 142 (by decide +kernel) (by decide +kernel)
abbrev w_yX6_way : Cond := Cond.code yX6_way cX6_way 7 (some .int)
set_option maxRecDepth 100000 in
theorem cd_yX6_way : w_yX6_way ∈ gtbl := zx_mem2 143 rfl rfl
theorem ml_RX6_128 : Cond.methodLink RX6 128 yX4_ways ∈ gtbl := zx_mem2 144 (by decide +kernel) (by decide +kernel)
theorem im_yX4_ways : Cond.instanceMethod yX4_ways ∈ gtbl := zx_mem2 145 (by decide +kernel) (by decide +kernel)
theorem sl_yX4_ways : Cond.selects RX4 yX4_ways yX4_ways ∈ gtbl := zx_mem2 146 (by decide +kernel) (by decide +kernel)
abbrev w_yX4_ways : Cond := Cond.code yX4_ways cX4_ways 1 (some (.object "RouteWatch$Ways"))
set_option maxRecDepth 100000 in
theorem cd_yX4_ways : w_yX4_ways ∈ gtbl := zx_mem2 147 rfl rfl
theorem ml_RX6_132 : Cond.methodLink RX6 132 yX5_at ∈ gtbl := zx_mem2 148 (by decide +kernel) (by decide +kernel)
theorem ml_RL_67 : Cond.methodLink RL 67 yX6_broken ∈ gtbl := zx_mem2 149 (by decide +kernel) (by decide +kernel)
theorem im_yX6_broken : Cond.instanceMethod yX6_broken ∈ gtbl := zx_mem2 150 (by decide +kernel) (by decide +kernel)
theorem sl_yX6_broken : Cond.selects RX6 yX6_broken yX6_broken ∈ gtbl := zx_mem2 151 (by decide +kernel) (by decide +kernel)
abbrev w_yX6_broken : Cond := Cond.code yX6_broken cX6_broken 6 (some .int)
set_option maxRecDepth 100000 in
theorem cd_yX6_broken : w_yX6_broken ∈ gtbl := zx_mem2 152 rfl rfl
theorem ml_RX6_137 : Cond.methodLink RX6 137 yX4_breaker ∈ gtbl := zx_mem2 153 (by decide +kernel) (by decide +kernel)
theorem im_yX4_breaker : Cond.instanceMethod yX4_breaker ∈ gtbl := zx_mem2 154 (by decide +kernel) (by decide +kernel)
theorem sl_yX4_breaker : Cond.selects RX4 yX4_breaker yX4_breaker ∈ gtbl := zx_mem2 155 (by decide +kernel) (by decide +kernel)
abbrev w_yX4_breaker : Cond := Cond.code yX4_breaker cX4_breaker 6 (some .int)
set_option maxRecDepth 100000 in
theorem cd_yX4_breaker : w_yX4_breaker ∈ gtbl := zx_mem2 156 rfl rfl
theorem ml_RL_71 : Cond.methodLink RL 71 yX6_goes ∈ gtbl := zx_mem2 157 (by decide +kernel) (by decide +kernel)
theorem im_yX6_goes : Cond.instanceMethod yX6_goes ∈ gtbl := zx_mem2 158 (by decide +kernel) (by decide +kernel)
theorem sl_yX6_goes : Cond.selects RX6 yX6_goes yX6_goes ∈ gtbl := zx_mem2 159 (by decide +kernel) (by decide +kernel)
abbrev w_yX6_goes : Cond := Cond.code yX6_goes cX6_goes 3 (some .int)
set_option maxRecDepth 100000 in
theorem cd_yX6_goes : w_yX6_goes ∈ gtbl := zx_mem2 160 rfl rfl
theorem ml_RX6_143 : Cond.methodLink RX6 143 yX0_look ∈ gtbl := zx_mem2 161 (by decide +kernel) (by decide +kernel)
theorem im_yX0_look : Cond.instanceMethod yX0_look ∈ gtbl := zx_mem2 162 (by decide +kernel) (by decide +kernel)
theorem sl_yX0_look : Cond.selects RX0 yX0_look yX0_look ∈ gtbl := zx_mem2 163 (by decide +kernel) (by decide +kernel)
abbrev w_yX0_look : Cond := Cond.code yX0_look cX0_look 5 none
set_option maxRecDepth 100000 in
theorem cd_yX0_look : w_yX0_look ∈ gtbl := zx_mem2 164 rfl rfl
theorem ml_RX0_31 : Cond.methodLink RX0 31 yX1_number ∈ gtbl := zx_mem2 165 (by decide +kernel) (by decide +kernel)
theorem ml_RX0_37 : Cond.methodLink RX0 37 yX3_sayers ∈ gtbl := zx_mem2 166 (by decide +kernel) (by decide +kernel)
theorem ml_RX0_43 : Cond.methodLink RX0 43 yX4_settle ∈ gtbl := zx_mem2 167 (by decide +kernel) (by decide +kernel)
theorem ml_RX0_49 : Cond.methodLink RX0 49 yX4_ways ∈ gtbl := zx_mem2 168 (by decide +kernel) (by decide +kernel)
theorem ml_RX0_53 : Cond.methodLink RX0 53 yX0_fillHops ∈ gtbl := zx_mem2 169 (by decide +kernel) (by decide +kernel)
theorem im_yX0_fillHops : Cond.instanceMethod yX0_fillHops ∈ gtbl := zx_mem2 171 (by decide +kernel) (by decide +kernel)
abbrev w_yX0_fillHops : Cond := Cond.code yX0_fillHops cX0_fillHops 5 (some .int)
set_option maxRecDepth 100000 in
theorem cd_yX0_fillHops : w_yX0_fillHops ∈ gtbl := zx_mem2 172 rfl rfl
theorem ml_RX0_57 : Cond.methodLink RX0 57 yX5_length ∈ gtbl := zx_mem2 173 (by decide +kernel) (by decide +kernel)
theorem ml_RX0_62 : Cond.methodLink RX0 62 yX5_at ∈ gtbl := zx_mem2 174 (by decide +kernel) (by decide +kernel)
theorem ml_RX6_146 : Cond.methodLink RX6 146 yX0_end ∈ gtbl := zx_mem2 175 (by decide +kernel) (by decide +kernel)
theorem im_yX0_end : Cond.instanceMethod yX0_end ∈ gtbl := zx_mem2 176 (by decide +kernel) (by decide +kernel)
theorem sl_yX0_end : Cond.selects RX0 yX0_end yX0_end ∈ gtbl := zx_mem2 177 (by decide +kernel) (by decide +kernel)
abbrev w_yX0_end : Cond := Cond.code yX0_end cX0_end 5 (some .int)
set_option maxRecDepth 100000 in
theorem cd_yX0_end : w_yX0_end ∈ gtbl := zx_mem2 178 rfl rfl
theorem ml_RL_75 : Cond.methodLink RL 75 yX6_misled ∈ gtbl := zx_mem2 179 (by decide +kernel) (by decide +kernel)
theorem im_yX6_misled : Cond.instanceMethod yX6_misled ∈ gtbl := zx_mem2 180 (by decide +kernel) (by decide +kernel)
theorem sl_yX6_misled : Cond.selects RX6 yX6_misled yX6_misled ∈ gtbl := zx_mem2 181 (by decide +kernel) (by decide +kernel)
abbrev w_yX6_misled : Cond := Cond.code yX6_misled cX6_misled 2 (some .int)
set_option maxRecDepth 100000 in
theorem cd_yX6_misled : w_yX6_misled ∈ gtbl := zx_mem2 182 rfl rfl
theorem ml_RX6_149 : Cond.methodLink RX6 149 yX0_astray ∈ gtbl := zx_mem2 183 (by decide +kernel) (by decide +kernel)
theorem im_yX0_astray : Cond.instanceMethod yX0_astray ∈ gtbl := zx_mem2 184 (by decide +kernel) (by decide +kernel)
theorem sl_yX0_astray : Cond.selects RX0 yX0_astray yX0_astray ∈ gtbl := zx_mem2 185 (by decide +kernel) (by decide +kernel)
abbrev w_yX0_astray : Cond := Cond.code yX0_astray cX0_astray 7 (some .int)
set_option maxRecDepth 100000 in
theorem cd_yX0_astray : w_yX0_astray ∈ gtbl := zx_mem2 186 rfl rfl
theorem ml_RX0_66 : Cond.methodLink RX0 66 yX2_owner ∈ gtbl := zx_mem2 187 (by decide +kernel) (by decide +kernel)
theorem ml_RX0_71 : Cond.methodLink RX0 71 yX0_look ∈ gtbl := zx_mem2 188 (by decide +kernel) (by decide +kernel)
theorem ml_RX0_74 : Cond.methodLink RX0 74 yX0_end ∈ gtbl := zx_mem2 189 (by decide +kernel) (by decide +kernel)
theorem ml_RL_79 : Cond.methodLink RL 79 yX6_saying ∈ gtbl := zx_mem2 191 (by decide +kernel) (by decide +kernel)
theorem im_yX6_saying : Cond.instanceMethod yX6_saying ∈ gtbl := zx_mem2 192 (by decide +kernel) (by decide +kernel)
theorem sl_yX6_saying : Cond.selects RX6 yX6_saying yX6_saying ∈ gtbl := zx_mem2 193 (by decide +kernel) (by decide +kernel)
abbrev w_yX6_saying : Cond := Cond.code yX6_saying cX6_saying 4 (some .int)
set_option maxRecDepth 100000 in
theorem cd_yX6_saying : w_yX6_saying ∈ gtbl := zx_mem2 194 rfl rfl
theorem ml_RX6_152 : Cond.methodLink RX6 152 yX3_block ∈ gtbl := zx_mem2 195 (by decide +kernel) (by decide +kernel)
theorem im_yX3_block : Cond.instanceMethod yX3_block ∈ gtbl := zx_mem2 196 (by decide +kernel) (by decide +kernel)
theorem sl_yX3_block : Cond.selects RX3 yX3_block yX3_block ∈ gtbl := zx_mem2 197 (by decide +kernel) (by decide +kernel)
abbrev w_yX3_block : Cond := Cond.code yX3_block cX3_block 2 (some .int)
set_option maxRecDepth 100000 in
theorem cd_yX3_block : w_yX3_block ∈ gtbl := zx_mem2 198 rfl rfl
theorem ml_RX6_155 : Cond.methodLink RX6 155 yX6_lengthOf ∈ gtbl := zx_mem2 199 (by decide +kernel) (by decide +kernel)
theorem sm_yX6_lengthOf : Cond.static yX6_lengthOf ∈ gtbl := zx_mem2 200 (by decide +kernel) (by decide +kernel)
abbrev w_yX6_lengthOf : Cond := Cond.code yX6_lengthOf cX6_lengthOf 2 (some .int)
set_option maxRecDepth 100000 in
theorem cd_yX6_lengthOf : w_yX6_lengthOf ∈ gtbl := zx_mem2 201 rfl rfl
theorem ml_RX6_158 : Cond.methodLink RX6 158 yX6_firstOf ∈ gtbl := zx_mem2 202 (by decide +kernel) (by decide +kernel)
theorem sm_yX6_firstOf : Cond.static yX6_firstOf ∈ gtbl := zx_mem2 203 (by decide +kernel) (by decide +kernel)
abbrev w_yX6_firstOf : Cond := Cond.code yX6_firstOf cX6_firstOf 1 (some .int)
set_option maxRecDepth 100000 in
theorem cd_yX6_firstOf : w_yX6_firstOf ∈ gtbl := zx_mem2 204 rfl rfl
theorem ml_RX6_161 : Cond.methodLink RX6 161 yX3_sayer ∈ gtbl := zx_mem2 205 (by decide +kernel) (by decide +kernel)
theorem im_yX3_sayer : Cond.instanceMethod yX3_sayer ∈ gtbl := zx_mem2 206 (by decide +kernel) (by decide +kernel)
theorem sl_yX3_sayer : Cond.selects RX3 yX3_sayer yX3_sayer ∈ gtbl := zx_mem2 207 (by decide +kernel) (by decide +kernel)
abbrev w_yX3_sayer : Cond := Cond.code yX3_sayer cX3_sayer 2 (some .int)
set_option maxRecDepth 100000 in
theorem cd_yX3_sayer : w_yX3_sayer ∈ gtbl := zx_mem2 208 rfl rfl
theorem ml_RX6_164 : Cond.methodLink RX6 164 yX6_isFalse ∈ gtbl := zx_mem2 209 (by decide +kernel) (by decide +kernel)
theorem im_yX6_isFalse : Cond.instanceMethod yX6_isFalse ∈ gtbl := zx_mem2 211 (by decide +kernel) (by decide +kernel)
abbrev w_yX6_isFalse : Cond := Cond.code yX6_isFalse cX6_isFalse 3 (some .boolean)
set_option maxRecDepth 100000 in
theorem cd_yX6_isFalse : w_yX6_isFalse ∈ gtbl := zx_mem2 212 rfl rfl
theorem ml_RX6_167 : Cond.methodLink RX6 167 yX6_seersOf ∈ gtbl := zx_mem2 213 (by decide +kernel) (by decide +kernel)
theorem im_yX6_seersOf : Cond.instanceMethod yX6_seersOf ∈ gtbl := zx_mem2 215 (by decide +kernel) (by decide +kernel)
abbrev w_yX6_seersOf : Cond := Cond.code yX6_seersOf cX6_seersOf 5 (some .int)
set_option maxRecDepth 100000 in
theorem cd_yX6_seersOf : w_yX6_seersOf ∈ gtbl := zx_mem2 216 rfl rfl
theorem ml_RX6_196 : Cond.methodLink RX6 196 yX1_number ∈ gtbl := zx_mem2 217 (by decide +kernel) (by decide +kernel)
theorem ml_RX6_204 : Cond.methodLink RX6 204 yX5_last ∈ gtbl := zx_mem2 218 (by decide +kernel) (by decide +kernel)
theorem ml_RX6_185 : Cond.methodLink RX6 185 yX6_bit ∈ gtbl := zx_mem2 219 (by decide +kernel) (by decide +kernel)
theorem ml_RL_83 : Cond.methodLink RL 83 yX6_watchers ∈ gtbl := zx_mem2 220 (by decide +kernel) (by decide +kernel)
theorem im_yX6_watchers : Cond.instanceMethod yX6_watchers ∈ gtbl := zx_mem2 221 (by decide +kernel) (by decide +kernel)
theorem sl_yX6_watchers : Cond.selects RX6 yX6_watchers yX6_watchers ∈ gtbl := zx_mem2 222 (by decide +kernel) (by decide +kernel)
abbrev w_yX6_watchers : Cond := Cond.code yX6_watchers cX6_watchers 4 (some .int)
set_option maxRecDepth 100000 in
theorem cd_yX6_watchers : w_yX6_watchers ∈ gtbl := zx_mem2 223 rfl rfl
theorem ml_RX6_170 : Cond.methodLink RX6 170 yX6_noteSeersOfFalse ∈ gtbl := zx_mem2 224 (by decide +kernel) (by decide +kernel)
theorem im_yX6_noteSeersOfFalse : Cond.instanceMethod yX6_noteSeersOfFalse ∈ gtbl := zx_mem2 226 (by decide +kernel) (by decide +kernel)
abbrev w_yX6_noteSeersOfFalse : Cond := Cond.code yX6_noteSeersOfFalse cX6_noteSeersOfFalse 4 (some .int)
set_option maxRecDepth 100000 in
theorem cd_yX6_noteSeersOfFalse : w_yX6_noteSeersOfFalse ∈ gtbl := zx_mem2 227 rfl rfl
theorem ml_RX6_200 : Cond.methodLink RX6 200 yX3_number ∈ gtbl := zx_mem2 228 (by decide +kernel) (by decide +kernel)
theorem im_yX3_number : Cond.instanceMethod yX3_number ∈ gtbl := zx_mem2 229 (by decide +kernel) (by decide +kernel)
theorem sl_yX3_number : Cond.selects RX3 yX3_number yX3_number ∈ gtbl := zx_mem2 230 (by decide +kernel) (by decide +kernel)
abbrev w_yX3_number : Cond := Cond.code yX3_number cX3_number 1 (some .int)
set_option maxRecDepth 100000 in
theorem cd_yX3_number : w_yX3_number ∈ gtbl := zx_mem2 231 rfl rfl
theorem ml_RX6_173 : Cond.methodLink RX6 173 yX6_meetsAll ∈ gtbl := zx_mem2 232 (by decide +kernel) (by decide +kernel)
theorem im_yX6_meetsAll : Cond.instanceMethod yX6_meetsAll ∈ gtbl := zx_mem2 234 (by decide +kernel) (by decide +kernel)
abbrev w_yX6_meetsAll : Cond := Cond.code yX6_meetsAll cX6_meetsAll 4 (some .boolean)
set_option maxRecDepth 100000 in
theorem cd_yX6_meetsAll : w_yX6_meetsAll ∈ gtbl := zx_mem2 235 rfl rfl
theorem ml_RX6_176 : Cond.methodLink RX6 176 yX6_nextSet ∈ gtbl := zx_mem2 236 (by decide +kernel) (by decide +kernel)
theorem im_yX6_nextSet : Cond.instanceMethod yX6_nextSet ∈ gtbl := zx_mem2 238 (by decide +kernel) (by decide +kernel)
abbrev w_yX6_nextSet : Cond := Cond.code yX6_nextSet cX6_nextSet 5 (some .int)
set_option maxRecDepth 100000 in
theorem cd_yX6_nextSet : w_yX6_nextSet ∈ gtbl := zx_mem2 239 rfl rfl
theorem ml_RX6_191 : Cond.methodLink RX6 191 yJ6_bitCount_0f7a4 ∈ gtbl := zx_mem3 0 (by decide +kernel) (by decide +kernel)
theorem sm_yJ6_bitCount_0f7a4 : Cond.static yJ6_bitCount_0f7a4 ∈ gtbl := zx_mem3 1 (by decide +kernel) (by decide +kernel)
abbrev w_yJ6_bitCount_0f7a4 : Cond := Cond.code yJ6_bitCount_0f7a4 cJ6_bitCount_0f7a4 1 (some .int)
set_option maxRecDepth 100000 in
theorem cd_yJ6_bitCount_0f7a4 : w_yJ6_bitCount_0f7a4 ∈ gtbl := zx_mem3 2 rfl rfl
theorem ct_RJ6_265 : Cond.constant RJ6 265 1431655765 ∈ gtbl := zx_mem3 3 (by decide +kernel) (by decide +kernel)
theorem ct_RJ6_266 : Cond.constant RJ6 266 858993459 ∈ gtbl := zx_mem3 4 (by decide +kernel) (by decide +kernel)
theorem ct_RJ6_267 : Cond.constant RJ6 267 252645135 ∈ gtbl := zx_mem3 5 (by decide +kernel) (by decide +kernel)
theorem ml_RL_87 : Cond.methodLink RL 87 yX6_cure ∈ gtbl := zx_mem3 6 (by decide +kernel) (by decide +kernel)
theorem im_yX6_cure : Cond.instanceMethod yX6_cure ∈ gtbl := zx_mem3 7 (by decide +kernel) (by decide +kernel)
theorem sl_yX6_cure : Cond.selects RX6 yX6_cure yX6_cure ∈ gtbl := zx_mem3 8 (by decide +kernel) (by decide +kernel)
abbrev w_yX6_cure : Cond := Cond.code yX6_cure cX6_cure 7 (some .int)
set_option maxRecDepth 100000 in
theorem cd_yX6_cure : w_yX6_cure ∈ gtbl := zx_mem3 9 rfl rfl
theorem ml_RX6_179 : Cond.methodLink RX6 179 yX0_allSayers ∈ gtbl := zx_mem3 10 (by decide +kernel) (by decide +kernel)
theorem im_yX0_allSayers : Cond.instanceMethod yX0_allSayers ∈ gtbl := zx_mem3 11 (by decide +kernel) (by decide +kernel)
theorem sl_yX0_allSayers : Cond.selects RX0 yX0_allSayers yX0_allSayers ∈ gtbl := zx_mem3 12 (by decide +kernel) (by decide +kernel)
abbrev w_yX0_allSayers : Cond := Cond.code yX0_allSayers cX0_allSayers 4 (some .int)
set_option maxRecDepth 100000 in
theorem cd_yX0_allSayers : w_yX0_allSayers ∈ gtbl := zx_mem3 13 rfl rfl
theorem ml_RX6_182 : Cond.methodLink RX6 182 yX0_helpers ∈ gtbl := zx_mem3 14 (by decide +kernel) (by decide +kernel)
theorem im_yX0_helpers : Cond.instanceMethod yX0_helpers ∈ gtbl := zx_mem3 15 (by decide +kernel) (by decide +kernel)
theorem sl_yX0_helpers : Cond.selects RX0 yX0_helpers yX0_helpers ∈ gtbl := zx_mem3 16 (by decide +kernel) (by decide +kernel)
abbrev w_yX0_helpers : Cond := Cond.code yX0_helpers cX0_helpers 6 (some .int)
set_option maxRecDepth 100000 in
theorem cd_yX0_helpers : w_yX0_helpers ∈ gtbl := zx_mem3 17 rfl rfl
theorem ml_RX0_80 : Cond.methodLink RX0 80 yX1_refusing ∈ gtbl := zx_mem3 18 (by decide +kernel) (by decide +kernel)
theorem ml_RL_91 : Cond.methodLink RL 91 yX6_halves ∈ gtbl := zx_mem3 19 (by decide +kernel) (by decide +kernel)
theorem im_yX6_halves : Cond.instanceMethod yX6_halves ∈ gtbl := zx_mem3 20 (by decide +kernel) (by decide +kernel)
theorem sl_yX6_halves : Cond.selects RX6 yX6_halves yX6_halves ∈ gtbl := zx_mem3 21 (by decide +kernel) (by decide +kernel)
abbrev w_yX6_halves : Cond := Cond.code yX6_halves cX6_halves 6 (some .int)
set_option maxRecDepth 100000 in
theorem cd_yX6_halves : w_yX6_halves ∈ gtbl := zx_mem3 22 rfl rfl
theorem ml_RX6_188 : Cond.methodLink RX6 188 yX3_suppose ∈ gtbl := zx_mem3 23 (by decide +kernel) (by decide +kernel)
theorem ml_RL_95 : Cond.methodLink RL 95 yX6_count ∈ gtbl := zx_mem3 24 (by decide +kernel) (by decide +kernel)
theorem im_yX6_count : Cond.instanceMethod yX6_count ∈ gtbl := zx_mem3 25 (by decide +kernel) (by decide +kernel)
theorem sl_yX6_count : Cond.selects RX6 yX6_count yX6_count ∈ gtbl := zx_mem3 26 (by decide +kernel) (by decide +kernel)
abbrev w_yX6_count : Cond := Cond.code yX6_count cX6_count 2 (some .int)
set_option maxRecDepth 100000 in
theorem cd_yX6_count : w_yX6_count ∈ gtbl := zx_mem3 27 rfl rfl
theorem ml_RX6_197 : Cond.methodLink RX6 197 yX1_ties ∈ gtbl := zx_mem3 28 (by decide +kernel) (by decide +kernel)
theorem im_yX1_ties : Cond.instanceMethod yX1_ties ∈ gtbl := zx_mem3 29 (by decide +kernel) (by decide +kernel)
theorem sl_yX1_ties : Cond.selects RX1 yX1_ties yX1_ties ∈ gtbl := zx_mem3 30 (by decide +kernel) (by decide +kernel)
abbrev w_yX1_ties : Cond := Cond.code yX1_ties cX1_ties 1 (some .int)
set_option maxRecDepth 100000 in
theorem cd_yX1_ties : w_yX1_ties ∈ gtbl := zx_mem3 31 rfl rfl
theorem ml_RX6_201 : Cond.methodLink RX6 201 yX6_falseSayings ∈ gtbl := zx_mem3 32 (by decide +kernel) (by decide +kernel)
theorem im_yX6_falseSayings : Cond.instanceMethod yX6_falseSayings ∈ gtbl := zx_mem3 34 (by decide +kernel) (by decide +kernel)
abbrev w_yX6_falseSayings : Cond := Cond.code yX6_falseSayings cX6_falseSayings 3 (some .int)
set_option maxRecDepth 100000 in
theorem cd_yX6_falseSayings : w_yX6_falseSayings ∈ gtbl := zx_mem3 35 rfl rfl
theorem kl_RL_10 : Cond.classLink RL 10 RX7 ∈ gtbl := zx_mem3 36 (by decide +kernel) (by decide +kernel)
theorem it_RX7 : Cond.instantiable RX7 20 ∈ gtbl := zx_mem3 37 (by decide +kernel) (by decide +kernel)
theorem ml_RL_12 : Cond.methodLink RL 12 yX7_init ∈ gtbl := zx_mem3 38 (by decide +kernel) (by decide +kernel)
theorem im_yX7_init : Cond.instanceMethod yX7_init ∈ gtbl := zx_mem3 39 (by decide +kernel) (by decide +kernel)
abbrev w_yX7_init : Cond := Cond.code yX7_init cX7_init 1 none
set_option maxRecDepth 100000 in
theorem cd_yX7_init : w_yX7_init ∈ gtbl := zx_mem3 40 rfl rfl
theorem ml_RX7_1 : Cond.methodLink RX7 1 objectInit ∈ gtbl := zx_mem3 41 (by decide +kernel) (by decide +kernel)
theorem fl_RX7_49 : Cond.fieldLink RX7 49 "RouteWatchModel" "houses" "I" ∈ gtbl := zx_mem3 42 (by decide +kernel) (by decide +kernel)
theorem fl_RX7_7 : Cond.fieldLink RX7 7 "RouteWatchModel" "ties" "[I" ∈ gtbl := zx_mem3 43 (by decide +kernel) (by decide +kernel)
theorem fl_RX7_69 : Cond.fieldLink RX7 69 "RouteWatchModel" "rights" "I" ∈ gtbl := zx_mem3 44 (by decide +kernel) (by decide +kernel)
theorem fl_RX7_13 : Cond.fieldLink RX7 13 "RouteWatchModel" "rightLength" "[I" ∈ gtbl := zx_mem3 45 (by decide +kernel) (by decide +kernel)
theorem fl_RX7_16 : Cond.fieldLink RX7 16 "RouteWatchModel" "rightFirst" "[I" ∈ gtbl := zx_mem3 46 (by decide +kernel) (by decide +kernel)
theorem fl_RX7_19 : Cond.fieldLink RX7 19 "RouteWatchModel" "rightHouse" "[I" ∈ gtbl := zx_mem3 47 (by decide +kernel) (by decide +kernel)
theorem fl_RX7_82 : Cond.fieldLink RX7 82 "RouteWatchModel" "sayings" "I" ∈ gtbl := zx_mem3 48 (by decide +kernel) (by decide +kernel)
theorem fl_RX7_22 : Cond.fieldLink RX7 22 "RouteWatchModel" "sayLength" "[I" ∈ gtbl := zx_mem3 49 (by decide +kernel) (by decide +kernel)
theorem fl_RX7_25 : Cond.fieldLink RX7 25 "RouteWatchModel" "sayFirst" "[I" ∈ gtbl := zx_mem3 50 (by decide +kernel) (by decide +kernel)
theorem fl_RX7_28 : Cond.fieldLink RX7 28 "RouteWatchModel" "sayHouse" "[I" ∈ gtbl := zx_mem3 51 (by decide +kernel) (by decide +kernel)
theorem fl_RX7_92 : Cond.fieldLink RX7 92 "RouteWatchModel" "leaks" "I" ∈ gtbl := zx_mem3 52 (by decide +kernel) (by decide +kernel)
theorem fl_RX7_95 : Cond.fieldLink RX7 95 "RouteWatchModel" "refuses" "I" ∈ gtbl := zx_mem3 53 (by decide +kernel) (by decide +kernel)
theorem fl_RX7_31 : Cond.fieldLink RX7 31 "RouteWatchModel" "ways" "[I" ∈ gtbl := zx_mem3 54 (by decide +kernel) (by decide +kernel)
theorem fl_RX7_34 : Cond.fieldLink RX7 34 "RouteWatchModel" "size" "[I" ∈ gtbl := zx_mem3 55 (by decide +kernel) (by decide +kernel)
theorem fl_RX7_37 : Cond.fieldLink RX7 37 "RouteWatchModel" "before" "[I" ∈ gtbl := zx_mem3 56 (by decide +kernel) (by decide +kernel)
theorem fl_RX7_40 : Cond.fieldLink RX7 40 "RouteWatchModel" "sizeBefore" "[I" ∈ gtbl := zx_mem3 57 (by decide +kernel) (by decide +kernel)
theorem fl_RX7_113 : Cond.fieldLink RX7 113 "RouteWatchModel" "roundMany" "I" ∈ gtbl := zx_mem3 58 (by decide +kernel) (by decide +kernel)
theorem fl_RX7_119 : Cond.fieldLink RX7 119 "RouteWatchModel" "isRestless" "Z" ∈ gtbl := zx_mem3 59 (by decide +kernel) (by decide +kernel)
theorem fl_RX7_43 : Cond.fieldLink RX7 43 "RouteWatchModel" "hops" "[I" ∈ gtbl := zx_mem3 60 (by decide +kernel) (by decide +kernel)
theorem fl_RX7_46 : Cond.fieldLink RX7 46 "RouteWatchModel" "sights" "[I" ∈ gtbl := zx_mem3 61 (by decide +kernel) (by decide +kernel)
theorem ml_RL_17 : Cond.methodLink RL 17 yX7_house ∈ gtbl := zx_mem3 103 (by decide +kernel) (by decide +kernel)
theorem im_yX7_house : Cond.instanceMethod yX7_house ∈ gtbl := zx_mem3 104 (by decide +kernel) (by decide +kernel)
theorem sl_yX7_house : Cond.selects RX7 yX7_house yX7_house ∈ gtbl := zx_mem3 105 (by decide +kernel) (by decide +kernel)
abbrev w_yX7_house : Cond := Cond.code yX7_house cX7_house 2 (some .int)
set_option maxRecDepth 100000 in
theorem cd_yX7_house : w_yX7_house ∈ gtbl := zx_mem3 106 rfl rfl
theorem ml_RL_22 : Cond.methodLink RL 22 yX7_tie ∈ gtbl := zx_mem3 107 (by decide +kernel) (by decide +kernel)
theorem im_yX7_tie : Cond.instanceMethod yX7_tie ∈ gtbl := zx_mem3 108 (by decide +kernel) (by decide +kernel)
theorem sl_yX7_tie : Cond.selects RX7 yX7_tie yX7_tie ∈ gtbl := zx_mem3 109 (by decide +kernel) (by decide +kernel)
abbrev w_yX7_tie : Cond := Cond.code yX7_tie cX7_tie 4 (some .int)
set_option maxRecDepth 100000 in
theorem cd_yX7_tie : w_yX7_tie ∈ gtbl := zx_mem3 110 rfl rfl
theorem ml_RX7_61 : Cond.methodLink RX7 61 yX7_isHouse ∈ gtbl := zx_mem3 111 (by decide +kernel) (by decide +kernel)
theorem im_yX7_isHouse : Cond.instanceMethod yX7_isHouse ∈ gtbl := zx_mem3 113 (by decide +kernel) (by decide +kernel)
abbrev w_yX7_isHouse : Cond := Cond.code yX7_isHouse cX7_isHouse 2 (some .boolean)
set_option maxRecDepth 100000 in
theorem cd_yX7_isHouse : w_yX7_isHouse ∈ gtbl := zx_mem3 114 rfl rfl
theorem ml_RX7_53 : Cond.methodLink RX7 53 yX7_in ∈ gtbl := zx_mem3 115 (by decide +kernel) (by decide +kernel)
theorem sm_yX7_in : Cond.static yX7_in ∈ gtbl := zx_mem3 116 (by decide +kernel) (by decide +kernel)
abbrev w_yX7_in : Cond := Cond.code yX7_in cX7_in 3 (some .boolean)
set_option maxRecDepth 100000 in
theorem cd_yX7_in : w_yX7_in ∈ gtbl := zx_mem3 117 rfl rfl
theorem ml_RX7_65 : Cond.methodLink RX7 65 yX7_above ∈ gtbl := zx_mem3 118 (by decide +kernel) (by decide +kernel)
theorem im_yX7_above : Cond.instanceMethod yX7_above ∈ gtbl := zx_mem3 120 (by decide +kernel) (by decide +kernel)
abbrev w_yX7_above : Cond := Cond.code yX7_above cX7_above 6 (some .int)
set_option maxRecDepth 100000 in
theorem cd_yX7_above : w_yX7_above ∈ gtbl := zx_mem3 121 rfl rfl
theorem ml_RX7_57 : Cond.methodLink RX7 57 yX7_isOf ∈ gtbl := zx_mem3 122 (by decide +kernel) (by decide +kernel)
theorem sm_yX7_isOf : Cond.static yX7_isOf ∈ gtbl := zx_mem3 123 (by decide +kernel) (by decide +kernel)
abbrev w_yX7_isOf : Cond := Cond.code yX7_isOf cX7_isOf 2 (some .boolean)
set_option maxRecDepth 100000 in
theorem cd_yX7_isOf : w_yX7_isOf ∈ gtbl := zx_mem3 124 rfl rfl
theorem ml_RL_27 : Cond.methodLink RL 27 yX7_untie ∈ gtbl := zx_mem3 125 (by decide +kernel) (by decide +kernel)
theorem im_yX7_untie : Cond.instanceMethod yX7_untie ∈ gtbl := zx_mem3 126 (by decide +kernel) (by decide +kernel)
theorem sl_yX7_untie : Cond.selects RX7 yX7_untie yX7_untie ∈ gtbl := zx_mem3 127 (by decide +kernel) (by decide +kernel)
abbrev w_yX7_untie : Cond := Cond.code yX7_untie cX7_untie 3 (some .int)
set_option maxRecDepth 100000 in
theorem cd_yX7_untie : w_yX7_untie ∈ gtbl := zx_mem3 128 rfl rfl
theorem ml_RL_32 : Cond.methodLink RL 32 yX7_right ∈ gtbl := zx_mem3 129 (by decide +kernel) (by decide +kernel)
theorem im_yX7_right : Cond.instanceMethod yX7_right ∈ gtbl := zx_mem3 130 (by decide +kernel) (by decide +kernel)
theorem sl_yX7_right : Cond.selects RX7 yX7_right yX7_right ∈ gtbl := zx_mem3 131 (by decide +kernel) (by decide +kernel)
abbrev w_yX7_right : Cond := Cond.code yX7_right cX7_right 6 (some .int)
set_option maxRecDepth 100000 in
theorem cd_yX7_right : w_yX7_right ∈ gtbl := zx_mem3 132 rfl rfl
theorem ml_RX7_72 : Cond.methodLink RX7 72 yX7_isBlock ∈ gtbl := zx_mem3 133 (by decide +kernel) (by decide +kernel)
theorem sm_yX7_isBlock : Cond.static yX7_isBlock ∈ gtbl := zx_mem3 134 (by decide +kernel) (by decide +kernel)
abbrev w_yX7_isBlock : Cond := Cond.code yX7_isBlock cX7_isBlock 2 (some .boolean)
set_option maxRecDepth 100000 in
theorem cd_yX7_isBlock : w_yX7_isBlock ∈ gtbl := zx_mem3 135 rfl rfl
theorem ml_RX7_75 : Cond.methodLink RX7 75 yX7_rightOf ∈ gtbl := zx_mem3 136 (by decide +kernel) (by decide +kernel)
theorem im_yX7_rightOf : Cond.instanceMethod yX7_rightOf ∈ gtbl := zx_mem3 138 (by decide +kernel) (by decide +kernel)
abbrev w_yX7_rightOf : Cond := Cond.code yX7_rightOf cX7_rightOf 4 (some .int)
set_option maxRecDepth 100000 in
theorem cd_yX7_rightOf : w_yX7_rightOf ∈ gtbl := zx_mem3 139 rfl rfl
theorem ml_RL_36 : Cond.methodLink RL 36 yX7_free ∈ gtbl := zx_mem3 140 (by decide +kernel) (by decide +kernel)
theorem im_yX7_free : Cond.instanceMethod yX7_free ∈ gtbl := zx_mem3 141 (by decide +kernel) (by decide +kernel)
theorem sl_yX7_free : Cond.selects RX7 yX7_free yX7_free ∈ gtbl := zx_mem3 142 (by decide +kernel) (by decide +kernel)
abbrev w_yX7_free : Cond := Cond.code yX7_free cX7_free 5 (some .int)
set_option maxRecDepth 100000 in
theorem cd_yX7_free : w_yX7_free ∈ gtbl := zx_mem3 143 rfl rfl
theorem ml_RL_40 : Cond.methodLink RL 40 yX7_rightful ∈ gtbl := zx_mem3 144 (by decide +kernel) (by decide +kernel)
theorem im_yX7_rightful : Cond.instanceMethod yX7_rightful ∈ gtbl := zx_mem3 145 (by decide +kernel) (by decide +kernel)
theorem sl_yX7_rightful : Cond.selects RX7 yX7_rightful yX7_rightful ∈ gtbl := zx_mem3 146 (by decide +kernel) (by decide +kernel)
abbrev w_yX7_rightful : Cond := Cond.code yX7_rightful cX7_rightful 3 (some .int)
set_option maxRecDepth 100000 in
theorem cd_yX7_rightful : w_yX7_rightful ∈ gtbl := zx_mem3 147 rfl rfl
theorem ml_RX7_79 : Cond.methodLink RX7 79 yX7_rightfulFor ∈ gtbl := zx_mem3 148 (by decide +kernel) (by decide +kernel)
theorem im_yX7_rightfulFor : Cond.instanceMethod yX7_rightfulFor ∈ gtbl := zx_mem3 150 (by decide +kernel) (by decide +kernel)
abbrev w_yX7_rightfulFor : Cond := Cond.code yX7_rightfulFor cX7_rightfulFor 6 (some .int)
set_option maxRecDepth 100000 in
theorem cd_yX7_rightfulFor : w_yX7_rightfulFor ∈ gtbl := zx_mem3 151 rfl rfl
theorem ml_RL_44 : Cond.methodLink RL 44 yX7_say ∈ gtbl := zx_mem3 152 (by decide +kernel) (by decide +kernel)
theorem im_yX7_say : Cond.instanceMethod yX7_say ∈ gtbl := zx_mem3 153 (by decide +kernel) (by decide +kernel)
theorem sl_yX7_say : Cond.selects RX7 yX7_say yX7_say ∈ gtbl := zx_mem3 154 (by decide +kernel) (by decide +kernel)
abbrev w_yX7_say : Cond := Cond.code yX7_say cX7_say 4 (some .int)
set_option maxRecDepth 100000 in
theorem cd_yX7_say : w_yX7_say ∈ gtbl := zx_mem3 155 rfl rfl
theorem ml_RX7_85 : Cond.methodLink RX7 85 yX7_says ∈ gtbl := zx_mem3 156 (by decide +kernel) (by decide +kernel)
theorem im_yX7_says : Cond.instanceMethod yX7_says ∈ gtbl := zx_mem3 158 (by decide +kernel) (by decide +kernel)
abbrev w_yX7_says : Cond := Cond.code yX7_says cX7_says 6 (some .boolean)
set_option maxRecDepth 100000 in
theorem cd_yX7_says : w_yX7_says ∈ gtbl := zx_mem3 159 rfl rfl
theorem ml_RX7_88 : Cond.methodLink RX7 88 yX7_addSaying ∈ gtbl := zx_mem3 160 (by decide +kernel) (by decide +kernel)
theorem im_yX7_addSaying : Cond.instanceMethod yX7_addSaying ∈ gtbl := zx_mem3 162 (by decide +kernel) (by decide +kernel)
abbrev w_yX7_addSaying : Cond := Cond.code yX7_addSaying cX7_addSaying 4 none
set_option maxRecDepth 100000 in
theorem cd_yX7_addSaying : w_yX7_addSaying ∈ gtbl := zx_mem3 163 rfl rfl
theorem ml_RL_49 : Cond.methodLink RL 49 yX7_unsay ∈ gtbl := zx_mem3 164 (by decide +kernel) (by decide +kernel)
theorem im_yX7_unsay : Cond.instanceMethod yX7_unsay ∈ gtbl := zx_mem3 165 (by decide +kernel) (by decide +kernel)
theorem sl_yX7_unsay : Cond.selects RX7 yX7_unsay yX7_unsay ∈ gtbl := zx_mem3 166 (by decide +kernel) (by decide +kernel)
abbrev w_yX7_unsay : Cond := Cond.code yX7_unsay cX7_unsay 3 (some .int)
set_option maxRecDepth 100000 in
theorem cd_yX7_unsay : w_yX7_unsay ∈ gtbl := zx_mem3 167 rfl rfl
theorem ml_RL_53 : Cond.methodLink RL 53 yX7_set ∈ gtbl := zx_mem3 168 (by decide +kernel) (by decide +kernel)
theorem im_yX7_set : Cond.instanceMethod yX7_set ∈ gtbl := zx_mem3 169 (by decide +kernel) (by decide +kernel)
theorem sl_yX7_set : Cond.selects RX7 yX7_set yX7_set ∈ gtbl := zx_mem3 170 (by decide +kernel) (by decide +kernel)
abbrev w_yX7_set : Cond := Cond.code yX7_set cX7_set 6 (some .int)
set_option maxRecDepth 100000 in
theorem cd_yX7_set : w_yX7_set ∈ gtbl := zx_mem3 171 rfl rfl
theorem ml_RL_57 : Cond.methodLink RL 57 yX7_rounds ∈ gtbl := zx_mem3 172 (by decide +kernel) (by decide +kernel)
theorem im_yX7_rounds : Cond.instanceMethod yX7_rounds ∈ gtbl := zx_mem3 173 (by decide +kernel) (by decide +kernel)
theorem sl_yX7_rounds : Cond.selects RX7 yX7_rounds yX7_rounds ∈ gtbl := zx_mem3 174 (by decide +kernel) (by decide +kernel)
abbrev w_yX7_rounds : Cond := Cond.code yX7_rounds cX7_rounds 4 (some .int)
set_option maxRecDepth 100000 in
theorem cd_yX7_rounds : w_yX7_rounds ∈ gtbl := zx_mem3 175 rfl rfl
theorem ml_RX7_129 : Cond.methodLink RX7 129 yX7_asked ∈ gtbl := zx_mem3 176 (by decide +kernel) (by decide +kernel)
theorem im_yX7_asked : Cond.instanceMethod yX7_asked ∈ gtbl := zx_mem3 178 (by decide +kernel) (by decide +kernel)
abbrev w_yX7_asked : Cond := Cond.code yX7_asked cX7_asked 3 (some .int)
set_option maxRecDepth 100000 in
theorem cd_yX7_asked : w_yX7_asked ∈ gtbl := zx_mem3 179 rfl rfl
theorem ml_RX7_123 : Cond.methodLink RX7 123 yX7_isSaid ∈ gtbl := zx_mem3 180 (by decide +kernel) (by decide +kernel)
theorem im_yX7_isSaid : Cond.instanceMethod yX7_isSaid ∈ gtbl := zx_mem3 182 (by decide +kernel) (by decide +kernel)
abbrev w_yX7_isSaid : Cond := Cond.code yX7_isSaid cX7_isSaid 5 (some .boolean)
set_option maxRecDepth 100000 in
theorem cd_yX7_isSaid : w_yX7_isSaid ∈ gtbl := zx_mem3 183 rfl rfl
theorem ml_RX7_126 : Cond.methodLink RX7 126 yX7_findWays ∈ gtbl := zx_mem3 184 (by decide +kernel) (by decide +kernel)
theorem im_yX7_findWays : Cond.instanceMethod yX7_findWays ∈ gtbl := zx_mem3 186 (by decide +kernel) (by decide +kernel)
abbrev w_yX7_findWays : Cond := Cond.code yX7_findWays cX7_findWays 5 none
set_option maxRecDepth 100000 in
theorem cd_yX7_findWays : w_yX7_findWays ∈ gtbl := zx_mem3 187 rfl rfl
theorem ml_RX7_116 : Cond.methodLink RX7 116 yX7_goRound ∈ gtbl := zx_mem3 188 (by decide +kernel) (by decide +kernel)
theorem im_yX7_goRound : Cond.instanceMethod yX7_goRound ∈ gtbl := zx_mem3 190 (by decide +kernel) (by decide +kernel)
abbrev w_yX7_goRound : Cond := Cond.code yX7_goRound cX7_goRound 10 (some .boolean)
set_option maxRecDepth 100000 in
theorem cd_yX7_goRound : w_yX7_goRound ∈ gtbl := zx_mem3 191 rfl rfl
theorem ml_RX7_109 : Cond.methodLink RX7 109 yX7_bestFor ∈ gtbl := zx_mem3 192 (by decide +kernel) (by decide +kernel)
theorem im_yX7_bestFor : Cond.instanceMethod yX7_bestFor ∈ gtbl := zx_mem3 194 (by decide +kernel) (by decide +kernel)
abbrev w_yX7_bestFor : Cond := Cond.code yX7_bestFor cX7_bestFor 8 (some .int)
set_option maxRecDepth 100000 in
theorem cd_yX7_bestFor : w_yX7_bestFor ∈ gtbl := zx_mem3 195 rfl rfl
theorem ml_RX7_105 : Cond.methodLink RX7 105 yX7_mayTake ∈ gtbl := zx_mem3 196 (by decide +kernel) (by decide +kernel)
theorem im_yX7_mayTake : Cond.instanceMethod yX7_mayTake ∈ gtbl := zx_mem3 198 (by decide +kernel) (by decide +kernel)
abbrev w_yX7_mayTake : Cond := Cond.code yX7_mayTake cX7_mayTake 7 (some .boolean)
set_option maxRecDepth 100000 in
theorem cd_yX7_mayTake : w_yX7_mayTake ∈ gtbl := zx_mem3 199 rfl rfl
theorem ml_RX7_98 : Cond.methodLink RX7 98 yX7_isOn ∈ gtbl := zx_mem3 200 (by decide +kernel) (by decide +kernel)
theorem im_yX7_isOn : Cond.instanceMethod yX7_isOn ∈ gtbl := zx_mem3 202 (by decide +kernel) (by decide +kernel)
abbrev w_yX7_isOn : Cond := Cond.code yX7_isOn cX7_isOn 5 (some .boolean)
set_option maxRecDepth 100000 in
theorem cd_yX7_isOn : w_yX7_isOn ∈ gtbl := zx_mem3 203 rfl rfl
theorem ml_RX7_101 : Cond.methodLink RX7 101 yX7_passes ∈ gtbl := zx_mem3 204 (by decide +kernel) (by decide +kernel)
theorem im_yX7_passes : Cond.instanceMethod yX7_passes ∈ gtbl := zx_mem3 206 (by decide +kernel) (by decide +kernel)
abbrev w_yX7_passes : Cond := Cond.code yX7_passes cX7_passes 5 (some .boolean)
set_option maxRecDepth 100000 in
theorem cd_yX7_passes : w_yX7_passes ∈ gtbl := zx_mem3 207 rfl rfl
theorem ml_RL_61 : Cond.methodLink RL 61 yX7_restless ∈ gtbl := zx_mem3 208 (by decide +kernel) (by decide +kernel)
theorem im_yX7_restless : Cond.instanceMethod yX7_restless ∈ gtbl := zx_mem3 209 (by decide +kernel) (by decide +kernel)
theorem sl_yX7_restless : Cond.selects RX7 yX7_restless yX7_restless ∈ gtbl := zx_mem3 210 (by decide +kernel) (by decide +kernel)
abbrev w_yX7_restless : Cond := Cond.code yX7_restless cX7_restless 4 (some .int)
set_option maxRecDepth 100000 in
theorem cd_yX7_restless : w_yX7_restless ∈ gtbl := zx_mem3 211 rfl rfl
theorem ml_RL_66 : Cond.methodLink RL 66 yX7_way ∈ gtbl := zx_mem3 212 (by decide +kernel) (by decide +kernel)
theorem im_yX7_way : Cond.instanceMethod yX7_way ∈ gtbl := zx_mem3 213 (by decide +kernel) (by decide +kernel)
theorem sl_yX7_way : Cond.selects RX7 yX7_way yX7_way ∈ gtbl := zx_mem3 214 (by decide +kernel) (by decide +kernel)
abbrev w_yX7_way : Cond := Cond.code yX7_way cX7_way 6 (some .int)
set_option maxRecDepth 100000 in
theorem cd_yX7_way : w_yX7_way ∈ gtbl := zx_mem3 215 rfl rfl
theorem ml_RL_70 : Cond.methodLink RL 70 yX7_broken ∈ gtbl := zx_mem3 216 (by decide +kernel) (by decide +kernel)
theorem im_yX7_broken : Cond.instanceMethod yX7_broken ∈ gtbl := zx_mem3 217 (by decide +kernel) (by decide +kernel)
theorem sl_yX7_broken : Cond.selects RX7 yX7_broken yX7_broken ∈ gtbl := zx_mem3 218 (by decide +kernel) (by decide +kernel)
abbrev w_yX7_broken : Cond := Cond.code yX7_broken cX7_broken 7 (some .int)
set_option maxRecDepth 100000 in
theorem cd_yX7_broken : w_yX7_broken ∈ gtbl := zx_mem3 219 rfl rfl
theorem ml_RL_74 : Cond.methodLink RL 74 yX7_goes ∈ gtbl := zx_mem3 220 (by decide +kernel) (by decide +kernel)
theorem im_yX7_goes : Cond.instanceMethod yX7_goes ∈ gtbl := zx_mem3 221 (by decide +kernel) (by decide +kernel)
theorem sl_yX7_goes : Cond.selects RX7 yX7_goes yX7_goes ∈ gtbl := zx_mem3 222 (by decide +kernel) (by decide +kernel)
abbrev w_yX7_goes : Cond := Cond.code yX7_goes cX7_goes 3 (some .int)
set_option maxRecDepth 100000 in
theorem cd_yX7_goes : w_yX7_goes ∈ gtbl := zx_mem3 223 rfl rfl
theorem ml_RX7_135 : Cond.methodLink RX7 135 yX7_findHops ∈ gtbl := zx_mem3 224 (by decide +kernel) (by decide +kernel)
theorem im_yX7_findHops : Cond.instanceMethod yX7_findHops ∈ gtbl := zx_mem3 226 (by decide +kernel) (by decide +kernel)
abbrev w_yX7_findHops : Cond := Cond.code yX7_findHops cX7_findHops 7 none
set_option maxRecDepth 100000 in
theorem cd_yX7_findHops : w_yX7_findHops ∈ gtbl := zx_mem3 227 rfl rfl
theorem ml_RX7_139 : Cond.methodLink RX7 139 yX7_endOf ∈ gtbl := zx_mem3 228 (by decide +kernel) (by decide +kernel)
theorem im_yX7_endOf : Cond.instanceMethod yX7_endOf ∈ gtbl := zx_mem3 230 (by decide +kernel) (by decide +kernel)
abbrev w_yX7_endOf : Cond := Cond.code yX7_endOf cX7_endOf 5 (some .int)
set_option maxRecDepth 100000 in
theorem cd_yX7_endOf : w_yX7_endOf ∈ gtbl := zx_mem3 231 rfl rfl
theorem ml_RX7_132 : Cond.methodLink RX7 132 yX7_nextOf ∈ gtbl := zx_mem3 232 (by decide +kernel) (by decide +kernel)
theorem im_yX7_nextOf : Cond.instanceMethod yX7_nextOf ∈ gtbl := zx_mem3 234 (by decide +kernel) (by decide +kernel)
abbrev w_yX7_nextOf : Cond := Cond.code yX7_nextOf cX7_nextOf 3 (some .int)
set_option maxRecDepth 100000 in
theorem cd_yX7_nextOf : w_yX7_nextOf ∈ gtbl := zx_mem3 235 rfl rfl
theorem ml_RL_78 : Cond.methodLink RL 78 yX7_misled ∈ gtbl := zx_mem3 236 (by decide +kernel) (by decide +kernel)
theorem im_yX7_misled : Cond.instanceMethod yX7_misled ∈ gtbl := zx_mem3 237 (by decide +kernel) (by decide +kernel)
theorem sl_yX7_misled : Cond.selects RX7 yX7_misled yX7_misled ∈ gtbl := zx_mem3 238 (by decide +kernel) (by decide +kernel)
abbrev w_yX7_misled : Cond := Cond.code yX7_misled cX7_misled 2 (some .int)
set_option maxRecDepth 100000 in
theorem cd_yX7_misled : w_yX7_misled ∈ gtbl := zx_mem3 239 rfl rfl
theorem ml_RX7_142 : Cond.methodLink RX7 142 yX7_misledBy ∈ gtbl := zx_mem4 0 (by decide +kernel) (by decide +kernel)
theorem im_yX7_misledBy : Cond.instanceMethod yX7_misledBy ∈ gtbl := zx_mem4 2 (by decide +kernel) (by decide +kernel)
abbrev w_yX7_misledBy : Cond := Cond.code yX7_misledBy cX7_misledBy 7 (some .int)
set_option maxRecDepth 100000 in
theorem cd_yX7_misledBy : w_yX7_misledBy ∈ gtbl := zx_mem4 3 rfl rfl
theorem ml_RL_82 : Cond.methodLink RL 82 yX7_saying ∈ gtbl := zx_mem4 4 (by decide +kernel) (by decide +kernel)
theorem im_yX7_saying : Cond.instanceMethod yX7_saying ∈ gtbl := zx_mem4 5 (by decide +kernel) (by decide +kernel)
theorem sl_yX7_saying : Cond.selects RX7 yX7_saying yX7_saying ∈ gtbl := zx_mem4 6 (by decide +kernel) (by decide +kernel)
abbrev w_yX7_saying : Cond := Cond.code yX7_saying cX7_saying 3 (some .int)
set_option maxRecDepth 100000 in
theorem cd_yX7_saying : w_yX7_saying ∈ gtbl := zx_mem4 7 rfl rfl
theorem ml_RX7_145 : Cond.methodLink RX7 145 yX7_isFalse ∈ gtbl := zx_mem4 8 (by decide +kernel) (by decide +kernel)
theorem im_yX7_isFalse : Cond.instanceMethod yX7_isFalse ∈ gtbl := zx_mem4 10 (by decide +kernel) (by decide +kernel)
abbrev w_yX7_isFalse : Cond := Cond.code yX7_isFalse cX7_isFalse 3 (some .boolean)
set_option maxRecDepth 100000 in
theorem cd_yX7_isFalse : w_yX7_isFalse ∈ gtbl := zx_mem4 11 rfl rfl
theorem ml_RX7_148 : Cond.methodLink RX7 148 yX7_seenBy ∈ gtbl := zx_mem4 12 (by decide +kernel) (by decide +kernel)
theorem im_yX7_seenBy : Cond.instanceMethod yX7_seenBy ∈ gtbl := zx_mem4 14 (by decide +kernel) (by decide +kernel)
abbrev w_yX7_seenBy : Cond := Cond.code yX7_seenBy cX7_seenBy 4 (some .int)
set_option maxRecDepth 100000 in
theorem cd_yX7_seenBy : w_yX7_seenBy ∈ gtbl := zx_mem4 15 rfl rfl
theorem ml_RL_86 : Cond.methodLink RL 86 yX7_watchers ∈ gtbl := zx_mem4 16 (by decide +kernel) (by decide +kernel)
theorem im_yX7_watchers : Cond.instanceMethod yX7_watchers ∈ gtbl := zx_mem4 17 (by decide +kernel) (by decide +kernel)
theorem sl_yX7_watchers : Cond.selects RX7 yX7_watchers yX7_watchers ∈ gtbl := zx_mem4 18 (by decide +kernel) (by decide +kernel)
abbrev w_yX7_watchers : Cond := Cond.code yX7_watchers cX7_watchers 5 (some .int)
set_option maxRecDepth 100000 in
theorem cd_yX7_watchers : w_yX7_watchers ∈ gtbl := zx_mem4 19 rfl rfl
theorem ml_RX7_151 : Cond.methodLink RX7 151 yX7_ones ∈ gtbl := zx_mem4 20 (by decide +kernel) (by decide +kernel)
theorem sm_yX7_ones : Cond.static yX7_ones ∈ gtbl := zx_mem4 21 (by decide +kernel) (by decide +kernel)
abbrev w_yX7_ones : Cond := Cond.code yX7_ones cX7_ones 3 (some .int)
set_option maxRecDepth 100000 in
theorem cd_yX7_ones : w_yX7_ones ∈ gtbl := zx_mem4 22 rfl rfl
theorem ml_RL_90 : Cond.methodLink RL 90 yX7_cure ∈ gtbl := zx_mem4 23 (by decide +kernel) (by decide +kernel)
theorem im_yX7_cure : Cond.instanceMethod yX7_cure ∈ gtbl := zx_mem4 24 (by decide +kernel) (by decide +kernel)
theorem sl_yX7_cure : Cond.selects RX7 yX7_cure yX7_cure ∈ gtbl := zx_mem4 25 (by decide +kernel) (by decide +kernel)
abbrev w_yX7_cure : Cond := Cond.code yX7_cure cX7_cure 5 (some .int)
set_option maxRecDepth 100000 in
theorem cd_yX7_cure : w_yX7_cure ∈ gtbl := zx_mem4 26 rfl rfl
theorem ml_RL_94 : Cond.methodLink RL 94 yX7_halves ∈ gtbl := zx_mem4 27 (by decide +kernel) (by decide +kernel)
theorem im_yX7_halves : Cond.instanceMethod yX7_halves ∈ gtbl := zx_mem4 28 (by decide +kernel) (by decide +kernel)
theorem sl_yX7_halves : Cond.selects RX7 yX7_halves yX7_halves ∈ gtbl := zx_mem4 29 (by decide +kernel) (by decide +kernel)
abbrev w_yX7_halves : Cond := Cond.code yX7_halves cX7_halves 6 (some .int)
set_option maxRecDepth 100000 in
theorem cd_yX7_halves : w_yX7_halves ∈ gtbl := zx_mem4 30 rfl rfl
theorem ml_RL_98 : Cond.methodLink RL 98 yX7_count ∈ gtbl := zx_mem4 31 (by decide +kernel) (by decide +kernel)
theorem im_yX7_count : Cond.instanceMethod yX7_count ∈ gtbl := zx_mem4 32 (by decide +kernel) (by decide +kernel)
theorem sl_yX7_count : Cond.selects RX7 yX7_count yX7_count ∈ gtbl := zx_mem4 33 (by decide +kernel) (by decide +kernel)
abbrev w_yX7_count : Cond := Cond.code yX7_count cX7_count 4 (some .int)
set_option maxRecDepth 100000 in
theorem cd_yX7_count : w_yX7_count ∈ gtbl := zx_mem4 34 rfl rfl
theorem sl_yX1_providersOf : Cond.selects RX1 yX1_providersOf yX1_providersOf ∈ gtbl := zx_mem 0 (by decide +kernel) (by decide +kernel)
theorem sl_yX1_put : Cond.selects RX1 yX1_put yX1_put ∈ gtbl := zx_mem 1 (by decide +kernel) (by decide +kernel)
theorem sl_yX6_refusal : Cond.selects RX6 yX6_refusal yX6_refusal ∈ gtbl := zx_mem 2 (by decide +kernel) (by decide +kernel)
theorem sl_yX4_goRound : Cond.selects RX4 yX4_goRound yX4_goRound ∈ gtbl := zx_mem 3 (by decide +kernel) (by decide +kernel)
theorem sl_yX4_openHouses : Cond.selects RX4 yX4_openHouses yX4_openHouses ∈ gtbl := zx_mem 4 (by decide +kernel) (by decide +kernel)
theorem sl_yX4_bestFor : Cond.selects RX4 yX4_bestFor yX4_bestFor ∈ gtbl := zx_mem 5 (by decide +kernel) (by decide +kernel)
theorem sl_yX0_fillHops : Cond.selects RX0 yX0_fillHops yX0_fillHops ∈ gtbl := zx_mem 6 (by decide +kernel) (by decide +kernel)
theorem sl_yX6_isFalse : Cond.selects RX6 yX6_isFalse yX6_isFalse ∈ gtbl := zx_mem 7 (by decide +kernel) (by decide +kernel)
theorem sl_yX6_seersOf : Cond.selects RX6 yX6_seersOf yX6_seersOf ∈ gtbl := zx_mem 8 (by decide +kernel) (by decide +kernel)
theorem sl_yX6_noteSeersOfFalse : Cond.selects RX6 yX6_noteSeersOfFalse yX6_noteSeersOfFalse ∈ gtbl := zx_mem 9 (by decide +kernel) (by decide +kernel)
theorem sl_yX6_meetsAll : Cond.selects RX6 yX6_meetsAll yX6_meetsAll ∈ gtbl := zx_mem 10 (by decide +kernel) (by decide +kernel)
theorem sl_yX6_nextSet : Cond.selects RX6 yX6_nextSet yX6_nextSet ∈ gtbl := zx_mem 11 (by decide +kernel) (by decide +kernel)
theorem sl_yX6_falseSayings : Cond.selects RX6 yX6_falseSayings yX6_falseSayings ∈ gtbl := zx_mem 12 (by decide +kernel) (by decide +kernel)
theorem sl_yX7_isHouse : Cond.selects RX7 yX7_isHouse yX7_isHouse ∈ gtbl := zx_mem 13 (by decide +kernel) (by decide +kernel)
theorem sl_yX7_above : Cond.selects RX7 yX7_above yX7_above ∈ gtbl := zx_mem 14 (by decide +kernel) (by decide +kernel)
theorem sl_yX7_rightOf : Cond.selects RX7 yX7_rightOf yX7_rightOf ∈ gtbl := zx_mem 15 (by decide +kernel) (by decide +kernel)
theorem sl_yX7_rightfulFor : Cond.selects RX7 yX7_rightfulFor yX7_rightfulFor ∈ gtbl := zx_mem 16 (by decide +kernel) (by decide +kernel)
theorem sl_yX7_says : Cond.selects RX7 yX7_says yX7_says ∈ gtbl := zx_mem 17 (by decide +kernel) (by decide +kernel)
theorem sl_yX7_addSaying : Cond.selects RX7 yX7_addSaying yX7_addSaying ∈ gtbl := zx_mem 18 (by decide +kernel) (by decide +kernel)
theorem sl_yX7_asked : Cond.selects RX7 yX7_asked yX7_asked ∈ gtbl := zx_mem 19 (by decide +kernel) (by decide +kernel)
theorem sl_yX7_isSaid : Cond.selects RX7 yX7_isSaid yX7_isSaid ∈ gtbl := zx_mem 20 (by decide +kernel) (by decide +kernel)
theorem sl_yX7_findWays : Cond.selects RX7 yX7_findWays yX7_findWays ∈ gtbl := zx_mem 21 (by decide +kernel) (by decide +kernel)
theorem sl_yX7_goRound : Cond.selects RX7 yX7_goRound yX7_goRound ∈ gtbl := zx_mem 22 (by decide +kernel) (by decide +kernel)
theorem sl_yX7_bestFor : Cond.selects RX7 yX7_bestFor yX7_bestFor ∈ gtbl := zx_mem 23 (by decide +kernel) (by decide +kernel)
theorem sl_yX7_mayTake : Cond.selects RX7 yX7_mayTake yX7_mayTake ∈ gtbl := zx_mem 24 (by decide +kernel) (by decide +kernel)
theorem sl_yX7_isOn : Cond.selects RX7 yX7_isOn yX7_isOn ∈ gtbl := zx_mem 25 (by decide +kernel) (by decide +kernel)
theorem sl_yX7_passes : Cond.selects RX7 yX7_passes yX7_passes ∈ gtbl := zx_mem 26 (by decide +kernel) (by decide +kernel)
theorem sl_yX7_findHops : Cond.selects RX7 yX7_findHops yX7_findHops ∈ gtbl := zx_mem 27 (by decide +kernel) (by decide +kernel)
theorem sl_yX7_endOf : Cond.selects RX7 yX7_endOf yX7_endOf ∈ gtbl := zx_mem 28 (by decide +kernel) (by decide +kernel)
theorem sl_yX7_nextOf : Cond.selects RX7 yX7_nextOf yX7_nextOf ∈ gtbl := zx_mem 29 (by decide +kernel) (by decide +kernel)
theorem sl_yX7_misledBy : Cond.selects RX7 yX7_misledBy yX7_misledBy ∈ gtbl := zx_mem 30 (by decide +kernel) (by decide +kernel)
theorem sl_yX7_isFalse : Cond.selects RX7 yX7_isFalse yX7_isFalse ∈ gtbl := zx_mem 31 (by decide +kernel) (by decide +kernel)
theorem sl_yX7_seenBy : Cond.selects RX7 yX7_seenBy yX7_seenBy ∈ gtbl := zx_mem 32 (by decide +kernel) (by decide +kernel)
theorem iRX0 : ∀ w ∈ u_ws RX0 TX0 5, w ∈ gtbl := by decide +kernel
theorem iRX1 : ∀ w ∈ u_ws RX1 TX1 5, w ∈ gtbl := by decide +kernel
theorem iRX2 : ∀ w ∈ u_ws RX2 TX2 2, w ∈ gtbl := by decide +kernel
theorem iRX3 : ∀ w ∈ u_ws RX3 TX3 4, w ∈ gtbl := by decide +kernel
theorem iRX4 : ∀ w ∈ u_ws RX4 TX4 6, w ∈ gtbl := by decide +kernel
theorem iRX5 : ∀ w ∈ u_ws RX5 TX5 4, w ∈ gtbl := by decide +kernel
theorem iRX6 : ∀ w ∈ u_ws RX6 TX6 6, w ∈ gtbl := by decide +kernel
theorem iRX7 : ∀ w ∈ u_ws RX7 TX7 20, w ∈ gtbl := by decide +kernel
def nqs : List (String × Nat × MethodName × String) := [(RX6, 11, yX1_init, "RouteWatch"), (RX6, 25, yX3_init, "RouteWatch"), (RX4, 11, yX5_init, "RouteWatch"), (RX1, 37, yX6_bit, "RouteWatch"), (RX1, 44, yX6_hasBit, "RouteWatch"), (RX2, 19, yX6_isBlock, "RouteWatch"), (RX3, 29, yX6_isBlock, "RouteWatch"), (RX3, 35, yX6_bit, "RouteWatch"), (RX5, 25, yX6_hasBit, "RouteWatch"), (RX5, 29, yX6_bit, "RouteWatch"), (RX4, 91, yX6_bit, "RouteWatch"), (RX4, 69, yX6_hasBit, "RouteWatch"), (RX0, 77, yX6_bit, "RouteWatch")]
end
section
/-! The judgement zV: from any heap that holds the listed cells ws, with the listed locals, at pc with the stack, the machine comes to Q. -/
def zx_N (U : State) : Prop := ∀ q ∈ nqs, va_Nw (.methodLinkNest q.1 q.2.1 q.2.2.1 q.2.2.2) U
theorem zx_N.warm {s U : State} (hW : s.WarmedH U.vm) (h : zx_N s) : zx_N U := fun q hq => va_Nw.warmM hW (h q hq)
theorem zx_N.call {U : State} {g : JFrame} {mk : MethodId} {a : Array Value} (h : zx_N U) : zx_N (U.calling g mk a) := fun q hq => va_Nw.same rfl rfl (h q hq)
def zx_C (p : Program) (s : State) (m : MethodId) (args : Array Value) (c : Code) (D : va_G) (tys : List (ClassId × FieldType)) (own : String) (cc : ByteArray) (nL : Nat) : Prop :=
  p.tables.exec = Jvm.exec ∧ c.code = cc ∧ c.maxLocals = nL ∧ s.vm.findClass own = some m.cls ∧ (∀ w ∈ gtbl, w.before args s = true) ∧ va_K D clz tys s ∧ zx_N s
def zV (p : Program) (l : Launch) (e : Env) (R : Room) (s : State) (m : MethodId) (args : Array Value) (below : List Frame) (meth : Method) (c : Code) (cells slots : Nat) (Q : State → Prop) (D : va_G) (A : Nat → Prop) (nL : Nat) (ws : va_W) (pc : Nat) (lv : List (Nat × Value)) (st : List Value) : Prop :=
  ∀ (H : Heap) (locs : List Loc) (ls : Array Slot), va_P D clz ws H → va_D A ws → va_S A s.heap H locs → lv_has ls nL lv → W p l e R s m args below meth c H locs cells slots Q (F0 m pc ls st)
/-- how a method ends: with the answer ov, the world ws', nothing else changed -/
def zQ (D : va_G) (A : Nat → Prop) (ov : Option Value) (ws' : va_W) : Array Value → State → Outcome → State → Prop := fun _ st oc t => oc = .returned ov ∧ (va_P D clz ws' t.heap ∧ va_D A ws') ∧ va_F A st t
/-- a method's contract -/
def zM (l : Launch) (y : MethodName) (cw : Cond) (rm : Room) (D : va_G) (A : Nat → Prop) (tys : List (ClassId × FieldType)) (av : List Value) (ws : va_W) (ov : Option Value) (ws' : va_W) : Prop :=
  Met l y (cw :: gtbl) rm (va_Pc av (fun U => va_P D clz ws U.heap ∧ va_D A ws ∧ va_K D clz tys U ∧ zx_N U)) (zQ D A ov ws') 0 0 A
def inb (i : Int32) (n : Nat) : Bool := decide (¬ i < 0) && decide (i.toNatClampNeg < n)
theorem inb_in {i : Int32} {n : Nat} (h : inb i n = true) : vp_in i n := by
  unfold inb at h
  rw [Bool.and_eq_true, decide_eq_true_eq, decide_eq_true_eq] at h
  exact fun q => q.elim h.1 (fun z => absurd h.2 (Nat.not_lt.mpr z))
def isB (v : Int32) : Bool := decide (v = 0) || decide (v = 1)
theorem isB_n {v : Int32} (h : isB v = true) : narrow .boolean (.int v) = .int v ∧ fits .boolean (.int v) = true := by
  unfold isB at h
  rw [Bool.or_eq_true, decide_eq_true_eq, decide_eq_true_eq] at h
  rcases h with rfl | rfl <;> exact ⟨by decide, by decide⟩
/-- a check: none where it fails -/
def ck {α : Type} (b : Bool) (o : Option α) : Option α := if b = true then o else none
theorem ck_spec {α : Type} {b : Bool} {o : Option α} {r : α} (h : ck b o = some r) : b = true ∧ o = some r := by
  unfold ck at h
  by_cases hb : b = true
  · rw [if_pos hb] at h; exact ⟨hb, h⟩
  · rw [if_neg hb] at h; cases h
def ld {α β : Type} (f : Nat → β) (n : Nat) (i : Int32) (k : β → Option α) : Option α := if inb i n = true then k (f i.toNatClampNeg) else none
theorem ld_spec {α β : Type} {f : Nat → β} {n : Nat} {i : Int32} {k : β → Option α} {r : α} (h : ld f n i k = some r) : inb i n = true ∧ k (f i.toNatClampNeg) = some r := by
  unfold ld at h
  by_cases hb : inb i n = true
  · rw [if_pos hb] at h; exact ⟨hb, h⟩
  · rw [if_neg hb] at h; cases h
theorem bd_spec {α β : Type} {o : Option β} {k : β → Option α} {r : α} (h : Option.bind o k = some r) : ∃ q, o = some q ∧ k q = some r := by
  cases o with
  | none => cases h
  | some q => exact ⟨q, rfl, h⟩
/-- a loop: its body gives the next state, or what comes behind it -/
def lp {τ ρ : Type} (n : Nat) (body : τ → Option (τ ⊕ ρ)) (t : τ) : Option ρ := match n with
  | 0 => none
  | n + 1 => match body t with
    | none => none
    | some (.inl t') => lp n body t'
    | some (.inr r) => some r
def lk {τ ρ : Type} (n : Nat) (body : τ → Option (τ ⊕ ρ)) (u : τ ⊕ ρ) : Option ρ := match u with
  | .inl t' => lp n body t'
  | .inr r => some r
theorem lp_zero {τ ρ : Type} {body : τ → Option (τ ⊕ ρ)} {t : τ} {r : ρ} (h : lp 0 body t = some r) : False := by
  unfold lp at h
  cases h
theorem lp_succ {τ ρ : Type} {n : Nat} {body : τ → Option (τ ⊕ ρ)} {t : τ} {r : ρ} (h : lp (n + 1) body t = some r) : ∃ u, body t = some u ∧ lk n body u = some r := by
  unfold lp at h
  cases hb : body t with
  | none => rw [hb] at h; cases h
  | some u =>
    rw [hb] at h
    cases u with
    | inl t' => exact ⟨_, rfl, h⟩
    | inr r' => exact ⟨_, rfl, h⟩
/-- an end inside a loop's body, told outside of it -/
def wi {τ ρ : Type} (o : Option ρ) : Option (τ ⊕ ρ) := match o with
  | none => none
  | some z => some (.inr z)
theorem unwi {τ ρ : Type} {n : Nat} {body : τ → Option (τ ⊕ ρ)} {o : Option ρ} {u : τ ⊕ ρ} {r : ρ} (h : wi o = some u) (hk : lk n body u = some r) : o = some r := by
  cases o with
  | none => cases h
  | some z => cases h; exact hk
theorem uninl {τ ρ : Type} {n : Nat} {body : τ → Option (τ ⊕ ρ)} {t : τ} {u : τ ⊕ ρ} {r : ρ} (h : some (Sum.inl t) = some u) (hk : lk n body u = some r) : lp n body t = some r := by
  cases h; exact hk
/-- the states: numbers, rows of ints, rows of longs -/
abbrev ZS : Type := (Nat → Int32) × (Nat → Nat → Int32) × (Nat → Nat → Int64)
def setI (σ : ZS) (k : Nat) (v : Int32) : ZS := (upd σ.1 k v, σ.2.1, σ.2.2)
def setR (σ : ZS) (k : Nat) (f : Nat → Int32) : ZS := (σ.1, fun j => if j = k then f else σ.2.1 j, σ.2.2)
def setJ (σ : ZS) (k : Nat) (f : Nat → Int64) : ZS := (σ.1, σ.2.1, fun j => if j = k then f else σ.2.2 j)
def setA (σ : ZS) (k i : Nat) (v : Int32) : ZS := setR σ k (upd (σ.2.1 k) i v)
def setL (σ : ZS) (k i : Nat) (v : Int64) : ZS := setJ σ k (vp_updL (σ.2.2 k) i v)
section ZV
variable {p : Program} {l : Launch} {e : Env} {R : Room} {s : State} {m : MethodId} {args : Array Value} {below : List Frame} {meth : Method} {c : Code} {cells slots : Nat} {Q : State → Prop} {D : va_G} {A : Nat → Prop} {tys : List (ClassId × FieldType)} {own : String} {cc : ByteArray} {nL : Nat}
variable {ws ws' : va_W} {pc : Nat} {lv lv' : List (Nat × Value)} {st : List Value}

theorem z_iconst (C : zx_C p s m args c D tys own cc nL) {n : Int} {v : Int32} (d : decode cc pc = .ok (.iconst n, 1)) (hv : Int32.ofInt n = v) (k : zV p l e R s m args below meth c cells slots Q D A nL ws (pc + 1) lv (.int v :: st)) : zV p l e R s m args below meth c cells slots Q D A nL ws pc lv st := fun H locs ls hP hD hS hl => lv_iconst C.1 C.2.1 d hv (k H locs ls hP hD hS hl)
theorem z_bipush (C : zx_C p s m args c D tys own cc nL) {n : Int} {v : Int32} (d : decode cc pc = .ok (.bipush n, 2)) (hv : (Int8.ofInt n).toInt32 = v) (k : zV p l e R s m args below meth c cells slots Q D A nL ws (pc + 2) lv (.int v :: st)) : zV p l e R s m args below meth c cells slots Q D A nL ws pc lv st := fun H locs ls hP hD hS hl => lv_bipush C.1 C.2.1 d hv (k H locs ls hP hD hS hl)
theorem z_sipush (C : zx_C p s m args c D tys own cc nL) {n : Int} {v : Int32} (d : decode cc pc = .ok (.sipush n, 3)) (hv : (Int16.ofInt n).toInt32 = v) (k : zV p l e R s m args below meth c cells slots Q D A nL ws (pc + 3) lv (.int v :: st)) : zV p l e R s m args below meth c cells slots Q D A nL ws pc lv st := fun H locs ls hP hD hS hl => lv_sipush C.1 C.2.1 d hv (k H locs ls hP hD hS hl)
theorem z_lconst (C : zx_C p s m args c D tys own cc nL) {n : Fin 2} {v : Int64} (d : decode cc pc = .ok (.lconst n, 1)) (hv : Int64.ofNat (n : Nat) = v) (k : zV p l e R s m args below meth c cells slots Q D A nL ws (pc + 1) lv (.long v :: st)) : zV p l e R s m args below meth c cells slots Q D A nL ws pc lv st := fun H locs ls hP hD hS hl => lv_lconst C.1 C.2.1 d hv (k H locs ls hP hD hS hl)
theorem z_ldcw (C : zx_C p s m args c D tys own cc nL) {index : Nat} {v : Int32} (hc : Cond.constant own index v ∈ gtbl) (d : decode cc pc = .ok (.ldc_w index, 3)) (k : zV p l e R s m args below meth c cells slots Q D A nL ws (pc + 3) lv (.int v :: st)) : zV p l e R s m args below meth c cells slots Q D A nL ws pc lv st := fun H locs ls hP hD hS hl => lv_ldcw C.1 C.2.1 C.2.2.2.1 (C.2.2.2.2.1 _ hc) d (k H locs ls hP hD hS hl)
theorem z_iload_n (C : zx_C p s m args c D tys own cc nL) {q : Fin 4} (j : Nat) {x : Int32} (hj : lv[j]? = some ((q : Nat), .int x)) (d : decode cc pc = .ok (.iload_n q, 1)) (k : zV p l e R s m args below meth c cells slots Q D A nL ws (pc + 1) lv (.int x :: st)) : zV p l e R s m args below meth c cells slots Q D A nL ws pc lv st := fun H locs ls hP hD hS hl => lv_iload_n C.1 C.2.1 d rfl (lv_at hl j hj) (k H locs ls hP hD hS hl)
theorem z_iload (C : zx_C p s m args c D tys own cc nL) {q : Nat} (j : Nat) {x : Int32} (hj : lv[j]? = some (q, .int x)) (d : decode cc pc = .ok (.iload q, 2)) (k : zV p l e R s m args below meth c cells slots Q D A nL ws (pc + 2) lv (.int x :: st)) : zV p l e R s m args below meth c cells slots Q D A nL ws pc lv st := fun H locs ls hP hD hS hl => lv_iload C.1 C.2.1 d (lv_at hl j hj) (k H locs ls hP hD hS hl)
theorem z_lload_n (C : zx_C p s m args c D tys own cc nL) {q : Fin 4} (j : Nat) {x : Int64} (hj : lv[j]? = some ((q : Nat), .long x)) (d : decode cc pc = .ok (.lload_n q, 1)) (k : zV p l e R s m args below meth c cells slots Q D A nL ws (pc + 1) lv (.long x :: st)) : zV p l e R s m args below meth c cells slots Q D A nL ws pc lv st := fun H locs ls hP hD hS hl => lv_lload_n C.1 C.2.1 d rfl (lv_at hl j hj) (k H locs ls hP hD hS hl)
theorem z_lload (C : zx_C p s m args c D tys own cc nL) {q : Nat} (j : Nat) {x : Int64} (hj : lv[j]? = some (q, .long x)) (d : decode cc pc = .ok (.lload q, 2)) (k : zV p l e R s m args below meth c cells slots Q D A nL ws (pc + 2) lv (.long x :: st)) : zV p l e R s m args below meth c cells slots Q D A nL ws pc lv st := fun H locs ls hP hD hS hl => lv_lload C.1 C.2.1 d (lv_at hl j hj) (k H locs ls hP hD hS hl)
theorem z_aload_n (C : zx_C p s m args c D tys own cc nL) {q : Fin 4} (j : Nat) {x : Nat} (hj : lv[j]? = some ((q : Nat), .ref x)) (d : decode cc pc = .ok (.aload_n q, 1)) (k : zV p l e R s m args below meth c cells slots Q D A nL ws (pc + 1) lv (.ref x :: st)) : zV p l e R s m args below meth c cells slots Q D A nL ws pc lv st := fun H locs ls hP hD hS hl => lv_aload_n C.1 C.2.1 d rfl (lv_at hl j hj) (k H locs ls hP hD hS hl)
theorem z_aload (C : zx_C p s m args c D tys own cc nL) {q : Nat} (j : Nat) {x : Nat} (hj : lv[j]? = some (q, .ref x)) (d : decode cc pc = .ok (.aload q, 2)) (k : zV p l e R s m args below meth c cells slots Q D A nL ws (pc + 2) lv (.ref x :: st)) : zV p l e R s m args below meth c cells slots Q D A nL ws pc lv st := fun H locs ls hP hD hS hl => lv_aload C.1 C.2.1 d (lv_at hl j hj) (k H locs ls hP hD hS hl)
theorem z_istore_n (C : zx_C p s m args c D tys own cc nL) {q : Fin 4} {i : Nat} {x : Int32} (lv' : List (Nat × Value)) (hi : (q : Nat) = i) (hn : i < nL) (hl' : (i, Value.int x) :: lv.filter (fun q => !(q.1 == i) && !(q.1 + 1 == i && q.2.category == 2)) = lv') (d : decode cc pc = .ok (.istore_n q, 1)) (k : zV p l e R s m args below meth c cells slots Q D A nL ws (pc + 1) lv' st) : zV p l e R s m args below meth c cells slots Q D A nL ws pc lv (Value.int x :: st) := fun H locs ls hP hD hS hl => lv_istore_n C.1 C.2.1 d hi hl hn hl' (fun ls hl => k H locs ls hP hD hS hl)
theorem z_istore (C : zx_C p s m args c D tys own cc nL) {i : Nat} {x : Int32} (lv' : List (Nat × Value)) (hn : i < nL) (hl' : (i, Value.int x) :: lv.filter (fun q => !(q.1 == i) && !(q.1 + 1 == i && q.2.category == 2)) = lv') (d : decode cc pc = .ok (.istore i, 2)) (k : zV p l e R s m args below meth c cells slots Q D A nL ws (pc + 2) lv' st) : zV p l e R s m args below meth c cells slots Q D A nL ws pc lv (Value.int x :: st) := fun H locs ls hP hD hS hl => lv_istore C.1 C.2.1 d hl hn hl' (fun ls hl => k H locs ls hP hD hS hl)
theorem z_lstore_n (C : zx_C p s m args c D tys own cc nL) {q : Fin 4} {i : Nat} {x : Int64} (lv' : List (Nat × Value)) (hi : (q : Nat) = i) (hn : i + 1 < nL) (hl' : (i, Value.long x) :: lv.filter (fun q => !(q.1 == i) && (!(q.1 == i + 1) && !(q.1 + 1 == i && q.2.category == 2))) = lv') (d : decode cc pc = .ok (.lstore_n q, 1)) (k : zV p l e R s m args below meth c cells slots Q D A nL ws (pc + 1) lv' st) : zV p l e R s m args below meth c cells slots Q D A nL ws pc lv (Value.long x :: st) := fun H locs ls hP hD hS hl => lv_lstore_n C.1 C.2.1 d hi hl hn hl' (fun ls hl => k H locs ls hP hD hS hl)
theorem z_lstore (C : zx_C p s m args c D tys own cc nL) {i : Nat} {x : Int64} (lv' : List (Nat × Value)) (hn : i + 1 < nL) (hl' : (i, Value.long x) :: lv.filter (fun q => !(q.1 == i) && (!(q.1 == i + 1) && !(q.1 + 1 == i && q.2.category == 2))) = lv') (d : decode cc pc = .ok (.lstore i, 2)) (k : zV p l e R s m args below meth c cells slots Q D A nL ws (pc + 2) lv' st) : zV p l e R s m args below meth c cells slots Q D A nL ws pc lv (Value.long x :: st) := fun H locs ls hP hD hS hl => lv_lstore C.1 C.2.1 d hl hn hl' (fun ls hl => k H locs ls hP hD hS hl)
theorem z_astore_n (C : zx_C p s m args c D tys own cc nL) {q : Fin 4} {i : Nat} {x : Nat} (lv' : List (Nat × Value)) (hi : (q : Nat) = i) (hn : i < nL) (hl' : (i, Value.ref x) :: lv.filter (fun q => !(q.1 == i) && !(q.1 + 1 == i && q.2.category == 2)) = lv') (d : decode cc pc = .ok (.astore_n q, 1)) (k : zV p l e R s m args below meth c cells slots Q D A nL ws (pc + 1) lv' st) : zV p l e R s m args below meth c cells slots Q D A nL ws pc lv (Value.ref x :: st) := fun H locs ls hP hD hS hl => lv_astore_n C.1 C.2.1 d hi hl hn hl' (fun ls hl => k H locs ls hP hD hS hl)
theorem z_astore (C : zx_C p s m args c D tys own cc nL) {i : Nat} {x : Nat} (lv' : List (Nat × Value)) (hn : i < nL) (hl' : (i, Value.ref x) :: lv.filter (fun q => !(q.1 == i) && !(q.1 + 1 == i && q.2.category == 2)) = lv') (d : decode cc pc = .ok (.astore i, 2)) (k : zV p l e R s m args below meth c cells slots Q D A nL ws (pc + 2) lv' st) : zV p l e R s m args below meth c cells slots Q D A nL ws pc lv (Value.ref x :: st) := fun H locs ls hP hD hS hl => lv_astore C.1 C.2.1 d hl hn hl' (fun ls hl => k H locs ls hP hD hS hl)
theorem z_iinc (C : zx_C p s m args c D tys own cc nL) {i : Nat} {n : Int} {x v : Int32} (lv' : List (Nat × Value)) (j : Nat) (hj : lv[j]? = some (i, .int x)) (hv : x + Int32.ofInt n = v) (hn : i < nL) (hl' : (i, Value.int v) :: lv.filter (fun q => !(q.1 == i) && !(q.1 + 1 == i && q.2.category == 2)) = lv') (d : decode cc pc = .ok (.iinc i n, 3)) (k : zV p l e R s m args below meth c cells slots Q D A nL ws (pc + 3) lv' st) : zV p l e R s m args below meth c cells slots Q D A nL ws pc lv st := fun H locs ls hP hD hS hl => lv_iinc C.1 C.2.1 d hl hj hv hn hl' (fun ls hl => k H locs ls hP hD hS hl)
theorem z_sub (C : zx_C p s m args c D tys own cc nL) (ks : List Nat) (hl' : lv_pick lv ks = lv') (k : zV p l e R s m args below meth c cells slots Q D A nL ws pc lv' st) : zV p l e R s m args below meth c cells slots Q D A nL ws pc lv st := fun H locs ls hP hD hS hl => k H locs ls hP hD hS (lv_sub hl ks hl')
theorem z_iadd (C : zx_C p s m args c D tys own cc nL) {x y : Int32} (d : decode cc pc = .ok (.iadd, 1)) (k : zV p l e R s m args below meth c cells slots Q D A nL ws (pc + 1) lv (.int (x + y) :: st)) : zV p l e R s m args below meth c cells slots Q D A nL ws pc lv (.int y :: .int x :: st) := fun H locs ls hP hD hS hl => lv_iadd C.1 C.2.1 d (k H locs ls hP hD hS hl)
theorem z_isub (C : zx_C p s m args c D tys own cc nL) {x y : Int32} (d : decode cc pc = .ok (.isub, 1)) (k : zV p l e R s m args below meth c cells slots Q D A nL ws (pc + 1) lv (.int (x - y) :: st)) : zV p l e R s m args below meth c cells slots Q D A nL ws pc lv (.int y :: .int x :: st) := fun H locs ls hP hD hS hl => lv_isub C.1 C.2.1 d (k H locs ls hP hD hS hl)
theorem z_imul (C : zx_C p s m args c D tys own cc nL) {x y : Int32} (d : decode cc pc = .ok (.imul, 1)) (k : zV p l e R s m args below meth c cells slots Q D A nL ws (pc + 1) lv (.int (x * y) :: st)) : zV p l e R s m args below meth c cells slots Q D A nL ws pc lv (.int y :: .int x :: st) := fun H locs ls hP hD hS hl => lv_imul C.1 C.2.1 d (k H locs ls hP hD hS hl)
theorem z_iand (C : zx_C p s m args c D tys own cc nL) {x y : Int32} (d : decode cc pc = .ok (.iand, 1)) (k : zV p l e R s m args below meth c cells slots Q D A nL ws (pc + 1) lv (.int (x &&& y) :: st)) : zV p l e R s m args below meth c cells slots Q D A nL ws pc lv (.int y :: .int x :: st) := fun H locs ls hP hD hS hl => lv_iand C.1 C.2.1 d (k H locs ls hP hD hS hl)
theorem z_ior (C : zx_C p s m args c D tys own cc nL) {x y : Int32} (d : decode cc pc = .ok (.ior, 1)) (k : zV p l e R s m args below meth c cells slots Q D A nL ws (pc + 1) lv (.int (x ||| y) :: st)) : zV p l e R s m args below meth c cells slots Q D A nL ws pc lv (.int y :: .int x :: st) := fun H locs ls hP hD hS hl => lv_ior C.1 C.2.1 d (k H locs ls hP hD hS hl)
theorem z_ixor (C : zx_C p s m args c D tys own cc nL) {x y : Int32} (d : decode cc pc = .ok (.ixor, 1)) (k : zV p l e R s m args below meth c cells slots Q D A nL ws (pc + 1) lv (.int (x ^^^ y) :: st)) : zV p l e R s m args below meth c cells slots Q D A nL ws pc lv (.int y :: .int x :: st) := fun H locs ls hP hD hS hl => lv_ixor C.1 C.2.1 d (k H locs ls hP hD hS hl)
theorem z_ishl (C : zx_C p s m args c D tys own cc nL) {x y : Int32} (d : decode cc pc = .ok (.ishl, 1)) (k : zV p l e R s m args below meth c cells slots Q D A nL ws (pc + 1) lv (.int (x <<< (y &&& 31)) :: st)) : zV p l e R s m args below meth c cells slots Q D A nL ws pc lv (.int y :: .int x :: st) := fun H locs ls hP hD hS hl => lv_ishl C.1 C.2.1 d (k H locs ls hP hD hS hl)
theorem z_ishr (C : zx_C p s m args c D tys own cc nL) {x y : Int32} (d : decode cc pc = .ok (.ishr, 1)) (k : zV p l e R s m args below meth c cells slots Q D A nL ws (pc + 1) lv (.int (x >>> (y &&& 31)) :: st)) : zV p l e R s m args below meth c cells slots Q D A nL ws pc lv (.int y :: .int x :: st) := fun H locs ls hP hD hS hl => lv_ishr C.1 C.2.1 d (k H locs ls hP hD hS hl)
theorem z_iushr (C : zx_C p s m args c D tys own cc nL) {x y : Int32} (d : decode cc pc = .ok (.iushr, 1)) (k : zV p l e R s m args below meth c cells slots Q D A nL ws (pc + 1) lv (.int ((x.toUInt32 >>> (y.toUInt32 &&& Int32.toUInt32 31)).toInt32) :: st)) : zV p l e R s m args below meth c cells slots Q D A nL ws pc lv (.int y :: .int x :: st) := fun H locs ls hP hD hS hl => lv_iushr C.1 C.2.1 d rfl (k H locs ls hP hD hS hl)
theorem z_idiv (C : zx_C p s m args c D tys own cc nL) {α : Type} {o : Option α} {r : α} {x y : Int32} (d : decode cc pc = .ok (.idiv, 1)) (h : ck (decide (¬ y = 0)) o = some r) (k : o = some r → zV p l e R s m args below meth c cells slots Q D A nL ws (pc + 1) lv (.int (x / y) :: st)) : zV p l e R s m args below meth c cells slots Q D A nL ws pc lv (.int y :: .int x :: st) := fun H locs ls hP hD hS hl => lv_idiv C.1 C.2.1 d (of_decide_eq_true (ck_spec h).1) (k (ck_spec h).2 H locs ls hP hD hS hl)
theorem z_irem (C : zx_C p s m args c D tys own cc nL) {α : Type} {o : Option α} {r : α} {x y : Int32} (d : decode cc pc = .ok (.irem, 1)) (h : ck (decide (¬ y = 0)) o = some r) (k : o = some r → zV p l e R s m args below meth c cells slots Q D A nL ws (pc + 1) lv (.int (x - x / y * y) :: st)) : zV p l e R s m args below meth c cells slots Q D A nL ws pc lv (.int y :: .int x :: st) := fun H locs ls hP hD hS hl => lv_irem C.1 C.2.1 d (of_decide_eq_true (ck_spec h).1) (k (ck_spec h).2 H locs ls hP hD hS hl)
theorem z_lor (C : zx_C p s m args c D tys own cc nL) {x y : Int64} (d : decode cc pc = .ok (.lor, 1)) (k : zV p l e R s m args below meth c cells slots Q D A nL ws (pc + 1) lv (.long (x ||| y) :: st)) : zV p l e R s m args below meth c cells slots Q D A nL ws pc lv (.long y :: .long x :: st) := fun H locs ls hP hD hS hl => lv_lor C.1 C.2.1 d (k H locs ls hP hD hS hl)
theorem z_lcmp (C : zx_C p s m args c D tys own cc nL) {x y : Int64} (d : decode cc pc = .ok (.lcmp, 1)) (k : zV p l e R s m args below meth c cells slots Q D A nL ws (pc + 1) lv (.int (lg_cmp x y) :: st)) : zV p l e R s m args below meth c cells slots Q D A nL ws pc lv (.long y :: .long x :: st) := fun H locs ls hP hD hS hl => W.lcmp C.1 C.2.1 d (k H locs ls hP hD hS hl)
theorem z_lshl (C : zx_C p s m args c D tys own cc nL) {x : Int64} {y : Int32} (d : decode cc pc = .ok (.lshl, 1)) (k : zV p l e R s m args below meth c cells slots Q D A nL ws (pc + 1) lv (.long (x <<< (y.toInt64 &&& 63)) :: st)) : zV p l e R s m args below meth c cells slots Q D A nL ws pc lv (.int y :: .long x :: st) := fun H locs ls hP hD hS hl => lv_lshl C.1 C.2.1 d rfl (k H locs ls hP hD hS hl)
theorem z_lshr (C : zx_C p s m args c D tys own cc nL) {x : Int64} {y : Int32} (d : decode cc pc = .ok (.lshr, 1)) (k : zV p l e R s m args below meth c cells slots Q D A nL ws (pc + 1) lv (.long (x >>> (y.toInt64 &&& 63)) :: st)) : zV p l e R s m args below meth c cells slots Q D A nL ws pc lv (.int y :: .long x :: st) := fun H locs ls hP hD hS hl => lv_lshr C.1 C.2.1 d rfl (k H locs ls hP hD hS hl)
theorem z_i2l (C : zx_C p s m args c D tys own cc nL) {x : Int32} (d : decode cc pc = .ok (.i2l, 1)) (k : zV p l e R s m args below meth c cells slots Q D A nL ws (pc + 1) lv (.long x.toInt64 :: st)) : zV p l e R s m args below meth c cells slots Q D A nL ws pc lv (.int x :: st) := fun H locs ls hP hD hS hl => lv_i2l C.1 C.2.1 d rfl (k H locs ls hP hD hS hl)
theorem z_l2i (C : zx_C p s m args c D tys own cc nL) {x : Int64} (d : decode cc pc = .ok (.l2i, 1)) (k : zV p l e R s m args below meth c cells slots Q D A nL ws (pc + 1) lv (.int x.toInt32 :: st)) : zV p l e R s m args below meth c cells slots Q D A nL ws pc lv (.long x :: st) := fun H locs ls hP hD hS hl => lv_l2i C.1 C.2.1 d rfl (k H locs ls hP hD hS hl)
theorem z_dup (C : zx_C p s m args c D tys own cc nL) {va : Value} (hv : va.category = 1) (d : decode cc pc = .ok (.dup, 1)) (k : zV p l e R s m args below meth c cells slots Q D A nL ws (pc + 1) lv (va :: va :: st)) : zV p l e R s m args below meth c cells slots Q D A nL ws pc lv (va :: st) := fun H locs ls hP hD hS hl => lv_dup C.1 C.2.1 d hv (k H locs ls hP hD hS hl)
theorem z_goto (C : zx_C p s m args c D tys own cc nL) {off : Int} (tgt : Nat) (ht : (pc : Int) + off = (tgt : Int)) (d : decode cc pc = .ok (.goto off, 3)) (k : zV p l e R s m args below meth c cells slots Q D A nL ws tgt lv st) : zV p l e R s m args below meth c cells slots Q D A nL ws pc lv st := fun H locs ls hP hD hS hl => lv_goto C.1 C.2.1 d ht (k H locs ls hP hD hS hl)
theorem z_icmp_eq (C : zx_C p s m args c D tys own cc nL) {α : Type} {X Y : Option α} {r : α} {x y : Int32} {off : Int} (tgt : Nat) (ht : (pc : Int) + off = (tgt : Int)) (d : decode cc pc = .ok (.if_icmp .eq off, 3)) (h : (if x = y then X else Y) = some r) (k1 : X = some r → zV p l e R s m args below meth c cells slots Q D A nL ws tgt lv st) (k2 : Y = some r → zV p l e R s m args below meth c cells slots Q D A nL ws (pc + 3) lv st) : zV p l e R s m args below meth c cells slots Q D A nL ws pc lv (.int y :: .int x :: st) := fun H locs ls hP hD hS hl => lv_icmp_eq C.1 C.2.1 d ht (fun q => k1 ((if_pos q).symm.trans h) H locs ls hP hD hS hl) (fun q => k2 ((if_neg q).symm.trans h) H locs ls hP hD hS hl)
theorem z_if_eq (C : zx_C p s m args c D tys own cc nL) {α : Type} {X Y : Option α} {r : α} {x : Int32} {off : Int} (tgt : Nat) (ht : (pc : Int) + off = (tgt : Int)) (d : decode cc pc = .ok (.ifCond .eq off, 3)) (h : (if x = 0 then X else Y) = some r) (k1 : X = some r → zV p l e R s m args below meth c cells slots Q D A nL ws tgt lv st) (k2 : Y = some r → zV p l e R s m args below meth c cells slots Q D A nL ws (pc + 3) lv st) : zV p l e R s m args below meth c cells slots Q D A nL ws pc lv (.int x :: st) := fun H locs ls hP hD hS hl => lv_if_eq C.1 C.2.1 d ht (fun q => k1 ((if_pos q).symm.trans h) H locs ls hP hD hS hl) (fun q => k2 ((if_neg q).symm.trans h) H locs ls hP hD hS hl)
theorem z_icmp_ne (C : zx_C p s m args c D tys own cc nL) {α : Type} {X Y : Option α} {r : α} {x y : Int32} {off : Int} (tgt : Nat) (ht : (pc : Int) + off = (tgt : Int)) (d : decode cc pc = .ok (.if_icmp .ne off, 3)) (h : (if x = y then Y else X) = some r) (k1 : X = some r → zV p l e R s m args below meth c cells slots Q D A nL ws tgt lv st) (k2 : Y = some r → zV p l e R s m args below meth c cells slots Q D A nL ws (pc + 3) lv st) : zV p l e R s m args below meth c cells slots Q D A nL ws pc lv (.int y :: .int x :: st) := fun H locs ls hP hD hS hl => lv_icmp_ne C.1 C.2.1 d ht (fun q => k1 ((if_neg q).symm.trans h) H locs ls hP hD hS hl) (fun q => k2 ((if_pos q).symm.trans h) H locs ls hP hD hS hl)
theorem z_if_ne (C : zx_C p s m args c D tys own cc nL) {α : Type} {X Y : Option α} {r : α} {x : Int32} {off : Int} (tgt : Nat) (ht : (pc : Int) + off = (tgt : Int)) (d : decode cc pc = .ok (.ifCond .ne off, 3)) (h : (if x = 0 then Y else X) = some r) (k1 : X = some r → zV p l e R s m args below meth c cells slots Q D A nL ws tgt lv st) (k2 : Y = some r → zV p l e R s m args below meth c cells slots Q D A nL ws (pc + 3) lv st) : zV p l e R s m args below meth c cells slots Q D A nL ws pc lv (.int x :: st) := fun H locs ls hP hD hS hl => lv_if_ne C.1 C.2.1 d ht (fun q => k1 ((if_neg q).symm.trans h) H locs ls hP hD hS hl) (fun q => k2 ((if_pos q).symm.trans h) H locs ls hP hD hS hl)
theorem z_icmp_lt (C : zx_C p s m args c D tys own cc nL) {α : Type} {X Y : Option α} {r : α} {x y : Int32} {off : Int} (tgt : Nat) (ht : (pc : Int) + off = (tgt : Int)) (d : decode cc pc = .ok (.if_icmp .lt off, 3)) (h : (if x < y then X else Y) = some r) (k1 : X = some r → zV p l e R s m args below meth c cells slots Q D A nL ws tgt lv st) (k2 : Y = some r → zV p l e R s m args below meth c cells slots Q D A nL ws (pc + 3) lv st) : zV p l e R s m args below meth c cells slots Q D A nL ws pc lv (.int y :: .int x :: st) := fun H locs ls hP hD hS hl => lv_icmp_lt C.1 C.2.1 d ht (fun q => k1 ((if_pos q).symm.trans h) H locs ls hP hD hS hl) (fun q => k2 ((if_neg q).symm.trans h) H locs ls hP hD hS hl)
theorem z_if_lt (C : zx_C p s m args c D tys own cc nL) {α : Type} {X Y : Option α} {r : α} {x : Int32} {off : Int} (tgt : Nat) (ht : (pc : Int) + off = (tgt : Int)) (d : decode cc pc = .ok (.ifCond .lt off, 3)) (h : (if x < 0 then X else Y) = some r) (k1 : X = some r → zV p l e R s m args below meth c cells slots Q D A nL ws tgt lv st) (k2 : Y = some r → zV p l e R s m args below meth c cells slots Q D A nL ws (pc + 3) lv st) : zV p l e R s m args below meth c cells slots Q D A nL ws pc lv (.int x :: st) := fun H locs ls hP hD hS hl => lv_if_lt C.1 C.2.1 d ht (fun q => k1 ((if_pos q).symm.trans h) H locs ls hP hD hS hl) (fun q => k2 ((if_neg q).symm.trans h) H locs ls hP hD hS hl)
theorem z_icmp_ge (C : zx_C p s m args c D tys own cc nL) {α : Type} {X Y : Option α} {r : α} {x y : Int32} {off : Int} (tgt : Nat) (ht : (pc : Int) + off = (tgt : Int)) (d : decode cc pc = .ok (.if_icmp .ge off, 3)) (h : (if y ≤ x then X else Y) = some r) (k1 : X = some r → zV p l e R s m args below meth c cells slots Q D A nL ws tgt lv st) (k2 : Y = some r → zV p l e R s m args below meth c cells slots Q D A nL ws (pc + 3) lv st) : zV p l e R s m args below meth c cells slots Q D A nL ws pc lv (.int y :: .int x :: st) := fun H locs ls hP hD hS hl => lv_icmp_ge C.1 C.2.1 d ht (fun q => k1 ((if_pos q).symm.trans h) H locs ls hP hD hS hl) (fun q => k2 ((if_neg q).symm.trans h) H locs ls hP hD hS hl)
theorem z_if_ge (C : zx_C p s m args c D tys own cc nL) {α : Type} {X Y : Option α} {r : α} {x : Int32} {off : Int} (tgt : Nat) (ht : (pc : Int) + off = (tgt : Int)) (d : decode cc pc = .ok (.ifCond .ge off, 3)) (h : (if 0 ≤ x then X else Y) = some r) (k1 : X = some r → zV p l e R s m args below meth c cells slots Q D A nL ws tgt lv st) (k2 : Y = some r → zV p l e R s m args below meth c cells slots Q D A nL ws (pc + 3) lv st) : zV p l e R s m args below meth c cells slots Q D A nL ws pc lv (.int x :: st) := fun H locs ls hP hD hS hl => lv_if_ge C.1 C.2.1 d ht (fun q => k1 ((if_pos q).symm.trans h) H locs ls hP hD hS hl) (fun q => k2 ((if_neg q).symm.trans h) H locs ls hP hD hS hl)
theorem z_icmp_gt (C : zx_C p s m args c D tys own cc nL) {α : Type} {X Y : Option α} {r : α} {x y : Int32} {off : Int} (tgt : Nat) (ht : (pc : Int) + off = (tgt : Int)) (d : decode cc pc = .ok (.if_icmp .gt off, 3)) (h : (if y < x then X else Y) = some r) (k1 : X = some r → zV p l e R s m args below meth c cells slots Q D A nL ws tgt lv st) (k2 : Y = some r → zV p l e R s m args below meth c cells slots Q D A nL ws (pc + 3) lv st) : zV p l e R s m args below meth c cells slots Q D A nL ws pc lv (.int y :: .int x :: st) := fun H locs ls hP hD hS hl => lv_icmp_gt C.1 C.2.1 d ht (fun q => k1 ((if_pos q).symm.trans h) H locs ls hP hD hS hl) (fun q => k2 ((if_neg q).symm.trans h) H locs ls hP hD hS hl)
theorem z_if_gt (C : zx_C p s m args c D tys own cc nL) {α : Type} {X Y : Option α} {r : α} {x : Int32} {off : Int} (tgt : Nat) (ht : (pc : Int) + off = (tgt : Int)) (d : decode cc pc = .ok (.ifCond .gt off, 3)) (h : (if 0 < x then X else Y) = some r) (k1 : X = some r → zV p l e R s m args below meth c cells slots Q D A nL ws tgt lv st) (k2 : Y = some r → zV p l e R s m args below meth c cells slots Q D A nL ws (pc + 3) lv st) : zV p l e R s m args below meth c cells slots Q D A nL ws pc lv (.int x :: st) := fun H locs ls hP hD hS hl => lv_if_gt C.1 C.2.1 d ht (fun q => k1 ((if_pos q).symm.trans h) H locs ls hP hD hS hl) (fun q => k2 ((if_neg q).symm.trans h) H locs ls hP hD hS hl)
theorem z_icmp_le (C : zx_C p s m args c D tys own cc nL) {α : Type} {X Y : Option α} {r : α} {x y : Int32} {off : Int} (tgt : Nat) (ht : (pc : Int) + off = (tgt : Int)) (d : decode cc pc = .ok (.if_icmp .le off, 3)) (h : (if x ≤ y then X else Y) = some r) (k1 : X = some r → zV p l e R s m args below meth c cells slots Q D A nL ws tgt lv st) (k2 : Y = some r → zV p l e R s m args below meth c cells slots Q D A nL ws (pc + 3) lv st) : zV p l e R s m args below meth c cells slots Q D A nL ws pc lv (.int y :: .int x :: st) := fun H locs ls hP hD hS hl => lv_icmp_le C.1 C.2.1 d ht (fun q => k1 ((if_pos q).symm.trans h) H locs ls hP hD hS hl) (fun q => k2 ((if_neg q).symm.trans h) H locs ls hP hD hS hl)
theorem z_if_le (C : zx_C p s m args c D tys own cc nL) {α : Type} {X Y : Option α} {r : α} {x : Int32} {off : Int} (tgt : Nat) (ht : (pc : Int) + off = (tgt : Int)) (d : decode cc pc = .ok (.ifCond .le off, 3)) (h : (if x ≤ 0 then X else Y) = some r) (k1 : X = some r → zV p l e R s m args below meth c cells slots Q D A nL ws tgt lv st) (k2 : Y = some r → zV p l e R s m args below meth c cells slots Q D A nL ws (pc + 3) lv st) : zV p l e R s m args below meth c cells slots Q D A nL ws pc lv (.int x :: st) := fun H locs ls hP hD hS hl => lv_if_le C.1 C.2.1 d ht (fun q => k1 ((if_pos q).symm.trans h) H locs ls hP hD hS hl) (fun q => k2 ((if_neg q).symm.trans h) H locs ls hP hD hS hl)
theorem z_swIn (C : zx_C p s m args c D tys own cc nL) {α : Type} {x : Int32} {dflt lo hi off : Int} {offs : Array Int} {len : Nat} (tgt : Nat) (v : Int) (d : decode cc pc = .ok (.tableswitch dflt lo hi offs, len)) (hx : x.toInt = v) (h1 : ¬ v < lo) (h2 : ¬ hi < v) (ho : offs[(v - lo).toNat]? = some off) (ht : (pc : Int) + off = (tgt : Int)) (k : zV p l e R s m args below meth c cells slots Q D A nL ws tgt lv st) : zV p l e R s m args below meth c cells slots Q D A nL ws pc lv (.int x :: st) := fun H locs ls hP hD hS hl => lv_tableIn C.1 C.2.1 d (by rw [hx]; exact h1) (by rw [hx]; exact h2) (by rw [hx]; exact ho) ht (k H locs ls hP hD hS hl)
theorem z_swOut (C : zx_C p s m args c D tys own cc nL) {x : Int32} {dflt lo hi : Int} {offs : Array Int} {len : Nat} (tgt : Nat) (d : decode cc pc = .ok (.tableswitch dflt lo hi offs, len)) (hx : x.toInt < lo ∨ hi < x.toInt) (ht : (pc : Int) + dflt = (tgt : Int)) (k : zV p l e R s m args below meth c cells slots Q D A nL ws tgt lv st) : zV p l e R s m args below meth c cells slots Q D A nL ws pc lv (.int x :: st) := fun H locs ls hP hD hS hl => lv_tableOut C.1 C.2.1 d hx ht (k H locs ls hP hD hS hl)
theorem z_get (C : zx_C p s m args c D tys own cc nL) {Cn : String} {T : u_T} {N ci index a : Nat} {fs : List Value} (hin : ∀ w ∈ u_ws Cn T N, w ∈ gtbl) (q0 : Nat) (he : ws[q0]? = some (a, .inr (ci, fs))) (hc : clz[ci]? = some (Cn, T, N)) (f : Nat) (hk : f < N) (hlink : Cond.fieldLink own index (T f).1 (T f).2.1 (T f).2.2.1 ∈ gtbl) {v : Value} (hv : fs[f]? = some v) (d : decode cc pc = .ok (.getfield index, 3)) (k : zV p l e R s m args below meth c cells slots Q D A nL ws (pc + 3) lv (v :: st)) : zV p l e R s m args below meth c cells slots Q D A nL ws pc lv (.ref a :: st) := fun H locs ls hP hD hS hl => va_get C.1 C.2.1 C.2.2.2.2.1 hin C.2.2.2.1 C.2.2.2.2.2.1 hP q0 he hc f hk (C.2.2.2.2.1 _ hlink) (fun _ h9 => h9) hv d (k H locs ls hP hD hS hl)
theorem z_put (C : zx_C p s m args c D tys own cc nL) {Cn : String} {T : u_T} {N ci index a : Nat} {fs : List Value} (hin : ∀ w ∈ u_ws Cn T N, w ∈ gtbl) (ty0 : Nat → FieldType) (hty : ∀ k, k < N → parseFieldDescriptor (T k).2.2.1 = some (ty0 k)) (hnm : ∀ a, a < N → ∀ b, b < N → a ≠ b → (T a).2.1 ≠ (T b).2.1) (q0 : Nat) (he : ws[q0]? = some (a, .inr (ci, fs))) (hc : clz[ci]? = some (Cn, T, N)) (f : Nat) (hk : f < N) (hlink : Cond.fieldLink own index (T f).1 (T f).2.1 (T f).2.2.1 ∈ gtbl) (hfin : (T f).2.2.2 = false) {ty : FieldType} {v : Value} (hd : parseFieldDescriptor (T f).2.2.1 = some ty) (hn : narrow ty v = v ∧ fits ty v = true) (hlen : f < fs.length) (hw : ws.set q0 (a, .inr (ci, fs.set f v)) = ws') (d : decode cc pc = .ok (.putfield index, 3)) (k : zV p l e R s m args below meth c cells slots Q D A nL ws' (pc + 3) lv st) : zV p l e R s m args below meth c cells slots Q D A nL ws pc lv (v :: .ref a :: st) := fun H locs ls hP hD hS hl => va_put C.1 C.2.1 C.2.2.2.2.1 hin ty0 hty hnm C.2.2.2.1 C.2.2.2.2.2.1 hP hD hS q0 he hc f hk (C.2.2.2.2.1 _ hlink) (fun _ h9 => h9) hfin hd hn.1 hn.2 hlen d (fun H locs hP hD hS => k H locs ls (hw ▸ hP) (hw ▸ hD) hS hl)
theorem z_iald (C : zx_C p s m args c D tys own cc nL) {α : Type} {r : α} {kf : Int32 → Option α} {a n : Nat} {cA : ClassId} {f : Nat → Int32} {i : Int32} (q0 t0 : Nat) (ha : ws[q0]? = some (a, .inl (cA, n, .inl f))) (ht : tys[t0]? = some (cA, .int)) (d : decode cc pc = .ok (.iaload, 1)) (h : ld f n i kf = some r) (k : ∀ y, kf y = some r → zV p l e R s m args below meth c cells slots Q D A nL ws (pc + 1) lv (.int y :: st)) : zV p l e R s m args below meth c cells slots Q D A nL ws pc lv (.int i :: .ref a :: st) := fun H locs ls hP hD hS hl => va_iald C.1 C.2.1 C.2.2.2.2.2.1 hP q0 t0 ha ht (inb_in (ld_spec h).1) d (k _ (ld_spec h).2 H locs ls hP hD hS hl)
theorem z_lald (C : zx_C p s m args c D tys own cc nL) {α : Type} {r : α} {kf : Int64 → Option α} {a n : Nat} {cA : ClassId} {f : Nat → Int64} {i : Int32} (q0 t0 : Nat) (ha : ws[q0]? = some (a, .inl (cA, n, .inr (.inl f)))) (ht : tys[t0]? = some (cA, .long)) (d : decode cc pc = .ok (.laload, 1)) (h : ld f n i kf = some r) (k : ∀ y, kf y = some r → zV p l e R s m args below meth c cells slots Q D A nL ws (pc + 1) lv (.long y :: st)) : zV p l e R s m args below meth c cells slots Q D A nL ws pc lv (.int i :: .ref a :: st) := fun H locs ls hP hD hS hl => va_lald C.1 C.2.1 C.2.2.2.2.2.1 hP q0 t0 ha ht (inb_in (ld_spec h).1) d (k _ (ld_spec h).2 H locs ls hP hD hS hl)
theorem z_iast (C : zx_C p s m args c D tys own cc nL) {α : Type} {o : Option α} {r : α} {a n : Nat} {cA : ClassId} {f : Nat → Int32} {i x : Int32} (q0 t0 : Nat) (ha : ws[q0]? = some (a, .inl (cA, n, .inl f))) (ht : tys[t0]? = some (cA, .int)) (hw : ws.set q0 (a, .inl (cA, n, .inl (upd f i.toNatClampNeg x))) = ws') (d : decode cc pc = .ok (.iastore, 1)) (h : ck (inb i n) o = some r) (k : o = some r → zV p l e R s m args below meth c cells slots Q D A nL ws' (pc + 1) lv st) : zV p l e R s m args below meth c cells slots Q D A nL ws pc lv (.int x :: .int i :: .ref a :: st) := fun H locs ls hP hD hS hl => va_iast C.1 C.2.1 C.2.2.2.2.2.1 hP hD hS q0 t0 ha ht (inb_in (ck_spec h).1) d (fun H locs hP hD hS => k (ck_spec h).2 H locs ls (hw ▸ hP) (hw ▸ hD) hS hl)
theorem z_last (C : zx_C p s m args c D tys own cc nL) {α : Type} {o : Option α} {r : α} {a n : Nat} {cA : ClassId} {f : Nat → Int64} {i : Int32} {x : Int64} (q0 t0 : Nat) (ha : ws[q0]? = some (a, .inl (cA, n, .inr (.inl f)))) (ht : tys[t0]? = some (cA, .long)) (hw : ws.set q0 (a, .inl (cA, n, .inr (.inl (vp_updL f i.toNatClampNeg x)))) = ws') (d : decode cc pc = .ok (.lastore, 1)) (h : ck (inb i n) o = some r) (k : o = some r → zV p l e R s m args below meth c cells slots Q D A nL ws' (pc + 1) lv st) : zV p l e R s m args below meth c cells slots Q D A nL ws pc lv (.long x :: .int i :: .ref a :: st) := fun H locs ls hP hD hS hl => va_last C.1 C.2.1 C.2.2.2.2.2.1 hP hD hS q0 t0 ha ht (inb_in (ck_spec h).1) d (fun H locs hP hD hS => k (ck_spec h).2 H locs ls (hw ▸ hP) (hw ▸ hD) hS hl)
theorem z_alen (C : zx_C p s m args c D tys own cc nL) {a : Nat} {cA : ClassId} {x : vp_A} {ty : FieldType} (q0 t0 : Nat) (ha : ws[q0]? = some (a, .inl (cA, x))) (ht : tys[t0]? = some (cA, ty)) {v : Int32} (hv : Int32.ofNat x.1 = v) (d : decode cc pc = .ok (.arraylength, 1)) (k : zV p l e R s m args below meth c cells slots Q D A nL ws (pc + 1) lv (.int v :: st)) : zV p l e R s m args below meth c cells slots Q D A nL ws pc lv (.ref a :: st) := fun H locs ls hP hD hS hl => va_alen C.1 C.2.1 C.2.2.2.2.2.1 hP q0 t0 ha ht hv d (k H locs ls hP hD hS hl)
theorem z_aald (C : zx_C p s m args c D tys own cc nL) {α : Type} {o : Option α} {r : α} {a n : Nat} {cA : ClassId} {f : Nat → Nat} {i : Int32} (q0 t0 : Nat) (ha : ws[q0]? = some (a, .inl (cA, n, .inr (.inr (.inr (.inr (fun j => if j < n then some (f j) else none))))))) (ht : tys[t0]? = some (cA, .array .int)) (d : decode cc pc = .ok (.aaload, 1)) (h : ck (inb i n) o = some r) (k : o = some r → i.toNatClampNeg < n → zV p l e R s m args below meth c cells slots Q D A nL ws (pc + 1) lv (.ref (f i.toNatClampNeg) :: st)) : zV p l e R s m args below meth c cells slots Q D A nL ws pc lv (.int i :: .ref a :: st) := by
  intro H locs ls hP hD hS hl
  have hin := inb_in (ck_spec h).1
  have hlt : i.toNatClampNeg < n := Nat.not_le.mp fun q => hin (Or.inr q)
  exact W.aald (v := .ref (f i.toNatClampNeg)) (ty := .array .int) C.1 C.2.1 (hP q0 _ ha) ((C.2.2.2.2.2.1.2 t0 _ ht).1 n (fun j => va_rf (if j < n then some (f j) else none))) rfl (fun q => by cases q) (by show ¬ (i < 0 ∨ (arrV _ _ _).slots.size ≤ _); rw [arrV_size]; exact hin) (by show (arrV _ _ _).slots[_]? = _; rw [arrV_read _ _ hlt]; show some (va_rf (if i.toNatClampNeg < n then some (f i.toNatClampNeg) else none)) = _; rw [if_pos hlt]; rfl) rfl rfl d (k (ck_spec h).2 hlt H locs ls hP hD hS hl)
theorem z_go {y : MethodName} {ov : Option Value} {av : Array Value} {st0 rest : List Value} (hr : ∀ (H : Heap) (locs : List Loc) (ls : Array Slot), va_P D clz ws H → va_D A ws → lv_has ls nL lv → va_Run p l e R s m args below meth c H locs cells slots 0 0 (F0 m pc ls st0) rest (zQ D A ov ws' av) A) (k : zV p l e R s m args below meth c cells slots Q D A nL ws' (pc + 3) lv (ov.toList ++ rest)) : zV p l e R s m args below meth c cells slots Q D A nL ws pc lv st0 := by
  intro H locs ls hP hD hS hl T hT X
  obtain ⟨v, st₀, t, T', L, h0, X', hL, e1, e2, ⟨hv, ⟨hP1, hD1⟩, hz, hk⟩, stp⟩ := hr H locs ls hP hD hl T hT X
  cases hv
  rw [h0] at hz hk
  obtain ⟨t2, a1, b1⟩ := k T'.heap (locs ++ L) ls (by rw [e1]; exact hP1) hD1
    ⟨Nat.le_trans hS.1 (by rw [e1]; exact hz), fun q h1 h2 => by rw [e1, hk q (Nat.lt_of_lt_of_le h1 hS.1) h2]; exact hS.2.1 q h1 h2, fun q hq => by
      rcases List.mem_append.mp hq with h | h
      · exact hS.2.2 q h
      · exact hL q h⟩ hl T' rfl X'
  exact ⟨t2, stp t2 a1, b1⟩
theorem zx_blind {av : List Value} : FrameBlind (va_Pc av (fun U => va_P D clz ws U.heap ∧ va_D A ws ∧ va_K D clz tys U ∧ zx_N U)) := fun a U g mk q => by
  obtain ⟨q0, qP, qD, qK, qN⟩ := q
  exact ⟨q0, qP, qD, va_K.moved (u := U) (U := U.calling g mk a) (Vm.Alike.refl U.vm) qK, qN.call⟩
theorem zx_pre (C : zx_C p s m args c D tys own cc nL) {av : List Value} {H : Heap} (hP : va_P D clz ws H) (hD : va_D A ws) : ∀ U : State, U.heap = H → s.WarmedH U.vm → va_Pc av (fun U => va_P D clz ws U.heap ∧ va_D A ws ∧ va_K D clz tys U ∧ zx_N U) av.toArray U := fun U hU hW => ⟨rfl, by rw [hU]; exact hP, hD, va_K.moved hW.alike C.2.2.2.2.2.1, C.2.2.2.2.2.2.warm hW⟩
theorem z_callV (C : zx_C p s m args c D tys own cc nL) {a ci q0 : Nat} {fs : List Value} {T : u_T} {N : Nat} {y : MethodName} {bytes : ByteArray} {maxL index n : Nat} {ret : Option FieldType} {rm : Room} {ov : Option Value} {As rest : List Value} (hM : zM l y (.code y bytes maxL ret) rm D A tys (.ref a :: As) ws ov ws') (hcd : Cond.code y bytes maxL ret ∈ gtbl) (hini : Cond.initialized y.cls ∈ gtbl) (hlk : Cond.methodLink own index y ∈ gtbl) (him : Cond.instanceMethod y ∈ gtbl) (hsl : Cond.selects y.cls y y ∈ gtbl) (he : ws[q0]? = some (a, .inr (ci, fs))) (hc : clz[ci]? = some (y.cls, T, N)) (hd : y.cls ≠ "java/lang/invoke/MethodHandle" ∧ y.cls ≠ "java/lang/invoke/VarHandle" ∧ (parseMethodDescriptor y.desc).map (fun d => d.parameters.length) = some n) (hR : (rm.frames + 1 ≤ R.frames ∧ 8 + (maxL + 11) + rm.locals ≤ R.locals) ∧ rm.cells = 0 ∧ rm.slots = 0) (hn : As.length = n) (hW : (rest.map fun v => v.category).sum ≤ 8) (hf : cells ≤ R.cells ∧ slots ≤ R.slots) (d : decode cc pc = .ok (.invokevirtual index, 3)) (k : zV p l e R s m args below meth c cells slots Q D A nL ws' (pc + 3) lv (ov.toList ++ rest)) : zV p l e R s m args below meth c cells slots Q D A nL ws pc lv (As.reverse ++ .ref a :: rest) :=
  z_go (y := y) (fun H locs ls hP hD hl => va_runV (As := As) (rest := rest) ⟨C.1, C.2.1, C.2.2.1, C.2.2.2.1, C.2.2.2.2.1⟩ hM ⟨callB_of n C.2.2.2.2.1 (zx_GI _ hcd) rfl hR.2.1 hR.2.2 (C.2.2.2.2.1 _ hini) (C.2.2.2.2.1 _ hlk) hd hR.1, C.2.2.2.2.1 _ him, C.2.2.2.2.1 _ hsl⟩ ⟨zx_blind, va_recv C.2.2.2.2.2.1 hP hc he, zx_pre C hP hD⟩ rfl hn hl.1 rfl (lv_room hW) d hf) k
theorem z_callS (C : zx_C p s m args c D tys own cc nL) {y : MethodName} {bytes : ByteArray} {maxL index n : Nat} {ret : Option FieldType} {rm : Room} {ov : Option Value} {As rest : List Value} (hM : zM l y (.code y bytes maxL ret) rm D A tys As ws ov ws') (hcd : Cond.code y bytes maxL ret ∈ gtbl) (hini : Cond.initialized y.cls ∈ gtbl) (hlk : Cond.methodLink own index y ∈ gtbl) (hst : Cond.static y ∈ gtbl) (hd : y.cls ≠ "java/lang/invoke/MethodHandle" ∧ y.cls ≠ "java/lang/invoke/VarHandle" ∧ (parseMethodDescriptor y.desc).map (fun d => d.parameters.length) = some n) (hR : (rm.frames + 1 ≤ R.frames ∧ 8 + (maxL + 11) + rm.locals ≤ R.locals) ∧ rm.cells = 0 ∧ rm.slots = 0) (hn : As.length = n) (hW : (rest.map fun v => v.category).sum ≤ 8) (hf : cells ≤ R.cells ∧ slots ≤ R.slots) (d : decode cc pc = .ok (.invokestatic index, 3)) (k : zV p l e R s m args below meth c cells slots Q D A nL ws' (pc + 3) lv (ov.toList ++ rest)) : zV p l e R s m args below meth c cells slots Q D A nL ws pc lv (As.reverse ++ rest) :=
  z_go (y := y) (fun H locs ls hP hD hl => va_runS (As := As) (rest := rest) ⟨C.1, C.2.1, C.2.2.1, C.2.2.2.1, C.2.2.2.2.1⟩ hM ⟨callB_of n C.2.2.2.2.1 (zx_GI _ hcd) rfl hR.2.1 hR.2.2 (C.2.2.2.2.1 _ hini) (C.2.2.2.2.1 _ hlk) hd hR.1, C.2.2.2.2.1 _ hst⟩ ⟨zx_blind, zx_pre C hP hD⟩ rfl hn hl.1 rfl (lv_room hW) d hf) k
theorem z_callSN (C : zx_C p s m args c D tys own cc nL) {y : MethodName} {bytes : ByteArray} {maxL index n : Nat} {ret : Option FieldType} {rm : Room} {ov : Option Value} {As rest : List Value} {host : String} (j : Nat) (hM : zM l y (.code y bytes maxL ret) rm D A tys As ws ov ws') (hcd : Cond.code y bytes maxL ret ∈ gtbl) (hini : Cond.initialized y.cls ∈ gtbl) (hlk : nqs[j]? = some (own, index, y, host)) (hst : Cond.static y ∈ gtbl) (hd : y.cls ≠ "java/lang/invoke/MethodHandle" ∧ y.cls ≠ "java/lang/invoke/VarHandle" ∧ (parseMethodDescriptor y.desc).map (fun d => d.parameters.length) = some n) (hR : (rm.frames + 1 ≤ R.frames ∧ 8 + (maxL + 11) + rm.locals ≤ R.locals) ∧ rm.cells = 0 ∧ rm.slots = 0) (hn : As.length = n) (hW : (rest.map fun v => v.category).sum ≤ 8) (hf : cells ≤ R.cells ∧ slots ≤ R.slots) (d : decode cc pc = .ok (.invokestatic index, 3)) (k : zV p l e R s m args below meth c cells slots Q D A nL ws' (pc + 3) lv (ov.toList ++ rest)) : zV p l e R s m args below meth c cells slots Q D A nL ws pc lv (As.reverse ++ rest) :=
  z_go (y := y) (fun H locs ls hP hD hl => va_runSN (As := As) (rest := rest) (host := host) ⟨C.1, C.2.1, C.2.2.1, C.2.2.2.1, C.2.2.2.2.1⟩ hM ⟨va_cnB n C.2.2.2.2.1 (zx_GI _ hcd) rfl hR.2.1 hR.2.2 (C.2.2.2.2.2.2 _ (List.mem_of_getElem? hlk)) (C.2.2.2.2.1 _ hini) hd hR.1, C.2.2.2.2.1 _ hst, trivial⟩ ⟨zx_blind, zx_pre C hP hD⟩ rfl hn hl.1 rfl (lv_room hW) d hf) k
theorem z_copyi (C : zx_C p s m args c D tys own cc nL) {α : Type} {o : Option α} {r : α} {index a0 a n0 n1 : Nat} {c0 c1 : ClassId} {f g : Nat → Int32} {sp dp n : Int32} {rest : List Value} (q0 q1 t0 : Nat) (ha0 : ws[q0]? = some (a0, .inl (c0, n0, (.inl f)))) (ha1 : ws[q1]? = some (a, .inl (c1, n1, (.inl g)))) (ht0 : tys[t0]? = some (c0, .int)) (ht1 : tys[t0]? = some (c1, .int)) (hlk : Cond.methodLink own index arraycopyName ∈ gtbl) (h : ck (decide (¬ sp < 0) && (decide (¬ dp < 0) && (decide (¬ n < 0) && (decide (sp.toNatClampNeg + n.toNatClampNeg ≤ n0) && decide (dp.toNatClampNeg + n.toNatClampNeg ≤ n1))))) o = some r) (hfr : 1 ≤ R.frames) (hlo : (rest.map fun v => v.category).sum + (nativeFrameWords "java/lang/System" "arraycopy" 5 + 11) ≤ R.locals) (hw : ws.set q1 (a, .inl (c1, n1, (.inl (va_cpy f g sp.toNatClampNeg dp.toNatClampNeg n.toNatClampNeg)))) = ws') (d : decode cc pc = .ok (.invokestatic index, 3)) (k : o = some r → zV p l e R s m args below meth c cells slots Q D A nL ws' (pc + 3) lv rest) : zV p l e R s m args below meth c cells slots Q D A nL ws pc lv (.int n :: .int dp :: .ref a :: .int sp :: .ref a0 :: rest) := by
  intro H locs ls hP hD hS hl
  obtain ⟨hb, h⟩ := ck_spec h
  simp only [Bool.and_eq_true, decide_eq_true_eq] at hb
  obtain ⟨b1, b2, b3, b4, b5⟩ := hb
  exact va_copyi C.1 C.2.1 (C.2.2.1.trans hl.1.symm) C.2.2.2.1 (C.2.2.2.2.1 _ hlk) (C.2.2.2.2.1 _ nv_arraycopyName) (C.2.2.2.2.1 _ sm_arraycopyName) (C.2.2.2.2.1 _ in_RJ10) C.2.2.2.2.2.1 hP hD hS q0 q1 t0 t0 ha0 ha1 ht0 ht1 rfl b1 b2 b3 b4 b5 (fun _ _ => rfl) hfr hlo d (fun H locs hP hD hS => k h H locs ls (hw ▸ hP) (hw ▸ hD) hS hl)
theorem z_copyl (C : zx_C p s m args c D tys own cc nL) {α : Type} {o : Option α} {r : α} {index a0 a n0 n1 : Nat} {c0 c1 : ClassId} {f g : Nat → Int64} {sp dp n : Int32} {rest : List Value} (q0 q1 t0 : Nat) (ha0 : ws[q0]? = some (a0, .inl (c0, n0, (.inr (.inl f))))) (ha1 : ws[q1]? = some (a, .inl (c1, n1, (.inr (.inl g))))) (ht0 : tys[t0]? = some (c0, .long)) (ht1 : tys[t0]? = some (c1, .long)) (hlk : Cond.methodLink own index arraycopyName ∈ gtbl) (h : ck (decide (¬ sp < 0) && (decide (¬ dp < 0) && (decide (¬ n < 0) && (decide (sp.toNatClampNeg + n.toNatClampNeg ≤ n0) && decide (dp.toNatClampNeg + n.toNatClampNeg ≤ n1))))) o = some r) (hfr : 1 ≤ R.frames) (hlo : (rest.map fun v => v.category).sum + (nativeFrameWords "java/lang/System" "arraycopy" 5 + 11) ≤ R.locals) (hw : ws.set q1 (a, .inl (c1, n1, (.inr (.inl (va_cpy f g sp.toNatClampNeg dp.toNatClampNeg n.toNatClampNeg))))) = ws') (d : decode cc pc = .ok (.invokestatic index, 3)) (k : o = some r → zV p l e R s m args below meth c cells slots Q D A nL ws' (pc + 3) lv rest) : zV p l e R s m args below meth c cells slots Q D A nL ws pc lv (.int n :: .int dp :: .ref a :: .int sp :: .ref a0 :: rest) := by
  intro H locs ls hP hD hS hl
  obtain ⟨hb, h⟩ := ck_spec h
  simp only [Bool.and_eq_true, decide_eq_true_eq] at hb
  obtain ⟨b1, b2, b3, b4, b5⟩ := hb
  exact va_copyl C.1 C.2.1 (C.2.2.1.trans hl.1.symm) C.2.2.2.1 (C.2.2.2.2.1 _ hlk) (C.2.2.2.2.1 _ nv_arraycopyName) (C.2.2.2.2.1 _ sm_arraycopyName) (C.2.2.2.2.1 _ in_RJ10) C.2.2.2.2.2.1 hP hD hS q0 q1 t0 t0 ha0 ha1 ht0 ht1 rfl b1 b2 b3 b4 b5 (fun _ _ => rfl) hfr hlo d (fun H locs hP hD hS => k h H locs ls (hw ▸ hP) (hw ▸ hD) hS hl)
end ZV
section ZR
variable {p : Program} {l : Launch} {e : Env} {R : Room} {s : State} {m : MethodId} {args : Array Value} {below : List Frame} {meth : Method} {c : Code} {cells slots : Nat} {D : va_G} {A : Nat → Prop} {tys : List (ClassId × FieldType)} {own : String} {cc : ByteArray} {nL : Nat}
variable {ws : va_W} {pc : Nat} {lv : List (Nat × Value)}
theorem z_iret (C : zx_C p s m args c D tys own cc nL) {v : Int32} (hr : meth.sig.returnType = some .int) (hlk : meth.locks = false) (d : decode cc pc = .ok (.ireturn, 1)) : zV p l e R s m args below meth c cells slots (MQ below (zQ D A (some (.int v)) ws) args s cells slots A) D A nL ws pc lv [.int v] := fun H locs ls hP hD hS hl => W.iret C.1 C.2.1 hr (fun t ht hW => ⟨rfl, ⟨by rw [ht]; exact hP, hD⟩, hS.F ht⟩) hS.2.2 d hlk
theorem z_zret (C : zx_C p s m args c D tys own cc nL) {v : Int32} (hr : meth.sig.returnType = some .boolean) (hlk : meth.locks = false) (hv : isB v = true) (d : decode cc pc = .ok (.ireturn, 1)) : zV p l e R s m args below meth c cells slots (MQ below (zQ D A (some (.int v)) ws) args s cells slots A) D A nL ws pc lv [.int v] := fun H locs ls hP hD hS hl => W.zret C.1 C.2.1 hr (isB_n hv).1 (fun t ht hW => ⟨rfl, ⟨by rw [ht]; exact hP, hD⟩, hS.F ht⟩) hS.2.2 d hlk
theorem z_vret (C : zx_C p s m args c D tys own cc nL) (hr : meth.sig.returnType = none) (hlk : meth.locks = false) (d : decode cc pc = .ok (.return_, 1)) : zV p l e R s m args below meth c cells slots (MQ below (zQ D A none ws) args s cells slots A) D A nL ws pc lv [] := fun H locs ls hP hD hS hl => W.vret C.1 C.2.1 hr (fun t ht hW => ⟨rfl, ⟨by rw [ht]; exact hP, hD⟩, hS.F ht⟩) hS.2.2 d hlk
theorem z_aret (C : zx_C p s m args c D tys own cc nL) {a : Nat} {C0 : String} (hr : meth.sig.returnType = some (.object C0)) (hlk : meth.locks = false) (d : decode cc pc = .ok (.areturn, 1)) : zV p l e R s m args below meth c cells slots (MQ below (zQ D A (some (.ref a)) ws) args s cells slots A) D A nL ws pc lv [.ref a] := fun H locs ls hP hD hS hl => W.aret C.1 C.2.1 hr (Or.inl ⟨_, rfl⟩) (Or.inr ⟨_, rfl⟩) (fun t ht hW => ⟨rfl, ⟨by rw [ht]; exact hP, hD⟩, hS.F ht⟩) hS.2.2 d hlk
end ZR
/-- a contract out of a walk from the entry -/
theorem z_start {l : Launch} {y : MethodName} {cc : ByteArray} {maxL : Nat} {ret : Option FieldType} {rm : Room} {D : va_G} {A : Nat → Prop} {tys : List (ClassId × FieldType)} {ws ws' : va_W} {ov : Option Value} (av : List Value) {lv : List (Nat × Value)} (hy : plainName y.cls = true) (hlen : (lg_sl av).length ≤ maxL) (hlv : lv_args 0 av = lv)
    (k : ∀ (p : Program) (e : Env) (s : State) (m : MethodId) (args : Array Value) (below : List Frame) (meth : Method) (c : Code), zx_C p s m args c D tys y.cls cc maxL → meth.sig.returnType = ret → meth.locks = false → zV p l e rm s m args below meth c 0 0 (MQ below (zQ D A ov ws') args s 0 0 A) D A maxL ws 0 lv []) : zM l y (.code y cc maxL ret) rm D A tys av ws ov ws' := by
  refine Met.ofW (cc := cc) (maxL := maxL) (ret := ret) hy rfl ?_
  intro p e s m args below meth c s₁ B hml hv
  obtain ⟨rfl, hP, hD, hK, hN⟩ := hv
  have hts := atoms_spec (ws := .code y cc maxL ret :: gtbl) B.pre
  have h := k p e s m av.toArray below meth c ⟨B.exec, B.bytes, hml, findClass_of_methodNamed B.named, fun w hw => hts w (List.mem_cons_of_mem _ hw), hK, hN⟩ B.returns B.notSynchronized
  have hl := lv_entry av (n := maxL) hlen
  rw [lg_entry_eq]
  rw [hlv] at hl
  exact h s.heap [] _ hP hD va_S.rf hl
end
section
def tyz (x : ClassId × ClassId × ClassId) : List (ClassId × FieldType) := [(x.1, .int), (x.2.1, .long), (x.2.2, .array .int)]
def wC (a : Nat → Nat) (x : ClassId × ClassId × ClassId) (σ : ZS) : va_W := [(a 0, .inr (6, [.ref (a 1), .ref (a 2), .ref (a 3), .ref (a 4), .ref (a 5), .ref (a 6)])), (a 1, .inr (1, [.int (σ.1 0), .int (σ.1 1), .int (σ.1 2), .int (σ.1 3), .ref (a 7)])), (a 2, .inr (2, [.int (σ.1 4), .ref (a 8)])), (a 3, .inr (3, [.int (σ.1 5), .ref (a 9), .ref (a 10), .ref (a 11)])), (a 4, .inr (4, [.ref (a 1), .ref (a 2), .ref (a 3), .ref (a 12), .ref (a 13), .int (σ.1 6)])), (a 5, .inr (0, [.ref (a 1), .ref (a 2), .ref (a 3), .ref (a 4), .ref (a 14)])), (a 6, .inl (x.1, 16, .inl (σ.2.1 6))), (a 7, .inl (x.2.2, 10, .inr (.inr (.inr (.inr (fun j => if j < 10 then some (a (23 + j)) else none)))))), (a 8, .inl (x.1, 128, .inl (σ.2.1 8))), (a 9, .inl (x.1, 16, .inl (σ.2.1 9))), (a 10, .inl (x.1, 16, .inl (σ.2.1 10))), (a 11, .inl (x.1, 128, .inl (σ.2.1 11))), (a 12, .inr (5, [.ref (a 15), .ref (a 16), .ref (a 17), .ref (a 18)])), (a 13, .inr (5, [.ref (a 19), .ref (a 20), .ref (a 21), .ref (a 22)])), (a 14, .inl (x.1, 10, .inl (σ.2.1 14))), (a 15, .inl (x.2.1, 10, .inr (.inl (σ.2.2 15)))), (a 16, .inl (x.1, 10, .inl (σ.2.1 16))), (a 17, .inl (x.1, 10, .inl (σ.2.1 17))), (a 18, .inl (x.1, 10, .inl (σ.2.1 18))), (a 19, .inl (x.2.1, 10, .inr (.inl (σ.2.2 19)))), (a 20, .inl (x.1, 10, .inl (σ.2.1 20))), (a 21, .inl (x.1, 10, .inl (σ.2.1 21))), (a 22, .inl (x.1, 10, .inl (σ.2.1 22))), (a 23, .inl (x.1, 10, .inl (σ.2.1 23))), (a 24, .inl (x.1, 10, .inl (σ.2.1 24))), (a 25, .inl (x.1, 10, .inl (σ.2.1 25))), (a 26, .inl (x.1, 10, .inl (σ.2.1 26))), (a 27, .inl (x.1, 10, .inl (σ.2.1 27))), (a 28, .inl (x.1, 10, .inl (σ.2.1 28))), (a 29, .inl (x.1, 10, .inl (σ.2.1 29))), (a 30, .inl (x.1, 10, .inl (σ.2.1 30))), (a 31, .inl (x.1, 10, .inl (σ.2.1 31))), (a 32, .inl (x.1, 10, .inl (σ.2.1 32)))]
theorem gC_0 {a : Nat → Nat} {x : ClassId × ClassId × ClassId} {σ : ZS} : (wC a x σ)[0]? = some (a 0, .inr (6, [.ref (a 1), .ref (a 2), .ref (a 3), .ref (a 4), .ref (a 5), .ref (a 6)])) := rfl
theorem gC_1 {a : Nat → Nat} {x : ClassId × ClassId × ClassId} {σ : ZS} : (wC a x σ)[1]? = some (a 1, .inr (1, [.int (σ.1 0), .int (σ.1 1), .int (σ.1 2), .int (σ.1 3), .ref (a 7)])) := rfl
theorem pC_1_0 {a : Nat → Nat} {x : ClassId × ClassId × ClassId} {σ : ZS} {v : Int32} : (wC a x σ).set 1 (a 1, .inr (1, [.int (σ.1 0), .int (σ.1 1), .int (σ.1 2), .int (σ.1 3), .ref (a 7)].set 0 (.int v))) = wC a x (setI σ 0 v) := rfl
theorem pC_1_1 {a : Nat → Nat} {x : ClassId × ClassId × ClassId} {σ : ZS} {v : Int32} : (wC a x σ).set 1 (a 1, .inr (1, [.int (σ.1 0), .int (σ.1 1), .int (σ.1 2), .int (σ.1 3), .ref (a 7)].set 1 (.int v))) = wC a x (setI σ 1 v) := rfl
theorem pC_1_2 {a : Nat → Nat} {x : ClassId × ClassId × ClassId} {σ : ZS} {v : Int32} : (wC a x σ).set 1 (a 1, .inr (1, [.int (σ.1 0), .int (σ.1 1), .int (σ.1 2), .int (σ.1 3), .ref (a 7)].set 2 (.int v))) = wC a x (setI σ 2 v) := rfl
theorem pC_1_3 {a : Nat → Nat} {x : ClassId × ClassId × ClassId} {σ : ZS} {v : Int32} : (wC a x σ).set 1 (a 1, .inr (1, [.int (σ.1 0), .int (σ.1 1), .int (σ.1 2), .int (σ.1 3), .ref (a 7)].set 3 (.int v))) = wC a x (setI σ 3 v) := rfl
theorem gC_2 {a : Nat → Nat} {x : ClassId × ClassId × ClassId} {σ : ZS} : (wC a x σ)[2]? = some (a 2, .inr (2, [.int (σ.1 4), .ref (a 8)])) := rfl
theorem pC_2_0 {a : Nat → Nat} {x : ClassId × ClassId × ClassId} {σ : ZS} {v : Int32} : (wC a x σ).set 2 (a 2, .inr (2, [.int (σ.1 4), .ref (a 8)].set 0 (.int v))) = wC a x (setI σ 4 v) := rfl
theorem gC_3 {a : Nat → Nat} {x : ClassId × ClassId × ClassId} {σ : ZS} : (wC a x σ)[3]? = some (a 3, .inr (3, [.int (σ.1 5), .ref (a 9), .ref (a 10), .ref (a 11)])) := rfl
theorem pC_3_0 {a : Nat → Nat} {x : ClassId × ClassId × ClassId} {σ : ZS} {v : Int32} : (wC a x σ).set 3 (a 3, .inr (3, [.int (σ.1 5), .ref (a 9), .ref (a 10), .ref (a 11)].set 0 (.int v))) = wC a x (setI σ 5 v) := rfl
theorem gC_4 {a : Nat → Nat} {x : ClassId × ClassId × ClassId} {σ : ZS} : (wC a x σ)[4]? = some (a 4, .inr (4, [.ref (a 1), .ref (a 2), .ref (a 3), .ref (a 12), .ref (a 13), .int (σ.1 6)])) := rfl
theorem pC_4_5 {a : Nat → Nat} {x : ClassId × ClassId × ClassId} {σ : ZS} {v : Int32} : (wC a x σ).set 4 (a 4, .inr (4, [.ref (a 1), .ref (a 2), .ref (a 3), .ref (a 12), .ref (a 13), .int (σ.1 6)].set 5 (.int v))) = wC a x (setI σ 6 v) := rfl
theorem gC_5 {a : Nat → Nat} {x : ClassId × ClassId × ClassId} {σ : ZS} : (wC a x σ)[5]? = some (a 5, .inr (0, [.ref (a 1), .ref (a 2), .ref (a 3), .ref (a 4), .ref (a 14)])) := rfl
theorem gC_6 {a : Nat → Nat} {x : ClassId × ClassId × ClassId} {σ : ZS} : (wC a x σ)[6]? = some (a 6, .inl (x.1, 16, .inl (σ.2.1 6))) := rfl
theorem rC_6 {a : Nat → Nat} {x : ClassId × ClassId × ClassId} {σ : ZS} {f : Nat → Int32} : (wC a x σ).set 6 (a 6, .inl (x.1, 16, .inl f)) = wC a x (setR σ 6 f) := rfl
theorem uC_6 {a : Nat → Nat} {x : ClassId × ClassId × ClassId} {σ : ZS} {i : Nat} {v : Int32} : (wC a x σ).set 6 (a 6, .inl (x.1, 16, .inl (upd (σ.2.1 6) i v))) = wC a x (setA σ 6 i v) := rfl
theorem gC_7 {a : Nat → Nat} {x : ClassId × ClassId × ClassId} {σ : ZS} : (wC a x σ)[7]? = some (a 7, .inl (x.2.2, 10, .inr (.inr (.inr (.inr (fun j => if j < 10 then some (a (23 + j)) else none)))))) := rfl
theorem gC_8 {a : Nat → Nat} {x : ClassId × ClassId × ClassId} {σ : ZS} : (wC a x σ)[8]? = some (a 8, .inl (x.1, 128, .inl (σ.2.1 8))) := rfl
theorem rC_8 {a : Nat → Nat} {x : ClassId × ClassId × ClassId} {σ : ZS} {f : Nat → Int32} : (wC a x σ).set 8 (a 8, .inl (x.1, 128, .inl f)) = wC a x (setR σ 8 f) := rfl
theorem uC_8 {a : Nat → Nat} {x : ClassId × ClassId × ClassId} {σ : ZS} {i : Nat} {v : Int32} : (wC a x σ).set 8 (a 8, .inl (x.1, 128, .inl (upd (σ.2.1 8) i v))) = wC a x (setA σ 8 i v) := rfl
theorem gC_9 {a : Nat → Nat} {x : ClassId × ClassId × ClassId} {σ : ZS} : (wC a x σ)[9]? = some (a 9, .inl (x.1, 16, .inl (σ.2.1 9))) := rfl
theorem rC_9 {a : Nat → Nat} {x : ClassId × ClassId × ClassId} {σ : ZS} {f : Nat → Int32} : (wC a x σ).set 9 (a 9, .inl (x.1, 16, .inl f)) = wC a x (setR σ 9 f) := rfl
theorem uC_9 {a : Nat → Nat} {x : ClassId × ClassId × ClassId} {σ : ZS} {i : Nat} {v : Int32} : (wC a x σ).set 9 (a 9, .inl (x.1, 16, .inl (upd (σ.2.1 9) i v))) = wC a x (setA σ 9 i v) := rfl
theorem gC_10 {a : Nat → Nat} {x : ClassId × ClassId × ClassId} {σ : ZS} : (wC a x σ)[10]? = some (a 10, .inl (x.1, 16, .inl (σ.2.1 10))) := rfl
theorem rC_10 {a : Nat → Nat} {x : ClassId × ClassId × ClassId} {σ : ZS} {f : Nat → Int32} : (wC a x σ).set 10 (a 10, .inl (x.1, 16, .inl f)) = wC a x (setR σ 10 f) := rfl
theorem uC_10 {a : Nat → Nat} {x : ClassId × ClassId × ClassId} {σ : ZS} {i : Nat} {v : Int32} : (wC a x σ).set 10 (a 10, .inl (x.1, 16, .inl (upd (σ.2.1 10) i v))) = wC a x (setA σ 10 i v) := rfl
theorem gC_11 {a : Nat → Nat} {x : ClassId × ClassId × ClassId} {σ : ZS} : (wC a x σ)[11]? = some (a 11, .inl (x.1, 128, .inl (σ.2.1 11))) := rfl
theorem rC_11 {a : Nat → Nat} {x : ClassId × ClassId × ClassId} {σ : ZS} {f : Nat → Int32} : (wC a x σ).set 11 (a 11, .inl (x.1, 128, .inl f)) = wC a x (setR σ 11 f) := rfl
theorem uC_11 {a : Nat → Nat} {x : ClassId × ClassId × ClassId} {σ : ZS} {i : Nat} {v : Int32} : (wC a x σ).set 11 (a 11, .inl (x.1, 128, .inl (upd (σ.2.1 11) i v))) = wC a x (setA σ 11 i v) := rfl
theorem gC_12 {a : Nat → Nat} {x : ClassId × ClassId × ClassId} {σ : ZS} : (wC a x σ)[12]? = some (a 12, .inr (5, [.ref (a 15), .ref (a 16), .ref (a 17), .ref (a 18)])) := rfl
theorem gC_13 {a : Nat → Nat} {x : ClassId × ClassId × ClassId} {σ : ZS} : (wC a x σ)[13]? = some (a 13, .inr (5, [.ref (a 19), .ref (a 20), .ref (a 21), .ref (a 22)])) := rfl
theorem gC_14 {a : Nat → Nat} {x : ClassId × ClassId × ClassId} {σ : ZS} : (wC a x σ)[14]? = some (a 14, .inl (x.1, 10, .inl (σ.2.1 14))) := rfl
theorem rC_14 {a : Nat → Nat} {x : ClassId × ClassId × ClassId} {σ : ZS} {f : Nat → Int32} : (wC a x σ).set 14 (a 14, .inl (x.1, 10, .inl f)) = wC a x (setR σ 14 f) := rfl
theorem uC_14 {a : Nat → Nat} {x : ClassId × ClassId × ClassId} {σ : ZS} {i : Nat} {v : Int32} : (wC a x σ).set 14 (a 14, .inl (x.1, 10, .inl (upd (σ.2.1 14) i v))) = wC a x (setA σ 14 i v) := rfl
theorem gC_15 {a : Nat → Nat} {x : ClassId × ClassId × ClassId} {σ : ZS} : (wC a x σ)[15]? = some (a 15, .inl (x.2.1, 10, .inr (.inl (σ.2.2 15)))) := rfl
theorem rC_15 {a : Nat → Nat} {x : ClassId × ClassId × ClassId} {σ : ZS} {f : Nat → Int64} : (wC a x σ).set 15 (a 15, .inl (x.2.1, 10, .inr (.inl f))) = wC a x (setJ σ 15 f) := rfl
theorem uC_15 {a : Nat → Nat} {x : ClassId × ClassId × ClassId} {σ : ZS} {i : Nat} {v : Int64} : (wC a x σ).set 15 (a 15, .inl (x.2.1, 10, .inr (.inl (vp_updL (σ.2.2 15) i v)))) = wC a x (setL σ 15 i v) := rfl
theorem gC_16 {a : Nat → Nat} {x : ClassId × ClassId × ClassId} {σ : ZS} : (wC a x σ)[16]? = some (a 16, .inl (x.1, 10, .inl (σ.2.1 16))) := rfl
theorem rC_16 {a : Nat → Nat} {x : ClassId × ClassId × ClassId} {σ : ZS} {f : Nat → Int32} : (wC a x σ).set 16 (a 16, .inl (x.1, 10, .inl f)) = wC a x (setR σ 16 f) := rfl
theorem uC_16 {a : Nat → Nat} {x : ClassId × ClassId × ClassId} {σ : ZS} {i : Nat} {v : Int32} : (wC a x σ).set 16 (a 16, .inl (x.1, 10, .inl (upd (σ.2.1 16) i v))) = wC a x (setA σ 16 i v) := rfl
theorem gC_17 {a : Nat → Nat} {x : ClassId × ClassId × ClassId} {σ : ZS} : (wC a x σ)[17]? = some (a 17, .inl (x.1, 10, .inl (σ.2.1 17))) := rfl
theorem rC_17 {a : Nat → Nat} {x : ClassId × ClassId × ClassId} {σ : ZS} {f : Nat → Int32} : (wC a x σ).set 17 (a 17, .inl (x.1, 10, .inl f)) = wC a x (setR σ 17 f) := rfl
theorem uC_17 {a : Nat → Nat} {x : ClassId × ClassId × ClassId} {σ : ZS} {i : Nat} {v : Int32} : (wC a x σ).set 17 (a 17, .inl (x.1, 10, .inl (upd (σ.2.1 17) i v))) = wC a x (setA σ 17 i v) := rfl
theorem gC_18 {a : Nat → Nat} {x : ClassId × ClassId × ClassId} {σ : ZS} : (wC a x σ)[18]? = some (a 18, .inl (x.1, 10, .inl (σ.2.1 18))) := rfl
theorem rC_18 {a : Nat → Nat} {x : ClassId × ClassId × ClassId} {σ : ZS} {f : Nat → Int32} : (wC a x σ).set 18 (a 18, .inl (x.1, 10, .inl f)) = wC a x (setR σ 18 f) := rfl
theorem uC_18 {a : Nat → Nat} {x : ClassId × ClassId × ClassId} {σ : ZS} {i : Nat} {v : Int32} : (wC a x σ).set 18 (a 18, .inl (x.1, 10, .inl (upd (σ.2.1 18) i v))) = wC a x (setA σ 18 i v) := rfl
theorem gC_19 {a : Nat → Nat} {x : ClassId × ClassId × ClassId} {σ : ZS} : (wC a x σ)[19]? = some (a 19, .inl (x.2.1, 10, .inr (.inl (σ.2.2 19)))) := rfl
theorem rC_19 {a : Nat → Nat} {x : ClassId × ClassId × ClassId} {σ : ZS} {f : Nat → Int64} : (wC a x σ).set 19 (a 19, .inl (x.2.1, 10, .inr (.inl f))) = wC a x (setJ σ 19 f) := rfl
theorem uC_19 {a : Nat → Nat} {x : ClassId × ClassId × ClassId} {σ : ZS} {i : Nat} {v : Int64} : (wC a x σ).set 19 (a 19, .inl (x.2.1, 10, .inr (.inl (vp_updL (σ.2.2 19) i v)))) = wC a x (setL σ 19 i v) := rfl
theorem gC_20 {a : Nat → Nat} {x : ClassId × ClassId × ClassId} {σ : ZS} : (wC a x σ)[20]? = some (a 20, .inl (x.1, 10, .inl (σ.2.1 20))) := rfl
theorem rC_20 {a : Nat → Nat} {x : ClassId × ClassId × ClassId} {σ : ZS} {f : Nat → Int32} : (wC a x σ).set 20 (a 20, .inl (x.1, 10, .inl f)) = wC a x (setR σ 20 f) := rfl
theorem uC_20 {a : Nat → Nat} {x : ClassId × ClassId × ClassId} {σ : ZS} {i : Nat} {v : Int32} : (wC a x σ).set 20 (a 20, .inl (x.1, 10, .inl (upd (σ.2.1 20) i v))) = wC a x (setA σ 20 i v) := rfl
theorem gC_21 {a : Nat → Nat} {x : ClassId × ClassId × ClassId} {σ : ZS} : (wC a x σ)[21]? = some (a 21, .inl (x.1, 10, .inl (σ.2.1 21))) := rfl
theorem rC_21 {a : Nat → Nat} {x : ClassId × ClassId × ClassId} {σ : ZS} {f : Nat → Int32} : (wC a x σ).set 21 (a 21, .inl (x.1, 10, .inl f)) = wC a x (setR σ 21 f) := rfl
theorem uC_21 {a : Nat → Nat} {x : ClassId × ClassId × ClassId} {σ : ZS} {i : Nat} {v : Int32} : (wC a x σ).set 21 (a 21, .inl (x.1, 10, .inl (upd (σ.2.1 21) i v))) = wC a x (setA σ 21 i v) := rfl
theorem gC_22 {a : Nat → Nat} {x : ClassId × ClassId × ClassId} {σ : ZS} : (wC a x σ)[22]? = some (a 22, .inl (x.1, 10, .inl (σ.2.1 22))) := rfl
theorem rC_22 {a : Nat → Nat} {x : ClassId × ClassId × ClassId} {σ : ZS} {f : Nat → Int32} : (wC a x σ).set 22 (a 22, .inl (x.1, 10, .inl f)) = wC a x (setR σ 22 f) := rfl
theorem uC_22 {a : Nat → Nat} {x : ClassId × ClassId × ClassId} {σ : ZS} {i : Nat} {v : Int32} : (wC a x σ).set 22 (a 22, .inl (x.1, 10, .inl (upd (σ.2.1 22) i v))) = wC a x (setA σ 22 i v) := rfl
theorem gC_23 {a : Nat → Nat} {x : ClassId × ClassId × ClassId} {σ : ZS} : (wC a x σ)[23]? = some (a 23, .inl (x.1, 10, .inl (σ.2.1 23))) := rfl
theorem rC_23 {a : Nat → Nat} {x : ClassId × ClassId × ClassId} {σ : ZS} {f : Nat → Int32} : (wC a x σ).set 23 (a 23, .inl (x.1, 10, .inl f)) = wC a x (setR σ 23 f) := rfl
theorem uC_23 {a : Nat → Nat} {x : ClassId × ClassId × ClassId} {σ : ZS} {i : Nat} {v : Int32} : (wC a x σ).set 23 (a 23, .inl (x.1, 10, .inl (upd (σ.2.1 23) i v))) = wC a x (setA σ 23 i v) := rfl
theorem gC_24 {a : Nat → Nat} {x : ClassId × ClassId × ClassId} {σ : ZS} : (wC a x σ)[24]? = some (a 24, .inl (x.1, 10, .inl (σ.2.1 24))) := rfl
theorem rC_24 {a : Nat → Nat} {x : ClassId × ClassId × ClassId} {σ : ZS} {f : Nat → Int32} : (wC a x σ).set 24 (a 24, .inl (x.1, 10, .inl f)) = wC a x (setR σ 24 f) := rfl
theorem uC_24 {a : Nat → Nat} {x : ClassId × ClassId × ClassId} {σ : ZS} {i : Nat} {v : Int32} : (wC a x σ).set 24 (a 24, .inl (x.1, 10, .inl (upd (σ.2.1 24) i v))) = wC a x (setA σ 24 i v) := rfl
theorem gC_25 {a : Nat → Nat} {x : ClassId × ClassId × ClassId} {σ : ZS} : (wC a x σ)[25]? = some (a 25, .inl (x.1, 10, .inl (σ.2.1 25))) := rfl
theorem rC_25 {a : Nat → Nat} {x : ClassId × ClassId × ClassId} {σ : ZS} {f : Nat → Int32} : (wC a x σ).set 25 (a 25, .inl (x.1, 10, .inl f)) = wC a x (setR σ 25 f) := rfl
theorem uC_25 {a : Nat → Nat} {x : ClassId × ClassId × ClassId} {σ : ZS} {i : Nat} {v : Int32} : (wC a x σ).set 25 (a 25, .inl (x.1, 10, .inl (upd (σ.2.1 25) i v))) = wC a x (setA σ 25 i v) := rfl
theorem gC_26 {a : Nat → Nat} {x : ClassId × ClassId × ClassId} {σ : ZS} : (wC a x σ)[26]? = some (a 26, .inl (x.1, 10, .inl (σ.2.1 26))) := rfl
theorem rC_26 {a : Nat → Nat} {x : ClassId × ClassId × ClassId} {σ : ZS} {f : Nat → Int32} : (wC a x σ).set 26 (a 26, .inl (x.1, 10, .inl f)) = wC a x (setR σ 26 f) := rfl
theorem uC_26 {a : Nat → Nat} {x : ClassId × ClassId × ClassId} {σ : ZS} {i : Nat} {v : Int32} : (wC a x σ).set 26 (a 26, .inl (x.1, 10, .inl (upd (σ.2.1 26) i v))) = wC a x (setA σ 26 i v) := rfl
theorem gC_27 {a : Nat → Nat} {x : ClassId × ClassId × ClassId} {σ : ZS} : (wC a x σ)[27]? = some (a 27, .inl (x.1, 10, .inl (σ.2.1 27))) := rfl
theorem rC_27 {a : Nat → Nat} {x : ClassId × ClassId × ClassId} {σ : ZS} {f : Nat → Int32} : (wC a x σ).set 27 (a 27, .inl (x.1, 10, .inl f)) = wC a x (setR σ 27 f) := rfl
theorem uC_27 {a : Nat → Nat} {x : ClassId × ClassId × ClassId} {σ : ZS} {i : Nat} {v : Int32} : (wC a x σ).set 27 (a 27, .inl (x.1, 10, .inl (upd (σ.2.1 27) i v))) = wC a x (setA σ 27 i v) := rfl
theorem gC_28 {a : Nat → Nat} {x : ClassId × ClassId × ClassId} {σ : ZS} : (wC a x σ)[28]? = some (a 28, .inl (x.1, 10, .inl (σ.2.1 28))) := rfl
theorem rC_28 {a : Nat → Nat} {x : ClassId × ClassId × ClassId} {σ : ZS} {f : Nat → Int32} : (wC a x σ).set 28 (a 28, .inl (x.1, 10, .inl f)) = wC a x (setR σ 28 f) := rfl
theorem uC_28 {a : Nat → Nat} {x : ClassId × ClassId × ClassId} {σ : ZS} {i : Nat} {v : Int32} : (wC a x σ).set 28 (a 28, .inl (x.1, 10, .inl (upd (σ.2.1 28) i v))) = wC a x (setA σ 28 i v) := rfl
theorem gC_29 {a : Nat → Nat} {x : ClassId × ClassId × ClassId} {σ : ZS} : (wC a x σ)[29]? = some (a 29, .inl (x.1, 10, .inl (σ.2.1 29))) := rfl
theorem rC_29 {a : Nat → Nat} {x : ClassId × ClassId × ClassId} {σ : ZS} {f : Nat → Int32} : (wC a x σ).set 29 (a 29, .inl (x.1, 10, .inl f)) = wC a x (setR σ 29 f) := rfl
theorem uC_29 {a : Nat → Nat} {x : ClassId × ClassId × ClassId} {σ : ZS} {i : Nat} {v : Int32} : (wC a x σ).set 29 (a 29, .inl (x.1, 10, .inl (upd (σ.2.1 29) i v))) = wC a x (setA σ 29 i v) := rfl
theorem gC_30 {a : Nat → Nat} {x : ClassId × ClassId × ClassId} {σ : ZS} : (wC a x σ)[30]? = some (a 30, .inl (x.1, 10, .inl (σ.2.1 30))) := rfl
theorem rC_30 {a : Nat → Nat} {x : ClassId × ClassId × ClassId} {σ : ZS} {f : Nat → Int32} : (wC a x σ).set 30 (a 30, .inl (x.1, 10, .inl f)) = wC a x (setR σ 30 f) := rfl
theorem uC_30 {a : Nat → Nat} {x : ClassId × ClassId × ClassId} {σ : ZS} {i : Nat} {v : Int32} : (wC a x σ).set 30 (a 30, .inl (x.1, 10, .inl (upd (σ.2.1 30) i v))) = wC a x (setA σ 30 i v) := rfl
theorem gC_31 {a : Nat → Nat} {x : ClassId × ClassId × ClassId} {σ : ZS} : (wC a x σ)[31]? = some (a 31, .inl (x.1, 10, .inl (σ.2.1 31))) := rfl
theorem rC_31 {a : Nat → Nat} {x : ClassId × ClassId × ClassId} {σ : ZS} {f : Nat → Int32} : (wC a x σ).set 31 (a 31, .inl (x.1, 10, .inl f)) = wC a x (setR σ 31 f) := rfl
theorem uC_31 {a : Nat → Nat} {x : ClassId × ClassId × ClassId} {σ : ZS} {i : Nat} {v : Int32} : (wC a x σ).set 31 (a 31, .inl (x.1, 10, .inl (upd (σ.2.1 31) i v))) = wC a x (setA σ 31 i v) := rfl
theorem gC_32 {a : Nat → Nat} {x : ClassId × ClassId × ClassId} {σ : ZS} : (wC a x σ)[32]? = some (a 32, .inl (x.1, 10, .inl (σ.2.1 32))) := rfl
theorem rC_32 {a : Nat → Nat} {x : ClassId × ClassId × ClassId} {σ : ZS} {f : Nat → Int32} : (wC a x σ).set 32 (a 32, .inl (x.1, 10, .inl f)) = wC a x (setR σ 32 f) := rfl
theorem uC_32 {a : Nat → Nat} {x : ClassId × ClassId × ClassId} {σ : ZS} {i : Nat} {v : Int32} : (wC a x σ).set 32 (a 32, .inl (x.1, 10, .inl (upd (σ.2.1 32) i v))) = wC a x (setA σ 32 i v) := rfl
def wM (a : Nat → Nat) (x : ClassId × ClassId × ClassId) (σ : ZS) : va_W := [(a 0, .inr (7, [.int (σ.1 0), .ref (a 1), .int (σ.1 1), .ref (a 2), .ref (a 3), .ref (a 4), .int (σ.1 2), .ref (a 5), .ref (a 6), .ref (a 7), .int (σ.1 3), .int (σ.1 4), .ref (a 8), .ref (a 9), .ref (a 10), .ref (a 11), .int (σ.1 5), .int (σ.1 6), .ref (a 12), .ref (a 13)])), (a 1, .inl (x.1, 100, .inl (σ.2.1 1))), (a 2, .inl (x.1, 12, .inl (σ.2.1 2))), (a 3, .inl (x.1, 12, .inl (σ.2.1 3))), (a 4, .inl (x.1, 12, .inl (σ.2.1 4))), (a 5, .inl (x.1, 18, .inl (σ.2.1 5))), (a 6, .inl (x.1, 18, .inl (σ.2.1 6))), (a 7, .inl (x.1, 18, .inl (σ.2.1 7))), (a 8, .inl (x.1, 100, .inl (σ.2.1 8))), (a 9, .inl (x.1, 10, .inl (σ.2.1 9))), (a 10, .inl (x.1, 100, .inl (σ.2.1 10))), (a 11, .inl (x.1, 10, .inl (σ.2.1 11))), (a 12, .inl (x.1, 70, .inl (σ.2.1 12))), (a 13, .inl (x.1, 16, .inl (σ.2.1 13)))]
theorem gM_0 {a : Nat → Nat} {x : ClassId × ClassId × ClassId} {σ : ZS} : (wM a x σ)[0]? = some (a 0, .inr (7, [.int (σ.1 0), .ref (a 1), .int (σ.1 1), .ref (a 2), .ref (a 3), .ref (a 4), .int (σ.1 2), .ref (a 5), .ref (a 6), .ref (a 7), .int (σ.1 3), .int (σ.1 4), .ref (a 8), .ref (a 9), .ref (a 10), .ref (a 11), .int (σ.1 5), .int (σ.1 6), .ref (a 12), .ref (a 13)])) := rfl
theorem pM_0_0 {a : Nat → Nat} {x : ClassId × ClassId × ClassId} {σ : ZS} {v : Int32} : (wM a x σ).set 0 (a 0, .inr (7, [.int (σ.1 0), .ref (a 1), .int (σ.1 1), .ref (a 2), .ref (a 3), .ref (a 4), .int (σ.1 2), .ref (a 5), .ref (a 6), .ref (a 7), .int (σ.1 3), .int (σ.1 4), .ref (a 8), .ref (a 9), .ref (a 10), .ref (a 11), .int (σ.1 5), .int (σ.1 6), .ref (a 12), .ref (a 13)].set 0 (.int v))) = wM a x (setI σ 0 v) := rfl
theorem pM_0_2 {a : Nat → Nat} {x : ClassId × ClassId × ClassId} {σ : ZS} {v : Int32} : (wM a x σ).set 0 (a 0, .inr (7, [.int (σ.1 0), .ref (a 1), .int (σ.1 1), .ref (a 2), .ref (a 3), .ref (a 4), .int (σ.1 2), .ref (a 5), .ref (a 6), .ref (a 7), .int (σ.1 3), .int (σ.1 4), .ref (a 8), .ref (a 9), .ref (a 10), .ref (a 11), .int (σ.1 5), .int (σ.1 6), .ref (a 12), .ref (a 13)].set 2 (.int v))) = wM a x (setI σ 1 v) := rfl
theorem pM_0_6 {a : Nat → Nat} {x : ClassId × ClassId × ClassId} {σ : ZS} {v : Int32} : (wM a x σ).set 0 (a 0, .inr (7, [.int (σ.1 0), .ref (a 1), .int (σ.1 1), .ref (a 2), .ref (a 3), .ref (a 4), .int (σ.1 2), .ref (a 5), .ref (a 6), .ref (a 7), .int (σ.1 3), .int (σ.1 4), .ref (a 8), .ref (a 9), .ref (a 10), .ref (a 11), .int (σ.1 5), .int (σ.1 6), .ref (a 12), .ref (a 13)].set 6 (.int v))) = wM a x (setI σ 2 v) := rfl
theorem pM_0_10 {a : Nat → Nat} {x : ClassId × ClassId × ClassId} {σ : ZS} {v : Int32} : (wM a x σ).set 0 (a 0, .inr (7, [.int (σ.1 0), .ref (a 1), .int (σ.1 1), .ref (a 2), .ref (a 3), .ref (a 4), .int (σ.1 2), .ref (a 5), .ref (a 6), .ref (a 7), .int (σ.1 3), .int (σ.1 4), .ref (a 8), .ref (a 9), .ref (a 10), .ref (a 11), .int (σ.1 5), .int (σ.1 6), .ref (a 12), .ref (a 13)].set 10 (.int v))) = wM a x (setI σ 3 v) := rfl
theorem pM_0_11 {a : Nat → Nat} {x : ClassId × ClassId × ClassId} {σ : ZS} {v : Int32} : (wM a x σ).set 0 (a 0, .inr (7, [.int (σ.1 0), .ref (a 1), .int (σ.1 1), .ref (a 2), .ref (a 3), .ref (a 4), .int (σ.1 2), .ref (a 5), .ref (a 6), .ref (a 7), .int (σ.1 3), .int (σ.1 4), .ref (a 8), .ref (a 9), .ref (a 10), .ref (a 11), .int (σ.1 5), .int (σ.1 6), .ref (a 12), .ref (a 13)].set 11 (.int v))) = wM a x (setI σ 4 v) := rfl
theorem pM_0_16 {a : Nat → Nat} {x : ClassId × ClassId × ClassId} {σ : ZS} {v : Int32} : (wM a x σ).set 0 (a 0, .inr (7, [.int (σ.1 0), .ref (a 1), .int (σ.1 1), .ref (a 2), .ref (a 3), .ref (a 4), .int (σ.1 2), .ref (a 5), .ref (a 6), .ref (a 7), .int (σ.1 3), .int (σ.1 4), .ref (a 8), .ref (a 9), .ref (a 10), .ref (a 11), .int (σ.1 5), .int (σ.1 6), .ref (a 12), .ref (a 13)].set 16 (.int v))) = wM a x (setI σ 5 v) := rfl
theorem pM_0_17 {a : Nat → Nat} {x : ClassId × ClassId × ClassId} {σ : ZS} {v : Int32} : (wM a x σ).set 0 (a 0, .inr (7, [.int (σ.1 0), .ref (a 1), .int (σ.1 1), .ref (a 2), .ref (a 3), .ref (a 4), .int (σ.1 2), .ref (a 5), .ref (a 6), .ref (a 7), .int (σ.1 3), .int (σ.1 4), .ref (a 8), .ref (a 9), .ref (a 10), .ref (a 11), .int (σ.1 5), .int (σ.1 6), .ref (a 12), .ref (a 13)].set 17 (.int v))) = wM a x (setI σ 6 v) := rfl
theorem gM_1 {a : Nat → Nat} {x : ClassId × ClassId × ClassId} {σ : ZS} : (wM a x σ)[1]? = some (a 1, .inl (x.1, 100, .inl (σ.2.1 1))) := rfl
theorem rM_1 {a : Nat → Nat} {x : ClassId × ClassId × ClassId} {σ : ZS} {f : Nat → Int32} : (wM a x σ).set 1 (a 1, .inl (x.1, 100, .inl f)) = wM a x (setR σ 1 f) := rfl
theorem uM_1 {a : Nat → Nat} {x : ClassId × ClassId × ClassId} {σ : ZS} {i : Nat} {v : Int32} : (wM a x σ).set 1 (a 1, .inl (x.1, 100, .inl (upd (σ.2.1 1) i v))) = wM a x (setA σ 1 i v) := rfl
theorem gM_2 {a : Nat → Nat} {x : ClassId × ClassId × ClassId} {σ : ZS} : (wM a x σ)[2]? = some (a 2, .inl (x.1, 12, .inl (σ.2.1 2))) := rfl
theorem rM_2 {a : Nat → Nat} {x : ClassId × ClassId × ClassId} {σ : ZS} {f : Nat → Int32} : (wM a x σ).set 2 (a 2, .inl (x.1, 12, .inl f)) = wM a x (setR σ 2 f) := rfl
theorem uM_2 {a : Nat → Nat} {x : ClassId × ClassId × ClassId} {σ : ZS} {i : Nat} {v : Int32} : (wM a x σ).set 2 (a 2, .inl (x.1, 12, .inl (upd (σ.2.1 2) i v))) = wM a x (setA σ 2 i v) := rfl
theorem gM_3 {a : Nat → Nat} {x : ClassId × ClassId × ClassId} {σ : ZS} : (wM a x σ)[3]? = some (a 3, .inl (x.1, 12, .inl (σ.2.1 3))) := rfl
theorem rM_3 {a : Nat → Nat} {x : ClassId × ClassId × ClassId} {σ : ZS} {f : Nat → Int32} : (wM a x σ).set 3 (a 3, .inl (x.1, 12, .inl f)) = wM a x (setR σ 3 f) := rfl
theorem uM_3 {a : Nat → Nat} {x : ClassId × ClassId × ClassId} {σ : ZS} {i : Nat} {v : Int32} : (wM a x σ).set 3 (a 3, .inl (x.1, 12, .inl (upd (σ.2.1 3) i v))) = wM a x (setA σ 3 i v) := rfl
theorem gM_4 {a : Nat → Nat} {x : ClassId × ClassId × ClassId} {σ : ZS} : (wM a x σ)[4]? = some (a 4, .inl (x.1, 12, .inl (σ.2.1 4))) := rfl
theorem rM_4 {a : Nat → Nat} {x : ClassId × ClassId × ClassId} {σ : ZS} {f : Nat → Int32} : (wM a x σ).set 4 (a 4, .inl (x.1, 12, .inl f)) = wM a x (setR σ 4 f) := rfl
theorem uM_4 {a : Nat → Nat} {x : ClassId × ClassId × ClassId} {σ : ZS} {i : Nat} {v : Int32} : (wM a x σ).set 4 (a 4, .inl (x.1, 12, .inl (upd (σ.2.1 4) i v))) = wM a x (setA σ 4 i v) := rfl
theorem gM_5 {a : Nat → Nat} {x : ClassId × ClassId × ClassId} {σ : ZS} : (wM a x σ)[5]? = some (a 5, .inl (x.1, 18, .inl (σ.2.1 5))) := rfl
theorem rM_5 {a : Nat → Nat} {x : ClassId × ClassId × ClassId} {σ : ZS} {f : Nat → Int32} : (wM a x σ).set 5 (a 5, .inl (x.1, 18, .inl f)) = wM a x (setR σ 5 f) := rfl
theorem uM_5 {a : Nat → Nat} {x : ClassId × ClassId × ClassId} {σ : ZS} {i : Nat} {v : Int32} : (wM a x σ).set 5 (a 5, .inl (x.1, 18, .inl (upd (σ.2.1 5) i v))) = wM a x (setA σ 5 i v) := rfl
theorem gM_6 {a : Nat → Nat} {x : ClassId × ClassId × ClassId} {σ : ZS} : (wM a x σ)[6]? = some (a 6, .inl (x.1, 18, .inl (σ.2.1 6))) := rfl
theorem rM_6 {a : Nat → Nat} {x : ClassId × ClassId × ClassId} {σ : ZS} {f : Nat → Int32} : (wM a x σ).set 6 (a 6, .inl (x.1, 18, .inl f)) = wM a x (setR σ 6 f) := rfl
theorem uM_6 {a : Nat → Nat} {x : ClassId × ClassId × ClassId} {σ : ZS} {i : Nat} {v : Int32} : (wM a x σ).set 6 (a 6, .inl (x.1, 18, .inl (upd (σ.2.1 6) i v))) = wM a x (setA σ 6 i v) := rfl
theorem gM_7 {a : Nat → Nat} {x : ClassId × ClassId × ClassId} {σ : ZS} : (wM a x σ)[7]? = some (a 7, .inl (x.1, 18, .inl (σ.2.1 7))) := rfl
theorem rM_7 {a : Nat → Nat} {x : ClassId × ClassId × ClassId} {σ : ZS} {f : Nat → Int32} : (wM a x σ).set 7 (a 7, .inl (x.1, 18, .inl f)) = wM a x (setR σ 7 f) := rfl
theorem uM_7 {a : Nat → Nat} {x : ClassId × ClassId × ClassId} {σ : ZS} {i : Nat} {v : Int32} : (wM a x σ).set 7 (a 7, .inl (x.1, 18, .inl (upd (σ.2.1 7) i v))) = wM a x (setA σ 7 i v) := rfl
theorem gM_8 {a : Nat → Nat} {x : ClassId × ClassId × ClassId} {σ : ZS} : (wM a x σ)[8]? = some (a 8, .inl (x.1, 100, .inl (σ.2.1 8))) := rfl
theorem rM_8 {a : Nat → Nat} {x : ClassId × ClassId × ClassId} {σ : ZS} {f : Nat → Int32} : (wM a x σ).set 8 (a 8, .inl (x.1, 100, .inl f)) = wM a x (setR σ 8 f) := rfl
theorem uM_8 {a : Nat → Nat} {x : ClassId × ClassId × ClassId} {σ : ZS} {i : Nat} {v : Int32} : (wM a x σ).set 8 (a 8, .inl (x.1, 100, .inl (upd (σ.2.1 8) i v))) = wM a x (setA σ 8 i v) := rfl
theorem gM_9 {a : Nat → Nat} {x : ClassId × ClassId × ClassId} {σ : ZS} : (wM a x σ)[9]? = some (a 9, .inl (x.1, 10, .inl (σ.2.1 9))) := rfl
theorem rM_9 {a : Nat → Nat} {x : ClassId × ClassId × ClassId} {σ : ZS} {f : Nat → Int32} : (wM a x σ).set 9 (a 9, .inl (x.1, 10, .inl f)) = wM a x (setR σ 9 f) := rfl
theorem uM_9 {a : Nat → Nat} {x : ClassId × ClassId × ClassId} {σ : ZS} {i : Nat} {v : Int32} : (wM a x σ).set 9 (a 9, .inl (x.1, 10, .inl (upd (σ.2.1 9) i v))) = wM a x (setA σ 9 i v) := rfl
theorem gM_10 {a : Nat → Nat} {x : ClassId × ClassId × ClassId} {σ : ZS} : (wM a x σ)[10]? = some (a 10, .inl (x.1, 100, .inl (σ.2.1 10))) := rfl
theorem rM_10 {a : Nat → Nat} {x : ClassId × ClassId × ClassId} {σ : ZS} {f : Nat → Int32} : (wM a x σ).set 10 (a 10, .inl (x.1, 100, .inl f)) = wM a x (setR σ 10 f) := rfl
theorem uM_10 {a : Nat → Nat} {x : ClassId × ClassId × ClassId} {σ : ZS} {i : Nat} {v : Int32} : (wM a x σ).set 10 (a 10, .inl (x.1, 100, .inl (upd (σ.2.1 10) i v))) = wM a x (setA σ 10 i v) := rfl
theorem gM_11 {a : Nat → Nat} {x : ClassId × ClassId × ClassId} {σ : ZS} : (wM a x σ)[11]? = some (a 11, .inl (x.1, 10, .inl (σ.2.1 11))) := rfl
theorem rM_11 {a : Nat → Nat} {x : ClassId × ClassId × ClassId} {σ : ZS} {f : Nat → Int32} : (wM a x σ).set 11 (a 11, .inl (x.1, 10, .inl f)) = wM a x (setR σ 11 f) := rfl
theorem uM_11 {a : Nat → Nat} {x : ClassId × ClassId × ClassId} {σ : ZS} {i : Nat} {v : Int32} : (wM a x σ).set 11 (a 11, .inl (x.1, 10, .inl (upd (σ.2.1 11) i v))) = wM a x (setA σ 11 i v) := rfl
theorem gM_12 {a : Nat → Nat} {x : ClassId × ClassId × ClassId} {σ : ZS} : (wM a x σ)[12]? = some (a 12, .inl (x.1, 70, .inl (σ.2.1 12))) := rfl
theorem rM_12 {a : Nat → Nat} {x : ClassId × ClassId × ClassId} {σ : ZS} {f : Nat → Int32} : (wM a x σ).set 12 (a 12, .inl (x.1, 70, .inl f)) = wM a x (setR σ 12 f) := rfl
theorem uM_12 {a : Nat → Nat} {x : ClassId × ClassId × ClassId} {σ : ZS} {i : Nat} {v : Int32} : (wM a x σ).set 12 (a 12, .inl (x.1, 70, .inl (upd (σ.2.1 12) i v))) = wM a x (setA σ 12 i v) := rfl
theorem gM_13 {a : Nat → Nat} {x : ClassId × ClassId × ClassId} {σ : ZS} : (wM a x σ)[13]? = some (a 13, .inl (x.1, 16, .inl (σ.2.1 13))) := rfl
theorem rM_13 {a : Nat → Nat} {x : ClassId × ClassId × ClassId} {σ : ZS} {f : Nat → Int32} : (wM a x σ).set 13 (a 13, .inl (x.1, 16, .inl f)) = wM a x (setR σ 13 f) := rfl
theorem uM_13 {a : Nat → Nat} {x : ClassId × ClassId × ClassId} {σ : ZS} {i : Nat} {v : Int32} : (wM a x σ).set 13 (a 13, .inl (x.1, 16, .inl (upd (σ.2.1 13) i v))) = wM a x (setA σ 13 i v) := rfl
theorem gC_row {a : Nat → Nat} {x : ClassId × ClassId × ClassId} {σ : ZS} {i : Nat} (h : i < 10) : (wC a x σ)[23 + i]? = some (a (23 + i), .inl (x.1, 10, .inl (σ.2.1 (23 + i)))) := by
  match i, h with
  | 0, _ => rfl
  | 1, _ => rfl
  | 2, _ => rfl
  | 3, _ => rfl
  | 4, _ => rfl
  | 5, _ => rfl
  | 6, _ => rfl
  | 7, _ => rfl
  | 8, _ => rfl
  | 9, _ => rfl
  | n + 10, h => exact absurd h (by omega)
theorem uC_row {a : Nat → Nat} {x : ClassId × ClassId × ClassId} {σ : ZS} {i j : Nat} {v : Int32} (h : i < 10) : (wC a x σ).set (23 + i) (a (23 + i), .inl (x.1, 10, .inl (upd (σ.2.1 (23 + i)) j v))) = wC a x (setA σ (23 + i) j v) := by
  match i, h with
  | 0, _ => rfl
  | 1, _ => rfl
  | 2, _ => rfl
  | 3, _ => rfl
  | 4, _ => rfl
  | 5, _ => rfl
  | 6, _ => rfl
  | 7, _ => rfl
  | 8, _ => rfl
  | 9, _ => rfl
  | n + 10, h => exact absurd h (by omega)
section ZC
variable {p : Program} {l : Launch} {e : Env} {R : Room} {s : State} {m : MethodId} {args : Array Value} {below : List Frame} {meth : Method} {c : Code} {cells slots : Nat} {Q : State → Prop} {D : va_G} {A : Nat → Prop} {tys : List (ClassId × FieldType)} {own : String} {cc : ByteArray} {nL : Nat}
variable {ws ws' : va_W} {pc : Nat} {lv : List (Nat × Value)} {st0 : List Value}
theorem z_callV1 (C : zx_C p s m args c D tys own cc nL) (As rest : List Value) {v : Value} {a ci q0 : Nat} {fs : List Value} {T : u_T} {N : Nat} {y : MethodName} {bytes : ByteArray} {maxL index n : Nat} {ret : Option FieldType} {rm : Room} (hst : As.reverse ++ .ref a :: rest = st0) (hM : zM l y (.code y bytes maxL ret) rm D A tys (.ref a :: As) ws (some v) ws') (hcd : Cond.code y bytes maxL ret ∈ gtbl) (hini : Cond.initialized y.cls ∈ gtbl) (hlk : Cond.methodLink own index y ∈ gtbl) (him : Cond.instanceMethod y ∈ gtbl) (hsl : Cond.selects y.cls y y ∈ gtbl) (he : ws[q0]? = some (a, .inr (ci, fs))) (hc : clz[ci]? = some (y.cls, T, N)) (hd : y.cls ≠ "java/lang/invoke/MethodHandle" ∧ y.cls ≠ "java/lang/invoke/VarHandle" ∧ (parseMethodDescriptor y.desc).map (fun d => d.parameters.length) = some n) (hR : (rm.frames + 1 ≤ R.frames ∧ 8 + (maxL + 11) + rm.locals ≤ R.locals) ∧ rm.cells = 0 ∧ rm.slots = 0) (hn : As.length = n) (hW : (rest.map fun v => v.category).sum ≤ 8) (hf : cells ≤ R.cells ∧ slots ≤ R.slots) (d : decode cc pc = .ok (.invokevirtual index, 3)) (k : zV p l e R s m args below meth c cells slots Q D A nL ws' (pc + 3) lv (v :: rest)) : zV p l e R s m args below meth c cells slots Q D A nL ws pc lv st0 := by
  subst hst
  exact z_callV (ov := (some v)) (As := As) (rest := rest) C hM hcd hini hlk him hsl he hc hd hR hn hW hf d k
theorem z_callV0 (C : zx_C p s m args c D tys own cc nL) (As rest : List Value)  {a ci q0 : Nat} {fs : List Value} {T : u_T} {N : Nat} {y : MethodName} {bytes : ByteArray} {maxL index n : Nat} {ret : Option FieldType} {rm : Room} (hst : As.reverse ++ .ref a :: rest = st0) (hM : zM l y (.code y bytes maxL ret) rm D A tys (.ref a :: As) ws none ws') (hcd : Cond.code y bytes maxL ret ∈ gtbl) (hini : Cond.initialized y.cls ∈ gtbl) (hlk : Cond.methodLink own index y ∈ gtbl) (him : Cond.instanceMethod y ∈ gtbl) (hsl : Cond.selects y.cls y y ∈ gtbl) (he : ws[q0]? = some (a, .inr (ci, fs))) (hc : clz[ci]? = some (y.cls, T, N)) (hd : y.cls ≠ "java/lang/invoke/MethodHandle" ∧ y.cls ≠ "java/lang/invoke/VarHandle" ∧ (parseMethodDescriptor y.desc).map (fun d => d.parameters.length) = some n) (hR : (rm.frames + 1 ≤ R.frames ∧ 8 + (maxL + 11) + rm.locals ≤ R.locals) ∧ rm.cells = 0 ∧ rm.slots = 0) (hn : As.length = n) (hW : (rest.map fun v => v.category).sum ≤ 8) (hf : cells ≤ R.cells ∧ slots ≤ R.slots) (d : decode cc pc = .ok (.invokevirtual index, 3)) (k : zV p l e R s m args below meth c cells slots Q D A nL ws' (pc + 3) lv rest) : zV p l e R s m args below meth c cells slots Q D A nL ws pc lv st0 := by
  subst hst
  exact z_callV (ov := none) (As := As) (rest := rest) C hM hcd hini hlk him hsl he hc hd hR hn hW hf d k
theorem z_callS1 (C : zx_C p s m args c D tys own cc nL) (As rest : List Value) {v : Value} {y : MethodName} {bytes : ByteArray} {maxL index n : Nat} {ret : Option FieldType} {rm : Room}  (hst : As.reverse ++ rest = st0) (hM : zM l y (.code y bytes maxL ret) rm D A tys As ws (some v) ws') (hcd : Cond.code y bytes maxL ret ∈ gtbl) (hini : Cond.initialized y.cls ∈ gtbl) (hlk : Cond.methodLink own index y ∈ gtbl) (hs : Cond.static y ∈ gtbl) (hd : y.cls ≠ "java/lang/invoke/MethodHandle" ∧ y.cls ≠ "java/lang/invoke/VarHandle" ∧ (parseMethodDescriptor y.desc).map (fun d => d.parameters.length) = some n) (hR : (rm.frames + 1 ≤ R.frames ∧ 8 + (maxL + 11) + rm.locals ≤ R.locals) ∧ rm.cells = 0 ∧ rm.slots = 0) (hn : As.length = n) (hW : (rest.map fun v => v.category).sum ≤ 8) (hf : cells ≤ R.cells ∧ slots ≤ R.slots) (d : decode cc pc = .ok (.invokestatic index, 3)) (k : zV p l e R s m args below meth c cells slots Q D A nL ws' (pc + 3) lv (v :: rest)) : zV p l e R s m args below meth c cells slots Q D A nL ws pc lv st0 := by
  subst hst
  exact z_callS (ov := some v) (As := As) (rest := rest) C hM hcd hini hlk hs hd hR hn hW hf d k
theorem z_callSN1 (C : zx_C p s m args c D tys own cc nL) (As rest : List Value) {v : Value} {y : MethodName} {bytes : ByteArray} {maxL index n : Nat} {ret : Option FieldType} {rm : Room} {host : String} (j : Nat) (hst : As.reverse ++ rest = st0) (hM : zM l y (.code y bytes maxL ret) rm D A tys As ws (some v) ws') (hcd : Cond.code y bytes maxL ret ∈ gtbl) (hini : Cond.initialized y.cls ∈ gtbl) (hlk : nqs[j]? = some (own, index, y, host)) (hs : Cond.static y ∈ gtbl) (hd : y.cls ≠ "java/lang/invoke/MethodHandle" ∧ y.cls ≠ "java/lang/invoke/VarHandle" ∧ (parseMethodDescriptor y.desc).map (fun d => d.parameters.length) = some n) (hR : (rm.frames + 1 ≤ R.frames ∧ 8 + (maxL + 11) + rm.locals ≤ R.locals) ∧ rm.cells = 0 ∧ rm.slots = 0) (hn : As.length = n) (hW : (rest.map fun v => v.category).sum ≤ 8) (hf : cells ≤ R.cells ∧ slots ≤ R.slots) (d : decode cc pc = .ok (.invokestatic index, 3)) (k : zV p l e R s m args below meth c cells slots Q D A nL ws' (pc + 3) lv (v :: rest)) : zV p l e R s m args below meth c cells slots Q D A nL ws pc lv st0 := by
  subst hst
  exact z_callSN (ov := some v) (As := As) (rest := rest) C j hM hcd hini hlk hs hd hR hn hW hf d k
end ZC
end
section
def zF : Nat := 3000
theorem zx_outN {x : Int32} {n : Nat} (hn : n < 2 ^ 31) (h : ∀ k : Nat, k < n → ¬ x = nI k) : x.toInt < 0 ∨ (n : Int) - 1 < x.toInt := by
  by_cases h0 : x < 0
  · exact Or.inl (by simpa [Int32.lt_iff_toInt_lt] using h0)
  · obtain ⟨j, hj, rfl⟩ := nI_of h0
    refine Or.inr ?_
    rw [nI_toInt hj]
    by_cases hjn : j < n
    · exact absurd rfl (h j hjn)
    · omega
theorem zx_out5 {x : Int32} (h0 : ¬ x = 0) (h1 : ¬ x = 1) (h2 : ¬ x = 2) (h3 : ¬ x = 3) (h4 : ¬ x = 4) : x.toInt < 0 ∨ (4 : Int) < x.toInt := zx_outN (n := 5) (by decide) (fun k hk => by
  match k, hk with
  | 0, _ => exact h0
  | 1, _ => exact h1
  | 2, _ => exact h2
  | 3, _ => exact h3
  | 4, _ => exact h4
  | n + 5, h => exact absurd h (by omega))
theorem zx_out6 {x : Int32} (h0 : ¬ x = 0) (h1 : ¬ x = 1) (h2 : ¬ x = 2) (h3 : ¬ x = 3) (h4 : ¬ x = 4) (h5 : ¬ x = 5) : x.toInt < 0 ∨ (5 : Int) < x.toInt := zx_outN (n := 6) (by decide) (fun k hk => by
  match k, hk with
  | 0, _ => exact h0
  | 1, _ => exact h1
  | 2, _ => exact h2
  | 3, _ => exact h3
  | 4, _ => exact h4
  | 5, _ => exact h5
  | n + 6, h => exact absurd h (by omega))
theorem dX6_isAddress_0 : decode cX6_isAddress 0 = .ok (.iload_n 0, 1) := by decide +kernel
theorem dX6_isAddress_1 : decode cX6_isAddress 1 = .ok (.ifCond .lt 13, 3) := by decide +kernel
theorem dX6_isAddress_4 : decode cX6_isAddress 4 = .ok (.iload_n 0, 1) := by decide +kernel
theorem dX6_isAddress_5 : decode cX6_isAddress 5 = .ok (.bipush 64, 2) := by decide +kernel
theorem dX6_isAddress_7 : decode cX6_isAddress 7 = .ok (.if_icmp .ge 7, 3) := by decide +kernel
theorem dX6_isAddress_10 : decode cX6_isAddress 10 = .ok (.iconst 1, 1) := by decide +kernel
theorem dX6_isAddress_11 : decode cX6_isAddress 11 = .ok (.goto 4, 3) := by decide +kernel
theorem dX6_isAddress_14 : decode cX6_isAddress 14 = .ok (.iconst 0, 1) := by decide +kernel
theorem dX6_isAddress_15 : decode cX6_isAddress 15 = .ok (.ireturn, 1) := by decide +kernel
theorem hd_yX6_isAddress : (yX6_isAddress).cls ≠ "java/lang/invoke/MethodHandle" ∧ (yX6_isAddress).cls ≠ "java/lang/invoke/VarHandle" ∧ (parseMethodDescriptor (yX6_isAddress).desc).map (fun d => d.parameters.length) = some 1 := ⟨by decide, by decide, by decide +kernel⟩
def f_X6_isAddress (p0 : Int32) : Option Int32 :=
  (if p0 < 0 then some 0 else (if 64 ≤ p0 then some 0 else some 1))
set_option maxHeartbeats 4000000 in
set_option maxRecDepth 100000 in
theorem c_X6_isAddress (l : Launch) (D : va_G) (A : Nat → Prop) (tys : List (ClassId × FieldType)) (ws : va_W) (p0 : Int32) (r : Int32) (h : f_X6_isAddress p0 = some r) : zM l yX6_isAddress w_yX6_isAddress ({ frames := 0, cells := 0, slots := 0, locals := 0 } : Room) D A tys [.int p0] ws (some (.int r)) ws := by
  refine z_start [.int p0] (lv := [(0, .int p0)]) (by decide) (Nat.le_of_ble_eq_true rfl) rfl ?_
  intro p e s m args below meth c C hr hlk
  unfold f_X6_isAddress at h
  refine z_iload_n C 0 rfl dX6_isAddress_0 ?_
  refine z_if_lt C 14 (by decide) dX6_isAddress_1 h (fun h => ?_) (fun h => ?_)
  · refine z_iconst C (v := 0) dX6_isAddress_14 (by decide) ?_
    cases h
    exact z_zret C hr hlk (by decide) dX6_isAddress_15
  · refine z_iload_n C 0 rfl dX6_isAddress_4 ?_
    refine z_bipush C (v := 64) dX6_isAddress_5 (by decide) ?_
    refine z_icmp_ge C 14 (by decide) dX6_isAddress_7 h (fun h => ?_) (fun h => ?_)
    · refine z_iconst C (v := 0) dX6_isAddress_14 (by decide) ?_
      cases h
      exact z_zret C hr hlk (by decide) dX6_isAddress_15
    · refine z_iconst C (v := 1) dX6_isAddress_10 (by decide) ?_
      refine z_goto C 15 (by decide) dX6_isAddress_11 ?_
      cases h
      exact z_zret C hr hlk (by decide) dX6_isAddress_15
theorem dX6_isBlock_0 : decode cX6_isBlock 0 = .ok (.iload_n 0, 1) := by decide +kernel
theorem dX6_isBlock_1 : decode cX6_isBlock 1 = .ok (.iconst 1, 1) := by decide +kernel
theorem dX6_isBlock_2 : decode cX6_isBlock 2 = .ok (.if_icmp .lt 14, 3) := by decide +kernel
theorem dX6_isBlock_5 : decode cX6_isBlock 5 = .ok (.iload_n 0, 1) := by decide +kernel
theorem dX6_isBlock_6 : decode cX6_isBlock 6 = .ok (.sipush 128, 3) := by decide +kernel
theorem dX6_isBlock_9 : decode cX6_isBlock 9 = .ok (.if_icmp .ge 7, 3) := by decide +kernel
theorem dX6_isBlock_12 : decode cX6_isBlock 12 = .ok (.iconst 1, 1) := by decide +kernel
theorem dX6_isBlock_13 : decode cX6_isBlock 13 = .ok (.goto 4, 3) := by decide +kernel
theorem dX6_isBlock_16 : decode cX6_isBlock 16 = .ok (.iconst 0, 1) := by decide +kernel
theorem dX6_isBlock_17 : decode cX6_isBlock 17 = .ok (.ireturn, 1) := by decide +kernel
theorem hd_yX6_isBlock : (yX6_isBlock).cls ≠ "java/lang/invoke/MethodHandle" ∧ (yX6_isBlock).cls ≠ "java/lang/invoke/VarHandle" ∧ (parseMethodDescriptor (yX6_isBlock).desc).map (fun d => d.parameters.length) = some 1 := ⟨by decide, by decide, by decide +kernel⟩
def f_X6_isBlock (p0 : Int32) : Option Int32 :=
  (if p0 < 1 then some 0 else (if 128 ≤ p0 then some 0 else some 1))
set_option maxHeartbeats 4000000 in
set_option maxRecDepth 100000 in
theorem c_X6_isBlock (l : Launch) (D : va_G) (A : Nat → Prop) (tys : List (ClassId × FieldType)) (ws : va_W) (p0 : Int32) (r : Int32) (h : f_X6_isBlock p0 = some r) : zM l yX6_isBlock w_yX6_isBlock ({ frames := 0, cells := 0, slots := 0, locals := 0 } : Room) D A tys [.int p0] ws (some (.int r)) ws := by
  refine z_start [.int p0] (lv := [(0, .int p0)]) (by decide) (Nat.le_of_ble_eq_true rfl) rfl ?_
  intro p e s m args below meth c C hr hlk
  unfold f_X6_isBlock at h
  refine z_iload_n C 0 rfl dX6_isBlock_0 ?_
  refine z_iconst C (v := 1) dX6_isBlock_1 (by decide) ?_
  refine z_icmp_lt C 16 (by decide) dX6_isBlock_2 h (fun h => ?_) (fun h => ?_)
  · refine z_iconst C (v := 0) dX6_isBlock_16 (by decide) ?_
    cases h
    exact z_zret C hr hlk (by decide) dX6_isBlock_17
  · refine z_iload_n C 0 rfl dX6_isBlock_5 ?_
    refine z_sipush C (v := 128) dX6_isBlock_6 (by decide) ?_
    refine z_icmp_ge C 16 (by decide) dX6_isBlock_9 h (fun h => ?_) (fun h => ?_)
    · refine z_iconst C (v := 0) dX6_isBlock_16 (by decide) ?_
      cases h
      exact z_zret C hr hlk (by decide) dX6_isBlock_17
    · refine z_iconst C (v := 1) dX6_isBlock_12 (by decide) ?_
      refine z_goto C 17 (by decide) dX6_isBlock_13 ?_
      cases h
      exact z_zret C hr hlk (by decide) dX6_isBlock_17
theorem dX6_bit_0 : decode cX6_bit 0 = .ok (.iload_n 0, 1) := by decide +kernel
theorem dX6_bit_1 : decode cX6_bit 1 = .ok (.ifCond .lt 15, 3) := by decide +kernel
theorem dX6_bit_4 : decode cX6_bit 4 = .ok (.iload_n 0, 1) := by decide +kernel
theorem dX6_bit_5 : decode cX6_bit 5 = .ok (.bipush 10, 2) := by decide +kernel
theorem dX6_bit_7 : decode cX6_bit 7 = .ok (.if_icmp .ge 9, 3) := by decide +kernel
theorem dX6_bit_10 : decode cX6_bit 10 = .ok (.iconst 1, 1) := by decide +kernel
theorem dX6_bit_11 : decode cX6_bit 11 = .ok (.iload_n 0, 1) := by decide +kernel
theorem dX6_bit_12 : decode cX6_bit 12 = .ok (.ishl, 1) := by decide +kernel
theorem dX6_bit_13 : decode cX6_bit 13 = .ok (.goto 4, 3) := by decide +kernel
theorem dX6_bit_16 : decode cX6_bit 16 = .ok (.iconst 0, 1) := by decide +kernel
theorem dX6_bit_17 : decode cX6_bit 17 = .ok (.ireturn, 1) := by decide +kernel
theorem hd_yX6_bit : (yX6_bit).cls ≠ "java/lang/invoke/MethodHandle" ∧ (yX6_bit).cls ≠ "java/lang/invoke/VarHandle" ∧ (parseMethodDescriptor (yX6_bit).desc).map (fun d => d.parameters.length) = some 1 := ⟨by decide, by decide, by decide +kernel⟩
def f_X6_bit (p0 : Int32) : Option Int32 :=
  (if p0 < 0 then some 0 else (if 10 ≤ p0 then some 0 else some ((1 : Int32) <<< (p0 &&& 31))))
set_option maxHeartbeats 4000000 in
set_option maxRecDepth 100000 in
theorem c_X6_bit (l : Launch) (D : va_G) (A : Nat → Prop) (tys : List (ClassId × FieldType)) (ws : va_W) (p0 : Int32) (r : Int32) (h : f_X6_bit p0 = some r) : zM l yX6_bit w_yX6_bit ({ frames := 0, cells := 0, slots := 0, locals := 0 } : Room) D A tys [.int p0] ws (some (.int r)) ws := by
  refine z_start [.int p0] (lv := [(0, .int p0)]) (by decide) (Nat.le_of_ble_eq_true rfl) rfl ?_
  intro p e s m args below meth c C hr hlk
  unfold f_X6_bit at h
  refine z_iload_n C 0 rfl dX6_bit_0 ?_
  refine z_if_lt C 16 (by decide) dX6_bit_1 h (fun h => ?_) (fun h => ?_)
  · refine z_iconst C (v := 0) dX6_bit_16 (by decide) ?_
    cases h
    exact z_iret C hr hlk dX6_bit_17
  · refine z_iload_n C 0 rfl dX6_bit_4 ?_
    refine z_bipush C (v := 10) dX6_bit_5 (by decide) ?_
    refine z_icmp_ge C 16 (by decide) dX6_bit_7 h (fun h => ?_) (fun h => ?_)
    · refine z_iconst C (v := 0) dX6_bit_16 (by decide) ?_
      cases h
      exact z_iret C hr hlk dX6_bit_17
    · refine z_iconst C (v := 1) dX6_bit_10 (by decide) ?_
      refine z_iload_n C 0 rfl dX6_bit_11 ?_
      refine z_ishl C dX6_bit_12 ?_
      refine z_goto C 17 (by decide) dX6_bit_13 ?_
      cases h
      exact z_iret C hr hlk dX6_bit_17
theorem dX6_hasBit_0 : decode cX6_hasBit 0 = .ok (.iload_n 1, 1) := by decide +kernel
theorem dX6_hasBit_1 : decode cX6_hasBit 1 = .ok (.ifCond .lt 22, 3) := by decide +kernel
theorem dX6_hasBit_4 : decode cX6_hasBit 4 = .ok (.iload_n 1, 1) := by decide +kernel
theorem dX6_hasBit_5 : decode cX6_hasBit 5 = .ok (.bipush 10, 2) := by decide +kernel
theorem dX6_hasBit_7 : decode cX6_hasBit 7 = .ok (.if_icmp .ge 16, 3) := by decide +kernel
theorem dX6_hasBit_10 : decode cX6_hasBit 10 = .ok (.iload_n 0, 1) := by decide +kernel
theorem dX6_hasBit_11 : decode cX6_hasBit 11 = .ok (.iload_n 1, 1) := by decide +kernel
theorem dX6_hasBit_12 : decode cX6_hasBit 12 = .ok (.ishr, 1) := by decide +kernel
theorem dX6_hasBit_13 : decode cX6_hasBit 13 = .ok (.iconst 1, 1) := by decide +kernel
theorem dX6_hasBit_14 : decode cX6_hasBit 14 = .ok (.iand, 1) := by decide +kernel
theorem dX6_hasBit_15 : decode cX6_hasBit 15 = .ok (.iconst 1, 1) := by decide +kernel
theorem dX6_hasBit_16 : decode cX6_hasBit 16 = .ok (.if_icmp .ne 7, 3) := by decide +kernel
theorem dX6_hasBit_19 : decode cX6_hasBit 19 = .ok (.iconst 1, 1) := by decide +kernel
theorem dX6_hasBit_20 : decode cX6_hasBit 20 = .ok (.goto 4, 3) := by decide +kernel
theorem dX6_hasBit_23 : decode cX6_hasBit 23 = .ok (.iconst 0, 1) := by decide +kernel
theorem dX6_hasBit_24 : decode cX6_hasBit 24 = .ok (.ireturn, 1) := by decide +kernel
theorem hd_yX6_hasBit : (yX6_hasBit).cls ≠ "java/lang/invoke/MethodHandle" ∧ (yX6_hasBit).cls ≠ "java/lang/invoke/VarHandle" ∧ (parseMethodDescriptor (yX6_hasBit).desc).map (fun d => d.parameters.length) = some 2 := ⟨by decide, by decide, by decide +kernel⟩
def f_X6_hasBit (p0 : Int32) (p1 : Int32) : Option Int32 :=
  (if p1 < 0 then some 0 else (if 10 ≤ p1 then some 0 else (if ((p0 >>> (p1 &&& 31)) &&& 1) = 1 then some 1 else some 0)))
set_option maxHeartbeats 4000000 in
set_option maxRecDepth 100000 in
theorem c_X6_hasBit (l : Launch) (D : va_G) (A : Nat → Prop) (tys : List (ClassId × FieldType)) (ws : va_W) (p0 : Int32) (p1 : Int32) (r : Int32) (h : f_X6_hasBit p0 p1 = some r) : zM l yX6_hasBit w_yX6_hasBit ({ frames := 0, cells := 0, slots := 0, locals := 0 } : Room) D A tys [.int p0, .int p1] ws (some (.int r)) ws := by
  refine z_start [.int p0, .int p1] (lv := [(0, .int p0), (1, .int p1)]) (by decide) (Nat.le_of_ble_eq_true rfl) rfl ?_
  intro p e s m args below meth c C hr hlk
  unfold f_X6_hasBit at h
  refine z_iload_n C 1 rfl dX6_hasBit_0 ?_
  refine z_if_lt C 23 (by decide) dX6_hasBit_1 h (fun h => ?_) (fun h => ?_)
  · refine z_iconst C (v := 0) dX6_hasBit_23 (by decide) ?_
    cases h
    exact z_zret C hr hlk (by decide) dX6_hasBit_24
  · refine z_iload_n C 1 rfl dX6_hasBit_4 ?_
    refine z_bipush C (v := 10) dX6_hasBit_5 (by decide) ?_
    refine z_icmp_ge C 23 (by decide) dX6_hasBit_7 h (fun h => ?_) (fun h => ?_)
    · refine z_iconst C (v := 0) dX6_hasBit_23 (by decide) ?_
      cases h
      exact z_zret C hr hlk (by decide) dX6_hasBit_24
    · refine z_iload_n C 0 rfl dX6_hasBit_10 ?_
      refine z_iload_n C 1 rfl dX6_hasBit_11 ?_
      refine z_ishr C dX6_hasBit_12 ?_
      refine z_iconst C (v := 1) dX6_hasBit_13 (by decide) ?_
      refine z_iand C dX6_hasBit_14 ?_
      refine z_iconst C (v := 1) dX6_hasBit_15 (by decide) ?_
      refine z_icmp_ne C 23 (by decide) dX6_hasBit_16 h (fun h => ?_) (fun h => ?_)
      · refine z_iconst C (v := 0) dX6_hasBit_23 (by decide) ?_
        cases h
        exact z_zret C hr hlk (by decide) dX6_hasBit_24
      · refine z_iconst C (v := 1) dX6_hasBit_19 (by decide) ?_
        refine z_goto C 24 (by decide) dX6_hasBit_20 ?_
        cases h
        exact z_zret C hr hlk (by decide) dX6_hasBit_24
theorem dX6_blockNumber_0 : decode cX6_blockNumber 0 = .ok (.iload_n 0, 1) := by decide +kernel
theorem dX6_blockNumber_1 : decode cX6_blockNumber 1 = .ok (.ifCond .lt 16, 3) := by decide +kernel
theorem dX6_blockNumber_4 : decode cX6_blockNumber 4 = .ok (.iload_n 0, 1) := by decide +kernel
theorem dX6_blockNumber_5 : decode cX6_blockNumber 5 = .ok (.bipush 6, 2) := by decide +kernel
theorem dX6_blockNumber_7 : decode cX6_blockNumber 7 = .ok (.if_icmp .gt 10, 3) := by decide +kernel
theorem dX6_blockNumber_10 : decode cX6_blockNumber 10 = .ok (.iload_n 1, 1) := by decide +kernel
theorem dX6_blockNumber_11 : decode cX6_blockNumber 11 = .ok (.invokestatic 140, 3) := by decide +kernel
theorem dX6_blockNumber_14 : decode cX6_blockNumber 14 = .ok (.ifCond .ne 6, 3) := by decide +kernel
theorem dX6_blockNumber_17 : decode cX6_blockNumber 17 = .ok (.bipush (-2), 2) := by decide +kernel
theorem dX6_blockNumber_19 : decode cX6_blockNumber 19 = .ok (.ireturn, 1) := by decide +kernel
theorem dX6_blockNumber_20 : decode cX6_blockNumber 20 = .ok (.bipush 64, 2) := by decide +kernel
theorem dX6_blockNumber_22 : decode cX6_blockNumber 22 = .ok (.iload_n 0, 1) := by decide +kernel
theorem dX6_blockNumber_23 : decode cX6_blockNumber 23 = .ok (.ishr, 1) := by decide +kernel
theorem dX6_blockNumber_24 : decode cX6_blockNumber 24 = .ok (.istore_n 2, 1) := by decide +kernel
theorem dX6_blockNumber_25 : decode cX6_blockNumber 25 = .ok (.iload_n 1, 1) := by decide +kernel
theorem dX6_blockNumber_26 : decode cX6_blockNumber 26 = .ok (.iload_n 2, 1) := by decide +kernel
theorem dX6_blockNumber_27 : decode cX6_blockNumber 27 = .ok (.iconst 1, 1) := by decide +kernel
theorem dX6_blockNumber_28 : decode cX6_blockNumber 28 = .ok (.isub, 1) := by decide +kernel
theorem dX6_blockNumber_29 : decode cX6_blockNumber 29 = .ok (.iand, 1) := by decide +kernel
theorem dX6_blockNumber_30 : decode cX6_blockNumber 30 = .ok (.ifCond .ne 15, 3) := by decide +kernel
theorem dX6_blockNumber_33 : decode cX6_blockNumber 33 = .ok (.bipush 64, 2) := by decide +kernel
theorem dX6_blockNumber_35 : decode cX6_blockNumber 35 = .ok (.iload_n 1, 1) := by decide +kernel
theorem dX6_blockNumber_36 : decode cX6_blockNumber 36 = .ok (.iadd, 1) := by decide +kernel
theorem dX6_blockNumber_37 : decode cX6_blockNumber 37 = .ok (.bipush 6, 2) := by decide +kernel
theorem dX6_blockNumber_39 : decode cX6_blockNumber 39 = .ok (.iload_n 0, 1) := by decide +kernel
theorem dX6_blockNumber_40 : decode cX6_blockNumber 40 = .ok (.isub, 1) := by decide +kernel
theorem dX6_blockNumber_41 : decode cX6_blockNumber 41 = .ok (.ishr, 1) := by decide +kernel
theorem dX6_blockNumber_42 : decode cX6_blockNumber 42 = .ok (.goto 5, 3) := by decide +kernel
theorem dX6_blockNumber_45 : decode cX6_blockNumber 45 = .ok (.bipush (-2), 2) := by decide +kernel
theorem dX6_blockNumber_47 : decode cX6_blockNumber 47 = .ok (.ireturn, 1) := by decide +kernel
theorem hd_yX6_blockNumber : (yX6_blockNumber).cls ≠ "java/lang/invoke/MethodHandle" ∧ (yX6_blockNumber).cls ≠ "java/lang/invoke/VarHandle" ∧ (parseMethodDescriptor (yX6_blockNumber).desc).map (fun d => d.parameters.length) = some 2 := ⟨by decide, by decide, by decide +kernel⟩
def f_X6_blockNumber (p0 : Int32) (p1 : Int32) : Option Int32 :=
  (if p0 < 0 then some (-2) else (if 6 < p0 then some (-2) else Option.bind (f_X6_isAddress p1) (fun q1 => (if q1 = 0 then some (-2) else (if (p1 &&& (((64 : Int32) >>> (p0 &&& 31)) - 1)) = 0 then some (((64 : Int32) + p1) >>> (((6 : Int32) - p0) &&& 31)) else some (-2))))))
set_option maxHeartbeats 4000000 in
set_option maxRecDepth 100000 in
theorem c_X6_blockNumber (l : Launch) (D : va_G) (A : Nat → Prop) (tys : List (ClassId × FieldType)) (ws : va_W) (p0 : Int32) (p1 : Int32) (r : Int32) (h : f_X6_blockNumber p0 p1 = some r) : zM l yX6_blockNumber w_yX6_blockNumber ({ frames := 1, cells := 0, slots := 0, locals := 20 } : Room) D A tys [.int p0, .int p1] ws (some (.int r)) ws := by
  refine z_start [.int p0, .int p1] (lv := [(0, .int p0), (1, .int p1)]) (by decide) (Nat.le_of_ble_eq_true rfl) rfl ?_
  intro p e s m args below meth c C hr hlk
  unfold f_X6_blockNumber at h
  refine z_iload_n C 0 rfl dX6_blockNumber_0 ?_
  refine z_if_lt C 17 (by decide) dX6_blockNumber_1 h (fun h => ?_) (fun h => ?_)
  · refine z_bipush C (v := (-2)) dX6_blockNumber_17 (by decide) ?_
    cases h
    exact z_iret C hr hlk dX6_blockNumber_19
  · refine z_iload_n C 0 rfl dX6_blockNumber_4 ?_
    refine z_bipush C (v := 6) dX6_blockNumber_5 (by decide) ?_
    refine z_icmp_gt C 17 (by decide) dX6_blockNumber_7 h (fun h => ?_) (fun h => ?_)
    · refine z_bipush C (v := (-2)) dX6_blockNumber_17 (by decide) ?_
      cases h
      exact z_iret C hr hlk dX6_blockNumber_19
    · refine z_iload_n C 1 rfl dX6_blockNumber_10 ?_
      obtain ⟨q1, hq1, h⟩ := bd_spec h
      refine z_callS1 C [.int p1] [] (v := .int q1) rfl (c_X6_isAddress l D A tys ws p1 q1 hq1) cd_yX6_isAddress in_RX6 ml_RX6_140 sm_yX6_isAddress hd_yX6_isAddress ⟨⟨Nat.le_of_ble_eq_true rfl, Nat.le_of_ble_eq_true rfl⟩, rfl, rfl⟩ rfl (Nat.le_of_ble_eq_true rfl) ⟨Nat.zero_le _, Nat.zero_le _⟩ dX6_blockNumber_11 ?_
      refine z_if_ne C 20 (by decide) dX6_blockNumber_14 h (fun h => ?_) (fun h => ?_)
      · refine z_bipush C (v := 64) dX6_blockNumber_20 (by decide) ?_
        refine z_iload_n C 0 rfl dX6_blockNumber_22 ?_
        refine z_ishr C dX6_blockNumber_23 ?_
        refine z_istore_n C [(2, .int ((64 : Int32) >>> (p0 &&& 31))), (0, .int p0), (1, .int p1)] rfl (by decide) rfl dX6_blockNumber_24 ?_
        refine z_iload_n C 2 rfl dX6_blockNumber_25 ?_
        refine z_iload_n C 0 rfl dX6_blockNumber_26 ?_
        refine z_iconst C (v := 1) dX6_blockNumber_27 (by decide) ?_
        refine z_isub C dX6_blockNumber_28 ?_
        refine z_iand C dX6_blockNumber_29 ?_
        refine z_if_ne C 45 (by decide) dX6_blockNumber_30 h (fun h => ?_) (fun h => ?_)
        · refine z_bipush C (v := (-2)) dX6_blockNumber_45 (by decide) ?_
          cases h
          exact z_iret C hr hlk dX6_blockNumber_47
        · refine z_bipush C (v := 64) dX6_blockNumber_33 (by decide) ?_
          refine z_iload_n C 2 rfl dX6_blockNumber_35 ?_
          refine z_iadd C dX6_blockNumber_36 ?_
          refine z_bipush C (v := 6) dX6_blockNumber_37 (by decide) ?_
          refine z_iload_n C 1 rfl dX6_blockNumber_39 ?_
          refine z_isub C dX6_blockNumber_40 ?_
          refine z_ishr C dX6_blockNumber_41 ?_
          refine z_goto C 47 (by decide) dX6_blockNumber_42 ?_
          cases h
          exact z_iret C hr hlk dX6_blockNumber_47
      · refine z_bipush C (v := (-2)) dX6_blockNumber_17 (by decide) ?_
        cases h
        exact z_iret C hr hlk dX6_blockNumber_19
theorem dX6_lengthOf_0 : decode cX6_lengthOf 0 = .ok (.iconst 0, 1) := by decide +kernel
theorem dX6_lengthOf_1 : decode cX6_lengthOf 1 = .ok (.istore_n 1, 1) := by decide +kernel
theorem dX6_lengthOf_2 : decode cX6_lengthOf 2 = .ok (.iload_n 1, 1) := by decide +kernel
theorem dX6_lengthOf_3 : decode cX6_lengthOf 3 = .ok (.bipush 6, 2) := by decide +kernel
theorem dX6_lengthOf_5 : decode cX6_lengthOf 5 = .ok (.if_icmp .ge 16, 3) := by decide +kernel
theorem dX6_lengthOf_8 : decode cX6_lengthOf 8 = .ok (.iload_n 0, 1) := by decide +kernel
theorem dX6_lengthOf_9 : decode cX6_lengthOf 9 = .ok (.iload_n 1, 1) := by decide +kernel
theorem dX6_lengthOf_10 : decode cX6_lengthOf 10 = .ok (.ishr, 1) := by decide +kernel
theorem dX6_lengthOf_11 : decode cX6_lengthOf 11 = .ok (.iconst 1, 1) := by decide +kernel
theorem dX6_lengthOf_12 : decode cX6_lengthOf 12 = .ok (.if_icmp .le 9, 3) := by decide +kernel
theorem dX6_lengthOf_15 : decode cX6_lengthOf 15 = .ok (.iinc 1 1, 3) := by decide +kernel
theorem dX6_lengthOf_18 : decode cX6_lengthOf 18 = .ok (.goto (-16), 3) := by decide +kernel
theorem dX6_lengthOf_21 : decode cX6_lengthOf 21 = .ok (.iload_n 1, 1) := by decide +kernel
theorem dX6_lengthOf_22 : decode cX6_lengthOf 22 = .ok (.ireturn, 1) := by decide +kernel
theorem hd_yX6_lengthOf : (yX6_lengthOf).cls ≠ "java/lang/invoke/MethodHandle" ∧ (yX6_lengthOf).cls ≠ "java/lang/invoke/VarHandle" ∧ (parseMethodDescriptor (yX6_lengthOf).desc).map (fun d => d.parameters.length) = some 1 := ⟨by decide, by decide, by decide +kernel⟩
def f_X6_lengthOf_B2 (l0 : Int32) (t1 : Int32) : Option (Int32 ⊕ Int32) :=
  (if 6 ≤ t1 then wi (some t1) else (if (l0 >>> (t1 &&& 31)) ≤ 1 then wi (some t1) else some (.inl (t1 + 1))))
def f_X6_lengthOf (p0 : Int32) : Option Int32 :=
  lp zF (f_X6_lengthOf_B2 p0) 0
set_option maxHeartbeats 4000000 in
set_option maxRecDepth 100000 in
theorem c_X6_lengthOf (l : Launch) (D : va_G) (A : Nat → Prop) (tys : List (ClassId × FieldType)) (ws : va_W) (p0 : Int32) (r : Int32) (h : f_X6_lengthOf p0 = some r) : zM l yX6_lengthOf w_yX6_lengthOf ({ frames := 0, cells := 0, slots := 0, locals := 0 } : Room) D A tys [.int p0] ws (some (.int r)) ws := by
  refine z_start [.int p0] (lv := [(0, .int p0)]) (by decide) (Nat.le_of_ble_eq_true rfl) rfl ?_
  intro p e s m args below meth c C hr hlk
  unfold f_X6_lengthOf at h
  refine z_iconst C (v := 0) dX6_lengthOf_0 (by decide) ?_
  refine z_istore_n C [(1, .int 0), (0, .int p0)] rfl (by decide) rfl dX6_lengthOf_1 ?_
  refine z_sub C [1, 0] (lv' := [(0, .int p0), (1, .int 0)]) rfl ?_
  have L2 : ∀ (n : Nat) (t1 : Int32), lp n (f_X6_lengthOf_B2 p0) t1 = some r → zV p l e ({ frames := 0, cells := 0, slots := 0, locals := 0 } : Room) s m args below meth c 0 0 (MQ below (zQ D A (some (.int r)) ws) args s 0 0 A) D A 2 ws 2 [(0, .int p0), (1, .int t1)] [] := by
    intro n1
    induction n1 with
    | zero => exact fun _ h => (lp_zero h).elim
    | succ n1 ih1 =>
      intro t1 h
      obtain ⟨u1, h, hk1⟩ := lp_succ h
      unfold f_X6_lengthOf_B2 at h
      refine z_iload_n C 1 rfl dX6_lengthOf_2 ?_
      refine z_bipush C (v := 6) dX6_lengthOf_3 (by decide) ?_
      refine z_icmp_ge C 21 (by decide) dX6_lengthOf_5 h (fun h => ?_) (fun h => ?_)
      · refine z_iload_n C 1 rfl dX6_lengthOf_21 ?_
        have h := unwi h hk1
        cases h
        exact z_iret C hr hlk dX6_lengthOf_22
      · refine z_iload_n C 0 rfl dX6_lengthOf_8 ?_
        refine z_iload_n C 1 rfl dX6_lengthOf_9 ?_
        refine z_ishr C dX6_lengthOf_10 ?_
        refine z_iconst C (v := 1) dX6_lengthOf_11 (by decide) ?_
        refine z_icmp_le C 21 (by decide) dX6_lengthOf_12 h (fun h => ?_) (fun h => ?_)
        · refine z_iload_n C 1 rfl dX6_lengthOf_21 ?_
          have h := unwi h hk1
          cases h
          exact z_iret C hr hlk dX6_lengthOf_22
        · refine z_iinc C (v := t1 + 1) [(1, .int (t1 + 1)), (0, .int p0)] 1 rfl rfl (by decide) rfl dX6_lengthOf_15 ?_
          refine z_goto C 2 (by decide) dX6_lengthOf_18 ?_
          refine z_sub C [1, 0] (lv' := [(0, .int p0), (1, .int (t1 + 1))]) rfl ?_
          exact ih1 _ (uninl h hk1)
  exact L2 _ _ h
theorem dX6_firstOf_0 : decode cX6_firstOf 0 = .ok (.iload_n 0, 1) := by decide +kernel
theorem dX6_firstOf_1 : decode cX6_firstOf 1 = .ok (.bipush 6, 2) := by decide +kernel
theorem dX6_firstOf_3 : decode cX6_firstOf 3 = .ok (.iload_n 0, 1) := by decide +kernel
theorem dX6_firstOf_4 : decode cX6_firstOf 4 = .ok (.invokestatic 155, 3) := by decide +kernel
theorem dX6_firstOf_7 : decode cX6_firstOf 7 = .ok (.isub, 1) := by decide +kernel
theorem dX6_firstOf_8 : decode cX6_firstOf 8 = .ok (.ishl, 1) := by decide +kernel
theorem dX6_firstOf_9 : decode cX6_firstOf 9 = .ok (.bipush 64, 2) := by decide +kernel
theorem dX6_firstOf_11 : decode cX6_firstOf 11 = .ok (.isub, 1) := by decide +kernel
theorem dX6_firstOf_12 : decode cX6_firstOf 12 = .ok (.ireturn, 1) := by decide +kernel
theorem hd_yX6_firstOf : (yX6_firstOf).cls ≠ "java/lang/invoke/MethodHandle" ∧ (yX6_firstOf).cls ≠ "java/lang/invoke/VarHandle" ∧ (parseMethodDescriptor (yX6_firstOf).desc).map (fun d => d.parameters.length) = some 1 := ⟨by decide, by decide, by decide +kernel⟩
def f_X6_firstOf (p0 : Int32) : Option Int32 :=
  Option.bind (f_X6_lengthOf p0) (fun q1 => some ((p0 <<< (((6 : Int32) - q1) &&& 31)) - 64))
set_option maxHeartbeats 4000000 in
set_option maxRecDepth 100000 in
theorem c_X6_firstOf (l : Launch) (D : va_G) (A : Nat → Prop) (tys : List (ClassId × FieldType)) (ws : va_W) (p0 : Int32) (r : Int32) (h : f_X6_firstOf p0 = some r) : zM l yX6_firstOf w_yX6_firstOf ({ frames := 1, cells := 0, slots := 0, locals := 21 } : Room) D A tys [.int p0] ws (some (.int r)) ws := by
  refine z_start [.int p0] (lv := [(0, .int p0)]) (by decide) (Nat.le_of_ble_eq_true rfl) rfl ?_
  intro p e s m args below meth c C hr hlk
  unfold f_X6_firstOf at h
  refine z_iload_n C 0 rfl dX6_firstOf_0 ?_
  refine z_bipush C (v := 6) dX6_firstOf_1 (by decide) ?_
  refine z_iload_n C 0 rfl dX6_firstOf_3 ?_
  obtain ⟨q1, hq1, h⟩ := bd_spec h
  refine z_callS1 C [.int p0] [.int 6, .int p0] (v := .int q1) rfl (c_X6_lengthOf l D A tys ws p0 q1 hq1) cd_yX6_lengthOf in_RX6 ml_RX6_155 sm_yX6_lengthOf hd_yX6_lengthOf ⟨⟨Nat.le_of_ble_eq_true rfl, Nat.le_of_ble_eq_true rfl⟩, rfl, rfl⟩ rfl (Nat.le_of_ble_eq_true rfl) ⟨Nat.zero_le _, Nat.zero_le _⟩ dX6_firstOf_4 ?_
  refine z_isub C dX6_firstOf_7 ?_
  refine z_ishl C dX6_firstOf_8 ?_
  refine z_bipush C (v := 64) dX6_firstOf_9 (by decide) ?_
  refine z_isub C dX6_firstOf_11 ?_
  cases h
  exact z_iret C hr hlk dX6_firstOf_12
theorem dJ6_bitCount_0f7a4_0 : decode cJ6_bitCount_0f7a4 0 = .ok (.iload_n 0, 1) := by decide +kernel
theorem dJ6_bitCount_0f7a4_1 : decode cJ6_bitCount_0f7a4 1 = .ok (.iload_n 0, 1) := by decide +kernel
theorem dJ6_bitCount_0f7a4_2 : decode cJ6_bitCount_0f7a4 2 = .ok (.iconst 1, 1) := by decide +kernel
theorem dJ6_bitCount_0f7a4_3 : decode cJ6_bitCount_0f7a4 3 = .ok (.iushr, 1) := by decide +kernel
theorem dJ6_bitCount_0f7a4_4 : decode cJ6_bitCount_0f7a4 4 = .ok (.ldc_w 265, 3) := by decide +kernel
theorem dJ6_bitCount_0f7a4_7 : decode cJ6_bitCount_0f7a4 7 = .ok (.iand, 1) := by decide +kernel
theorem dJ6_bitCount_0f7a4_8 : decode cJ6_bitCount_0f7a4 8 = .ok (.isub, 1) := by decide +kernel
theorem dJ6_bitCount_0f7a4_9 : decode cJ6_bitCount_0f7a4 9 = .ok (.istore_n 0, 1) := by decide +kernel
theorem dJ6_bitCount_0f7a4_10 : decode cJ6_bitCount_0f7a4 10 = .ok (.iload_n 0, 1) := by decide +kernel
theorem dJ6_bitCount_0f7a4_11 : decode cJ6_bitCount_0f7a4 11 = .ok (.ldc_w 266, 3) := by decide +kernel
theorem dJ6_bitCount_0f7a4_14 : decode cJ6_bitCount_0f7a4 14 = .ok (.iand, 1) := by decide +kernel
theorem dJ6_bitCount_0f7a4_15 : decode cJ6_bitCount_0f7a4 15 = .ok (.iload_n 0, 1) := by decide +kernel
theorem dJ6_bitCount_0f7a4_16 : decode cJ6_bitCount_0f7a4 16 = .ok (.iconst 2, 1) := by decide +kernel
theorem dJ6_bitCount_0f7a4_17 : decode cJ6_bitCount_0f7a4 17 = .ok (.iushr, 1) := by decide +kernel
theorem dJ6_bitCount_0f7a4_18 : decode cJ6_bitCount_0f7a4 18 = .ok (.ldc_w 266, 3) := by decide +kernel
theorem dJ6_bitCount_0f7a4_21 : decode cJ6_bitCount_0f7a4 21 = .ok (.iand, 1) := by decide +kernel
theorem dJ6_bitCount_0f7a4_22 : decode cJ6_bitCount_0f7a4 22 = .ok (.iadd, 1) := by decide +kernel
theorem dJ6_bitCount_0f7a4_23 : decode cJ6_bitCount_0f7a4 23 = .ok (.istore_n 0, 1) := by decide +kernel
theorem dJ6_bitCount_0f7a4_24 : decode cJ6_bitCount_0f7a4 24 = .ok (.iload_n 0, 1) := by decide +kernel
theorem dJ6_bitCount_0f7a4_25 : decode cJ6_bitCount_0f7a4 25 = .ok (.iload_n 0, 1) := by decide +kernel
theorem dJ6_bitCount_0f7a4_26 : decode cJ6_bitCount_0f7a4 26 = .ok (.iconst 4, 1) := by decide +kernel
theorem dJ6_bitCount_0f7a4_27 : decode cJ6_bitCount_0f7a4 27 = .ok (.iushr, 1) := by decide +kernel
theorem dJ6_bitCount_0f7a4_28 : decode cJ6_bitCount_0f7a4 28 = .ok (.iadd, 1) := by decide +kernel
theorem dJ6_bitCount_0f7a4_29 : decode cJ6_bitCount_0f7a4 29 = .ok (.ldc_w 267, 3) := by decide +kernel
theorem dJ6_bitCount_0f7a4_32 : decode cJ6_bitCount_0f7a4 32 = .ok (.iand, 1) := by decide +kernel
theorem dJ6_bitCount_0f7a4_33 : decode cJ6_bitCount_0f7a4 33 = .ok (.istore_n 0, 1) := by decide +kernel
theorem dJ6_bitCount_0f7a4_34 : decode cJ6_bitCount_0f7a4 34 = .ok (.iload_n 0, 1) := by decide +kernel
theorem dJ6_bitCount_0f7a4_35 : decode cJ6_bitCount_0f7a4 35 = .ok (.iload_n 0, 1) := by decide +kernel
theorem dJ6_bitCount_0f7a4_36 : decode cJ6_bitCount_0f7a4 36 = .ok (.bipush 8, 2) := by decide +kernel
theorem dJ6_bitCount_0f7a4_38 : decode cJ6_bitCount_0f7a4 38 = .ok (.iushr, 1) := by decide +kernel
theorem dJ6_bitCount_0f7a4_39 : decode cJ6_bitCount_0f7a4 39 = .ok (.iadd, 1) := by decide +kernel
theorem dJ6_bitCount_0f7a4_40 : decode cJ6_bitCount_0f7a4 40 = .ok (.istore_n 0, 1) := by decide +kernel
theorem dJ6_bitCount_0f7a4_41 : decode cJ6_bitCount_0f7a4 41 = .ok (.iload_n 0, 1) := by decide +kernel
theorem dJ6_bitCount_0f7a4_42 : decode cJ6_bitCount_0f7a4 42 = .ok (.iload_n 0, 1) := by decide +kernel
theorem dJ6_bitCount_0f7a4_43 : decode cJ6_bitCount_0f7a4 43 = .ok (.bipush 16, 2) := by decide +kernel
theorem dJ6_bitCount_0f7a4_45 : decode cJ6_bitCount_0f7a4 45 = .ok (.iushr, 1) := by decide +kernel
theorem dJ6_bitCount_0f7a4_46 : decode cJ6_bitCount_0f7a4 46 = .ok (.iadd, 1) := by decide +kernel
theorem dJ6_bitCount_0f7a4_47 : decode cJ6_bitCount_0f7a4 47 = .ok (.istore_n 0, 1) := by decide +kernel
theorem dJ6_bitCount_0f7a4_48 : decode cJ6_bitCount_0f7a4 48 = .ok (.iload_n 0, 1) := by decide +kernel
theorem dJ6_bitCount_0f7a4_49 : decode cJ6_bitCount_0f7a4 49 = .ok (.bipush 63, 2) := by decide +kernel
theorem dJ6_bitCount_0f7a4_51 : decode cJ6_bitCount_0f7a4 51 = .ok (.iand, 1) := by decide +kernel
theorem dJ6_bitCount_0f7a4_52 : decode cJ6_bitCount_0f7a4 52 = .ok (.ireturn, 1) := by decide +kernel
theorem hd_yJ6_bitCount_0f7a4 : (yJ6_bitCount_0f7a4).cls ≠ "java/lang/invoke/MethodHandle" ∧ (yJ6_bitCount_0f7a4).cls ≠ "java/lang/invoke/VarHandle" ∧ (parseMethodDescriptor (yJ6_bitCount_0f7a4).desc).map (fun d => d.parameters.length) = some 1 := ⟨by decide, by decide, by decide +kernel⟩
def f_J6_bitCount_0f7a4 (p0 : Int32) : Option Int32 :=
  some ((((((((p0 - ((((Int32.toUInt32 p0) >>> ((Int32.toUInt32 1) &&& Int32.toUInt32 31)).toInt32) &&& 1431655765)) &&& 858993459) + ((((Int32.toUInt32 (p0 - ((((Int32.toUInt32 p0) >>> ((Int32.toUInt32 1) &&& Int32.toUInt32 31)).toInt32) &&& 1431655765))) >>> ((Int32.toUInt32 2) &&& Int32.toUInt32 31)).toInt32) &&& 858993459)) + (((Int32.toUInt32 (((p0 - ((((Int32.toUInt32 p0) >>> ((Int32.toUInt32 1) &&& Int32.toUInt32 31)).toInt32) &&& 1431655765)) &&& 858993459) + ((((Int32.toUInt32 (p0 - ((((Int32.toUInt32 p0) >>> ((Int32.toUInt32 1) &&& Int32.toUInt32 31)).toInt32) &&& 1431655765))) >>> ((Int32.toUInt32 2) &&& Int32.toUInt32 31)).toInt32) &&& 858993459))) >>> ((Int32.toUInt32 4) &&& Int32.toUInt32 31)).toInt32)) &&& 252645135) + (((Int32.toUInt32 (((((p0 - ((((Int32.toUInt32 p0) >>> ((Int32.toUInt32 1) &&& Int32.toUInt32 31)).toInt32) &&& 1431655765)) &&& 858993459) + ((((Int32.toUInt32 (p0 - ((((Int32.toUInt32 p0) >>> ((Int32.toUInt32 1) &&& Int32.toUInt32 31)).toInt32) &&& 1431655765))) >>> ((Int32.toUInt32 2) &&& Int32.toUInt32 31)).toInt32) &&& 858993459)) + (((Int32.toUInt32 (((p0 - ((((Int32.toUInt32 p0) >>> ((Int32.toUInt32 1) &&& Int32.toUInt32 31)).toInt32) &&& 1431655765)) &&& 858993459) + ((((Int32.toUInt32 (p0 - ((((Int32.toUInt32 p0) >>> ((Int32.toUInt32 1) &&& Int32.toUInt32 31)).toInt32) &&& 1431655765))) >>> ((Int32.toUInt32 2) &&& Int32.toUInt32 31)).toInt32) &&& 858993459))) >>> ((Int32.toUInt32 4) &&& Int32.toUInt32 31)).toInt32)) &&& 252645135)) >>> ((Int32.toUInt32 8) &&& Int32.toUInt32 31)).toInt32)) + (((Int32.toUInt32 ((((((p0 - ((((Int32.toUInt32 p0) >>> ((Int32.toUInt32 1) &&& Int32.toUInt32 31)).toInt32) &&& 1431655765)) &&& 858993459) + ((((Int32.toUInt32 (p0 - ((((Int32.toUInt32 p0) >>> ((Int32.toUInt32 1) &&& Int32.toUInt32 31)).toInt32) &&& 1431655765))) >>> ((Int32.toUInt32 2) &&& Int32.toUInt32 31)).toInt32) &&& 858993459)) + (((Int32.toUInt32 (((p0 - ((((Int32.toUInt32 p0) >>> ((Int32.toUInt32 1) &&& Int32.toUInt32 31)).toInt32) &&& 1431655765)) &&& 858993459) + ((((Int32.toUInt32 (p0 - ((((Int32.toUInt32 p0) >>> ((Int32.toUInt32 1) &&& Int32.toUInt32 31)).toInt32) &&& 1431655765))) >>> ((Int32.toUInt32 2) &&& Int32.toUInt32 31)).toInt32) &&& 858993459))) >>> ((Int32.toUInt32 4) &&& Int32.toUInt32 31)).toInt32)) &&& 252645135) + (((Int32.toUInt32 (((((p0 - ((((Int32.toUInt32 p0) >>> ((Int32.toUInt32 1) &&& Int32.toUInt32 31)).toInt32) &&& 1431655765)) &&& 858993459) + ((((Int32.toUInt32 (p0 - ((((Int32.toUInt32 p0) >>> ((Int32.toUInt32 1) &&& Int32.toUInt32 31)).toInt32) &&& 1431655765))) >>> ((Int32.toUInt32 2) &&& Int32.toUInt32 31)).toInt32) &&& 858993459)) + (((Int32.toUInt32 (((p0 - ((((Int32.toUInt32 p0) >>> ((Int32.toUInt32 1) &&& Int32.toUInt32 31)).toInt32) &&& 1431655765)) &&& 858993459) + ((((Int32.toUInt32 (p0 - ((((Int32.toUInt32 p0) >>> ((Int32.toUInt32 1) &&& Int32.toUInt32 31)).toInt32) &&& 1431655765))) >>> ((Int32.toUInt32 2) &&& Int32.toUInt32 31)).toInt32) &&& 858993459))) >>> ((Int32.toUInt32 4) &&& Int32.toUInt32 31)).toInt32)) &&& 252645135)) >>> ((Int32.toUInt32 8) &&& Int32.toUInt32 31)).toInt32))) >>> ((Int32.toUInt32 16) &&& Int32.toUInt32 31)).toInt32)) &&& 63)
set_option maxHeartbeats 4000000 in
set_option maxRecDepth 100000 in
theorem c_J6_bitCount_0f7a4 (l : Launch) (D : va_G) (A : Nat → Prop) (tys : List (ClassId × FieldType)) (ws : va_W) (p0 : Int32) (r : Int32) (h : f_J6_bitCount_0f7a4 p0 = some r) : zM l yJ6_bitCount_0f7a4 w_yJ6_bitCount_0f7a4 ({ frames := 0, cells := 0, slots := 0, locals := 0 } : Room) D A tys [.int p0] ws (some (.int r)) ws := by
  refine z_start [.int p0] (lv := [(0, .int p0)]) (by decide) (Nat.le_of_ble_eq_true rfl) rfl ?_
  intro p e s m args below meth c C hr hlk
  unfold f_J6_bitCount_0f7a4 at h
  refine z_iload_n C 0 rfl dJ6_bitCount_0f7a4_0 ?_
  refine z_iload_n C 0 rfl dJ6_bitCount_0f7a4_1 ?_
  refine z_iconst C (v := 1) dJ6_bitCount_0f7a4_2 (by decide) ?_
  refine z_iushr C dJ6_bitCount_0f7a4_3 ?_
  refine z_ldcw C ct_RJ6_265 dJ6_bitCount_0f7a4_4 ?_
  refine z_iand C dJ6_bitCount_0f7a4_7 ?_
  refine z_isub C dJ6_bitCount_0f7a4_8 ?_
  refine z_istore_n C [(0, .int (p0 - ((((Int32.toUInt32 p0) >>> ((Int32.toUInt32 1) &&& Int32.toUInt32 31)).toInt32) &&& 1431655765)))] rfl (by decide) rfl dJ6_bitCount_0f7a4_9 ?_
  refine z_iload_n C 0 rfl dJ6_bitCount_0f7a4_10 ?_
  refine z_ldcw C ct_RJ6_266 dJ6_bitCount_0f7a4_11 ?_
  refine z_iand C dJ6_bitCount_0f7a4_14 ?_
  refine z_iload_n C 0 rfl dJ6_bitCount_0f7a4_15 ?_
  refine z_iconst C (v := 2) dJ6_bitCount_0f7a4_16 (by decide) ?_
  refine z_iushr C dJ6_bitCount_0f7a4_17 ?_
  refine z_ldcw C ct_RJ6_266 dJ6_bitCount_0f7a4_18 ?_
  refine z_iand C dJ6_bitCount_0f7a4_21 ?_
  refine z_iadd C dJ6_bitCount_0f7a4_22 ?_
  refine z_istore_n C [(0, .int (((p0 - ((((Int32.toUInt32 p0) >>> ((Int32.toUInt32 1) &&& Int32.toUInt32 31)).toInt32) &&& 1431655765)) &&& 858993459) + ((((Int32.toUInt32 (p0 - ((((Int32.toUInt32 p0) >>> ((Int32.toUInt32 1) &&& Int32.toUInt32 31)).toInt32) &&& 1431655765))) >>> ((Int32.toUInt32 2) &&& Int32.toUInt32 31)).toInt32) &&& 858993459)))] rfl (by decide) rfl dJ6_bitCount_0f7a4_23 ?_
  refine z_iload_n C 0 rfl dJ6_bitCount_0f7a4_24 ?_
  refine z_iload_n C 0 rfl dJ6_bitCount_0f7a4_25 ?_
  refine z_iconst C (v := 4) dJ6_bitCount_0f7a4_26 (by decide) ?_
  refine z_iushr C dJ6_bitCount_0f7a4_27 ?_
  refine z_iadd C dJ6_bitCount_0f7a4_28 ?_
  refine z_ldcw C ct_RJ6_267 dJ6_bitCount_0f7a4_29 ?_
  refine z_iand C dJ6_bitCount_0f7a4_32 ?_
  refine z_istore_n C [(0, .int (((((p0 - ((((Int32.toUInt32 p0) >>> ((Int32.toUInt32 1) &&& Int32.toUInt32 31)).toInt32) &&& 1431655765)) &&& 858993459) + ((((Int32.toUInt32 (p0 - ((((Int32.toUInt32 p0) >>> ((Int32.toUInt32 1) &&& Int32.toUInt32 31)).toInt32) &&& 1431655765))) >>> ((Int32.toUInt32 2) &&& Int32.toUInt32 31)).toInt32) &&& 858993459)) + (((Int32.toUInt32 (((p0 - ((((Int32.toUInt32 p0) >>> ((Int32.toUInt32 1) &&& Int32.toUInt32 31)).toInt32) &&& 1431655765)) &&& 858993459) + ((((Int32.toUInt32 (p0 - ((((Int32.toUInt32 p0) >>> ((Int32.toUInt32 1) &&& Int32.toUInt32 31)).toInt32) &&& 1431655765))) >>> ((Int32.toUInt32 2) &&& Int32.toUInt32 31)).toInt32) &&& 858993459))) >>> ((Int32.toUInt32 4) &&& Int32.toUInt32 31)).toInt32)) &&& 252645135))] rfl (by decide) rfl dJ6_bitCount_0f7a4_33 ?_
  refine z_iload_n C 0 rfl dJ6_bitCount_0f7a4_34 ?_
  refine z_iload_n C 0 rfl dJ6_bitCount_0f7a4_35 ?_
  refine z_bipush C (v := 8) dJ6_bitCount_0f7a4_36 (by decide) ?_
  refine z_iushr C dJ6_bitCount_0f7a4_38 ?_
  refine z_iadd C dJ6_bitCount_0f7a4_39 ?_
  refine z_istore_n C [(0, .int ((((((p0 - ((((Int32.toUInt32 p0) >>> ((Int32.toUInt32 1) &&& Int32.toUInt32 31)).toInt32) &&& 1431655765)) &&& 858993459) + ((((Int32.toUInt32 (p0 - ((((Int32.toUInt32 p0) >>> ((Int32.toUInt32 1) &&& Int32.toUInt32 31)).toInt32) &&& 1431655765))) >>> ((Int32.toUInt32 2) &&& Int32.toUInt32 31)).toInt32) &&& 858993459)) + (((Int32.toUInt32 (((p0 - ((((Int32.toUInt32 p0) >>> ((Int32.toUInt32 1) &&& Int32.toUInt32 31)).toInt32) &&& 1431655765)) &&& 858993459) + ((((Int32.toUInt32 (p0 - ((((Int32.toUInt32 p0) >>> ((Int32.toUInt32 1) &&& Int32.toUInt32 31)).toInt32) &&& 1431655765))) >>> ((Int32.toUInt32 2) &&& Int32.toUInt32 31)).toInt32) &&& 858993459))) >>> ((Int32.toUInt32 4) &&& Int32.toUInt32 31)).toInt32)) &&& 252645135) + (((Int32.toUInt32 (((((p0 - ((((Int32.toUInt32 p0) >>> ((Int32.toUInt32 1) &&& Int32.toUInt32 31)).toInt32) &&& 1431655765)) &&& 858993459) + ((((Int32.toUInt32 (p0 - ((((Int32.toUInt32 p0) >>> ((Int32.toUInt32 1) &&& Int32.toUInt32 31)).toInt32) &&& 1431655765))) >>> ((Int32.toUInt32 2) &&& Int32.toUInt32 31)).toInt32) &&& 858993459)) + (((Int32.toUInt32 (((p0 - ((((Int32.toUInt32 p0) >>> ((Int32.toUInt32 1) &&& Int32.toUInt32 31)).toInt32) &&& 1431655765)) &&& 858993459) + ((((Int32.toUInt32 (p0 - ((((Int32.toUInt32 p0) >>> ((Int32.toUInt32 1) &&& Int32.toUInt32 31)).toInt32) &&& 1431655765))) >>> ((Int32.toUInt32 2) &&& Int32.toUInt32 31)).toInt32) &&& 858993459))) >>> ((Int32.toUInt32 4) &&& Int32.toUInt32 31)).toInt32)) &&& 252645135)) >>> ((Int32.toUInt32 8) &&& Int32.toUInt32 31)).toInt32)))] rfl (by decide) rfl dJ6_bitCount_0f7a4_40 ?_
  refine z_iload_n C 0 rfl dJ6_bitCount_0f7a4_41 ?_
  refine z_iload_n C 0 rfl dJ6_bitCount_0f7a4_42 ?_
  refine z_bipush C (v := 16) dJ6_bitCount_0f7a4_43 (by decide) ?_
  refine z_iushr C dJ6_bitCount_0f7a4_45 ?_
  refine z_iadd C dJ6_bitCount_0f7a4_46 ?_
  refine z_istore_n C [(0, .int (((((((p0 - ((((Int32.toUInt32 p0) >>> ((Int32.toUInt32 1) &&& Int32.toUInt32 31)).toInt32) &&& 1431655765)) &&& 858993459) + ((((Int32.toUInt32 (p0 - ((((Int32.toUInt32 p0) >>> ((Int32.toUInt32 1) &&& Int32.toUInt32 31)).toInt32) &&& 1431655765))) >>> ((Int32.toUInt32 2) &&& Int32.toUInt32 31)).toInt32) &&& 858993459)) + (((Int32.toUInt32 (((p0 - ((((Int32.toUInt32 p0) >>> ((Int32.toUInt32 1) &&& Int32.toUInt32 31)).toInt32) &&& 1431655765)) &&& 858993459) + ((((Int32.toUInt32 (p0 - ((((Int32.toUInt32 p0) >>> ((Int32.toUInt32 1) &&& Int32.toUInt32 31)).toInt32) &&& 1431655765))) >>> ((Int32.toUInt32 2) &&& Int32.toUInt32 31)).toInt32) &&& 858993459))) >>> ((Int32.toUInt32 4) &&& Int32.toUInt32 31)).toInt32)) &&& 252645135) + (((Int32.toUInt32 (((((p0 - ((((Int32.toUInt32 p0) >>> ((Int32.toUInt32 1) &&& Int32.toUInt32 31)).toInt32) &&& 1431655765)) &&& 858993459) + ((((Int32.toUInt32 (p0 - ((((Int32.toUInt32 p0) >>> ((Int32.toUInt32 1) &&& Int32.toUInt32 31)).toInt32) &&& 1431655765))) >>> ((Int32.toUInt32 2) &&& Int32.toUInt32 31)).toInt32) &&& 858993459)) + (((Int32.toUInt32 (((p0 - ((((Int32.toUInt32 p0) >>> ((Int32.toUInt32 1) &&& Int32.toUInt32 31)).toInt32) &&& 1431655765)) &&& 858993459) + ((((Int32.toUInt32 (p0 - ((((Int32.toUInt32 p0) >>> ((Int32.toUInt32 1) &&& Int32.toUInt32 31)).toInt32) &&& 1431655765))) >>> ((Int32.toUInt32 2) &&& Int32.toUInt32 31)).toInt32) &&& 858993459))) >>> ((Int32.toUInt32 4) &&& Int32.toUInt32 31)).toInt32)) &&& 252645135)) >>> ((Int32.toUInt32 8) &&& Int32.toUInt32 31)).toInt32)) + (((Int32.toUInt32 ((((((p0 - ((((Int32.toUInt32 p0) >>> ((Int32.toUInt32 1) &&& Int32.toUInt32 31)).toInt32) &&& 1431655765)) &&& 858993459) + ((((Int32.toUInt32 (p0 - ((((Int32.toUInt32 p0) >>> ((Int32.toUInt32 1) &&& Int32.toUInt32 31)).toInt32) &&& 1431655765))) >>> ((Int32.toUInt32 2) &&& Int32.toUInt32 31)).toInt32) &&& 858993459)) + (((Int32.toUInt32 (((p0 - ((((Int32.toUInt32 p0) >>> ((Int32.toUInt32 1) &&& Int32.toUInt32 31)).toInt32) &&& 1431655765)) &&& 858993459) + ((((Int32.toUInt32 (p0 - ((((Int32.toUInt32 p0) >>> ((Int32.toUInt32 1) &&& Int32.toUInt32 31)).toInt32) &&& 1431655765))) >>> ((Int32.toUInt32 2) &&& Int32.toUInt32 31)).toInt32) &&& 858993459))) >>> ((Int32.toUInt32 4) &&& Int32.toUInt32 31)).toInt32)) &&& 252645135) + (((Int32.toUInt32 (((((p0 - ((((Int32.toUInt32 p0) >>> ((Int32.toUInt32 1) &&& Int32.toUInt32 31)).toInt32) &&& 1431655765)) &&& 858993459) + ((((Int32.toUInt32 (p0 - ((((Int32.toUInt32 p0) >>> ((Int32.toUInt32 1) &&& Int32.toUInt32 31)).toInt32) &&& 1431655765))) >>> ((Int32.toUInt32 2) &&& Int32.toUInt32 31)).toInt32) &&& 858993459)) + (((Int32.toUInt32 (((p0 - ((((Int32.toUInt32 p0) >>> ((Int32.toUInt32 1) &&& Int32.toUInt32 31)).toInt32) &&& 1431655765)) &&& 858993459) + ((((Int32.toUInt32 (p0 - ((((Int32.toUInt32 p0) >>> ((Int32.toUInt32 1) &&& Int32.toUInt32 31)).toInt32) &&& 1431655765))) >>> ((Int32.toUInt32 2) &&& Int32.toUInt32 31)).toInt32) &&& 858993459))) >>> ((Int32.toUInt32 4) &&& Int32.toUInt32 31)).toInt32)) &&& 252645135)) >>> ((Int32.toUInt32 8) &&& Int32.toUInt32 31)).toInt32))) >>> ((Int32.toUInt32 16) &&& Int32.toUInt32 31)).toInt32)))] rfl (by decide) rfl dJ6_bitCount_0f7a4_47 ?_
  refine z_iload_n C 0 rfl dJ6_bitCount_0f7a4_48 ?_
  refine z_bipush C (v := 63) dJ6_bitCount_0f7a4_49 (by decide) ?_
  refine z_iand C dJ6_bitCount_0f7a4_51 ?_
  cases h
  exact z_iret C hr hlk dJ6_bitCount_0f7a4_52
end
