section
-- PART A of the skeleton, the names and field tables: printed texts (claim/NAMES.whole, kit/laws/SKELETON); the rest by gen_names.py
/-- a private method of a class that the tables say can be made, by its rows of tables_1 -/
def lw_okq (q : MethodName × Nat) : Prop := (q.1.cls ≠ "java/lang/invoke/MethodHandle" ∧ q.1.cls ≠ "java/lang/invoke/VarHandle") ∧ Cond.instantiable q.1.cls q.2 ∈ tables_1 ∧ Cond.privateMethod q.1 ∈ tables_1 ∧ Cond.instanceMethod q.1 ∈ tables_1
theorem lw_p0 : lw_okq (⟨"TideMill", "finding", "(I)I"⟩, 16) := ⟨⟨by decide +kernel, by decide +kernel⟩, List.mem_of_getElem? (i := 16) (by decide +kernel), List.mem_of_getElem? (i := 392) (by decide +kernel), List.mem_of_getElem? (i := 393) (by decide +kernel)⟩
theorem lw_p1 : lw_okq (⟨"TideMill", "isPond", "(I)Z"⟩, 16) := ⟨⟨by decide +kernel, by decide +kernel⟩, List.mem_of_getElem? (i := 16) (by decide +kernel), List.mem_of_getElem? (i := 420) (by decide +kernel), List.mem_of_getElem? (i := 421) (by decide +kernel)⟩
theorem lw_p2 : lw_okq (⟨"TideMill", "isMill", "(I)Z"⟩, 16) := ⟨⟨by decide +kernel, by decide +kernel⟩, List.mem_of_getElem? (i := 16) (by decide +kernel), List.mem_of_getElem? (i := 476) (by decide +kernel), List.mem_of_getElem? (i := 477) (by decide +kernel)⟩
theorem lw_p3 : lw_okq (⟨"TideMill", "countWater", "()V"⟩, 16) := ⟨⟨by decide +kernel, by decide +kernel⟩, List.mem_of_getElem? (i := 16) (by decide +kernel), List.mem_of_getElem? (i := 570) (by decide +kernel), List.mem_of_getElem? (i := 571) (by decide +kernel)⟩
theorem lw_p4 : lw_okq (⟨"TideMill", "handOutGround", "()I"⟩, 16) := ⟨⟨by decide +kernel, by decide +kernel⟩, List.mem_of_getElem? (i := 16) (by decide +kernel), List.mem_of_getElem? (i := 574) (by decide +kernel), List.mem_of_getElem? (i := 575) (by decide +kernel)⟩
theorem lw_p5 : lw_okq (⟨"TideMill", "startLater", "()V"⟩, 16) := ⟨⟨by decide +kernel, by decide +kernel⟩, List.mem_of_getElem? (i := 16) (by decide +kernel), List.mem_of_getElem? (i := 600) (by decide +kernel), List.mem_of_getElem? (i := 601) (by decide +kernel)⟩
theorem lw_p6 : lw_okq (⟨"TideMill", "waterInPonds", "()I"⟩, 16) := ⟨⟨by decide +kernel, by decide +kernel⟩, List.mem_of_getElem? (i := 16) (by decide +kernel), List.mem_of_getElem? (i := 652) (by decide +kernel), List.mem_of_getElem? (i := 653) (by decide +kernel)⟩
theorem lw_p7 : lw_okq (⟨"TideMillModel", "finding", "(J)J"⟩, 37) := ⟨⟨by decide +kernel, by decide +kernel⟩, List.mem_of_getElem? (i := 676) (by decide +kernel), List.mem_of_getElem? (i := 805) (by decide +kernel), List.mem_of_getElem? (i := 806) (by decide +kernel)⟩
theorem lw_p8 : lw_okq (⟨"TideMillModel", "tideOf", "(I)I"⟩, 37) := ⟨⟨by decide +kernel, by decide +kernel⟩, List.mem_of_getElem? (i := 676) (by decide +kernel), List.mem_of_getElem? (i := 818) (by decide +kernel), List.mem_of_getElem? (i := 819) (by decide +kernel)⟩
theorem lw_p9 : lw_okq (⟨"TideMillModel", "isPond", "(I)Z"⟩, 37) := ⟨⟨by decide +kernel, by decide +kernel⟩, List.mem_of_getElem? (i := 676) (by decide +kernel), List.mem_of_getElem? (i := 831) (by decide +kernel), List.mem_of_getElem? (i := 832) (by decide +kernel)⟩
theorem lw_p10 : lw_okq (⟨"TideMillModel", "isMill", "(I)Z"⟩, 37) := ⟨⟨by decide +kernel, by decide +kernel⟩, List.mem_of_getElem? (i := 676) (by decide +kernel), List.mem_of_getElem? (i := 859) (by decide +kernel), List.mem_of_getElem? (i := 860) (by decide +kernel)⟩
theorem lw_p11 : lw_okq (⟨"TideMillModel", "goes", "([IIIZ)V"⟩, 37) := ⟨⟨by decide +kernel, by decide +kernel⟩, List.mem_of_getElem? (i := 676) (by decide +kernel), List.mem_of_getElem? (i := 894) (by decide +kernel), List.mem_of_getElem? (i := 895) (by decide +kernel)⟩
theorem lw_p12 : lw_okq (⟨"TideMillModel", "gates", "([II)V"⟩, 37) := ⟨⟨by decide +kernel, by decide +kernel⟩, List.mem_of_getElem? (i := 676) (by decide +kernel), List.mem_of_getElem? (i := 898) (by decide +kernel), List.mem_of_getElem? (i := 899) (by decide +kernel)⟩
theorem lw_p13 : lw_okq (⟨"TideMillModel", "flows", "(II)V"⟩, 37) := ⟨⟨by decide +kernel, by decide +kernel⟩, List.mem_of_getElem? (i := 676) (by decide +kernel), List.mem_of_getElem? (i := 903) (by decide +kernel), List.mem_of_getElem? (i := 904) (by decide +kernel)⟩
theorem lw_p14 : lw_okq (⟨"TideMillModel", "evens", "([I)V"⟩, 37) := ⟨⟨by decide +kernel, by decide +kernel⟩, List.mem_of_getElem? (i := 676) (by decide +kernel), List.mem_of_getElem? (i := 907) (by decide +kernel), List.mem_of_getElem? (i := 908) (by decide +kernel)⟩
theorem lw_p15 : lw_okq (⟨"TideMillModel", "turns", "([III)V"⟩, 37) := ⟨⟨by decide +kernel, by decide +kernel⟩, List.mem_of_getElem? (i := 676) (by decide +kernel), List.mem_of_getElem? (i := 911) (by decide +kernel), List.mem_of_getElem? (i := 912) (by decide +kernel)⟩
def lw_privs_1 : List (MethodName × Nat) := [(⟨"TideMill", "finding", "(I)I"⟩, 16), (⟨"TideMill", "isPond", "(I)Z"⟩, 16), (⟨"TideMill", "isMill", "(I)Z"⟩, 16), (⟨"TideMill", "countWater", "()V"⟩, 16), (⟨"TideMill", "handOutGround", "()I"⟩, 16), (⟨"TideMill", "startLater", "()V"⟩, 16), (⟨"TideMill", "waterInPonds", "()I"⟩, 16), (⟨"TideMillModel", "finding", "(J)J"⟩, 37), (⟨"TideMillModel", "tideOf", "(I)I"⟩, 37), (⟨"TideMillModel", "isPond", "(I)Z"⟩, 37), (⟨"TideMillModel", "isMill", "(I)Z"⟩, 37), (⟨"TideMillModel", "goes", "([IIIZ)V"⟩, 37), (⟨"TideMillModel", "gates", "([II)V"⟩, 37), (⟨"TideMillModel", "flows", "(II)V"⟩, 37), (⟨"TideMillModel", "evens", "([I)V"⟩, 37), (⟨"TideMillModel", "turns", "([III)V"⟩, 37)]
theorem lw_r1 : ∀ q ∈ lw_privs_1, lw_okq q := List.forall_mem_cons.mpr ⟨lw_p0, List.forall_mem_cons.mpr ⟨lw_p1, List.forall_mem_cons.mpr ⟨lw_p2, List.forall_mem_cons.mpr ⟨lw_p3, List.forall_mem_cons.mpr ⟨lw_p4, List.forall_mem_cons.mpr ⟨lw_p5, List.forall_mem_cons.mpr ⟨lw_p6, List.forall_mem_cons.mpr ⟨lw_p7, List.forall_mem_cons.mpr ⟨lw_p8, List.forall_mem_cons.mpr ⟨lw_p9, List.forall_mem_cons.mpr ⟨lw_p10, List.forall_mem_cons.mpr ⟨lw_p11, List.forall_mem_cons.mpr ⟨lw_p12, List.forall_mem_cons.mpr ⟨lw_p13, List.forall_mem_cons.mpr ⟨lw_p14, List.forall_mem_cons.mpr ⟨lw_p15, fun _ h => absurd h List.not_mem_nil⟩⟩⟩⟩⟩⟩⟩⟩⟩⟩⟩⟩⟩⟩⟩⟩
theorem lw_p16 : lw_okq (⟨"TideMillModel", "turn", "([IIIII)V"⟩, 37) := ⟨⟨by decide +kernel, by decide +kernel⟩, List.mem_of_getElem? (i := 676) (by decide +kernel), List.mem_of_getElem? (i := 915) (by decide +kernel), List.mem_of_getElem? (i := 916) (by decide +kernel)⟩
theorem lw_p17 : lw_okq (⟨"TideMillModel", "keptFor", "(I)I"⟩, 37) := ⟨⟨by decide +kernel, by decide +kernel⟩, List.mem_of_getElem? (i := 676) (by decide +kernel), List.mem_of_getElem? (i := 919) (by decide +kernel), List.mem_of_getElem? (i := 920) (by decide +kernel)⟩
theorem lw_p18 : lw_okq (⟨"TideMillModel", "gives", "(II)V"⟩, 37) := ⟨⟨by decide +kernel, by decide +kernel⟩, List.mem_of_getElem? (i := 676) (by decide +kernel), List.mem_of_getElem? (i := 923) (by decide +kernel), List.mem_of_getElem? (i := 924) (by decide +kernel)⟩
theorem lw_p19 : lw_okq (⟨"TideMillModel", "done", "(II)V"⟩, 37) := ⟨⟨by decide +kernel, by decide +kernel⟩, List.mem_of_getElem? (i := 676) (by decide +kernel), List.mem_of_getElem? (i := 927) (by decide +kernel), List.mem_of_getElem? (i := 928) (by decide +kernel)⟩
theorem lw_p20 : lw_okq (⟨"TideMillModel", "spills", "([I)V"⟩, 37) := ⟨⟨by decide +kernel, by decide +kernel⟩, List.mem_of_getElem? (i := 676) (by decide +kernel), List.mem_of_getElem? (i := 931) (by decide +kernel), List.mem_of_getElem? (i := 932) (by decide +kernel)⟩
theorem lw_p21 : lw_okq (⟨"TideMillModel", "begin", "()V"⟩, 37) := ⟨⟨by decide +kernel, by decide +kernel⟩, List.mem_of_getElem? (i := 676) (by decide +kernel), List.mem_of_getElem? (i := 939) (by decide +kernel), List.mem_of_getElem? (i := 940) (by decide +kernel)⟩
def lw_privs_2 : List (MethodName × Nat) := [(⟨"TideMillModel", "turn", "([IIIII)V"⟩, 37), (⟨"TideMillModel", "keptFor", "(I)I"⟩, 37), (⟨"TideMillModel", "gives", "(II)V"⟩, 37), (⟨"TideMillModel", "done", "(II)V"⟩, 37), (⟨"TideMillModel", "spills", "([I)V"⟩, 37), (⟨"TideMillModel", "begin", "()V"⟩, 37)]
theorem lw_r2 : ∀ q ∈ lw_privs_2, lw_okq q := List.forall_mem_cons.mpr ⟨lw_p16, List.forall_mem_cons.mpr ⟨lw_p17, List.forall_mem_cons.mpr ⟨lw_p18, List.forall_mem_cons.mpr ⟨lw_p19, List.forall_mem_cons.mpr ⟨lw_p20, List.forall_mem_cons.mpr ⟨lw_p21, fun _ h => absurd h List.not_mem_nil⟩⟩⟩⟩⟩⟩
def lw_privs : List (MethodName × Nat) := lw_privs_1 ++ (lw_privs_2)
def lw_tbl : List Cond := k2_sels lw_privs ++ tables_1
theorem lw_privs_ok : ∀ q ∈ lw_privs, lw_okq q := by
  show ∀ q ∈ lw_privs_1 ++ (lw_privs_2), lw_okq q
  exact List.forall_mem_append.mpr ⟨lw_r1, lw_r2⟩
def RX0 : String := "TideMill$Channel"
def TX0 : u_T := fun k => match k with
  | 0 => ("TideMill$Channel", "a", "I", false)
  | 1 => ("TideMill$Channel", "b", "I", false)
  | _ => ("TideMill$Channel", "width", "I", false)
def tyX0 : Nat → FieldType := fun k => match k with
  | 0 => .int
  | 1 => .int
  | _ => .int
def RX1 : String := "TideMill$Flow"
def TX1 : u_T := fun k => match k with
  | 0 => ("TideMill$Flow", "works", "LTideMill$Works;", true)
  | 1 => ("TideMill$Flow", "ground", "[I", true)
  | 2 => ("TideMill$Flow", "cameIn", "I", false)
  | 3 => ("TideMill$Flow", "wentOut", "I", false)
  | 4 => ("TideMill$Flow", "spilt", "I", false)
  | _ => ("TideMill$Flow", "drawn", "I", false)
def tyX1 : Nat → FieldType := fun k => match k with
  | 0 => .object "TideMill$Works"
  | 1 => .array .int
  | 2 => .int
  | 3 => .int
  | 4 => .int
  | _ => .int
def RX2 : String := "TideMill$Mill"
def TX2 : u_T := fun k => match k with
  | 0 => ("TideMill$Mill", "stones", "[LTideMill$Stone;", true)
  | 1 => ("TideMill$Mill", "sacks", "[LTideMill$Sack;", true)
  | 2 => ("TideMill$Mill", "kind", "I", false)
  | 3 => ("TideMill$Mill", "pond", "I", false)
  | 4 => ("TideMill$Mill", "rank", "I", false)
  | 5 => ("TideMill$Mill", "keeps", "I", false)
  | 6 => ("TideMill$Mill", "customer", "I", false)
  | 7 => ("TideMill$Mill", "stoneCount", "I", false)
  | 8 => ("TideMill$Mill", "sackCount", "I", false)
  | 9 => ("TideMill$Mill", "ground", "I", false)
  | 10 => ("TideMill$Mill", "toll", "I", false)
  | 11 => ("TideMill$Mill", "done", "I", false)
  | 12 => ("TideMill$Mill", "late", "I", false)
  | 13 => ("TideMill$Mill", "idle", "I", false)
  | _ => ("TideMill$Mill", "cloth", "I", false)
def tyX2 : Nat → FieldType := fun k => match k with
  | 0 => .array (.object "TideMill$Stone")
  | 1 => .array (.object "TideMill$Sack")
  | 2 => .int
  | 3 => .int
  | 4 => .int
  | 5 => .int
  | 6 => .int
  | 7 => .int
  | 8 => .int
  | 9 => .int
  | 10 => .int
  | 11 => .int
  | 12 => .int
  | 13 => .int
  | _ => .int
def RX3 : String := "TideMill$Pond"
def TX3 : u_T := fun k => match k with
  | 0 => ("TideMill$Pond", "area", "I", false)
  | 1 => ("TideMill$Pond", "bank", "I", false)
  | 2 => ("TideMill$Pond", "width", "I", false)
  | _ => ("TideMill$Pond", "gate", "I", false)
def tyX3 : Nat → FieldType := fun k => match k with
  | 0 => .int
  | 1 => .int
  | 2 => .int
  | _ => .int
def RX4 : String := "TideMill$Sack"
def TX4 : u_T := fun k => match k with
  | 0 => ("TideMill$Sack", "customer", "I", false)
  | 1 => ("TideMill$Sack", "amount", "I", false)
  | 2 => ("TideMill$Sack", "wants", "I", false)
  | _ => ("TideMill$Sack", "due", "I", false)
def tyX4 : Nat → FieldType := fun k => match k with
  | 0 => .int
  | 1 => .int
  | 2 => .int
  | _ => .int
def RX5 : String := "TideMill$Search"
def TX5 : u_T := fun k => match k with
  | 0 => ("TideMill$Search", "flow", "LTideMill$Flow;", true)
  | 1 => ("TideMill$Search", "tides", "LTideMill$Tides;", true)
  | 2 => ("TideMill$Search", "water", "[[I", true)
  | 3 => ("TideMill$Search", "mill", "I", false)
  | 4 => ("TideMill$Search", "hours", "I", false)
  | 5 => ("TideMill$Search", "firstHour", "I", false)
  | 6 => ("TideMill$Search", "bestSet", "I", false)
  | _ => ("TideMill$Search", "bestGround", "I", false)
def tyX5 : Nat → FieldType := fun k => match k with
  | 0 => .object "TideMill$Flow"
  | 1 => .object "TideMill$Tides"
  | 2 => .array (.array .int)
  | 3 => .int
  | 4 => .int
  | 5 => .int
  | 6 => .int
  | _ => .int
def RX6 : String := "TideMill$Stone"
def TX6 : u_T := fun k => match k with
  | 0 => ("TideMill$Stone", "least", "I", false)
  | 1 => ("TideMill$Stone", "draw", "I", false)
  | 2 => ("TideMill$Stone", "rate", "I", false)
  | 3 => ("TideMill$Stone", "most", "I", false)
  | _ => ("TideMill$Stone", "isOn", "Z", false)
def tyX6 : Nat → FieldType := fun k => match k with
  | 0 => .int
  | 1 => .int
  | 2 => .int
  | 3 => .int
  | _ => .boolean
def RX7 : String := "TideMill$Tides"
def TX7 : u_T := fun k => match k with
  | 0 => ("TideMill$Tides", "heights", "[I", true)
  | _ => ("TideMill$Tides", "round", "I", false)
def tyX7 : Nat → FieldType := fun k => match k with
  | 0 => .array .int
  | _ => .int
def RX8 : String := "TideMill$Works"
def TX8 : u_T := fun k => match k with
  | 0 => ("TideMill$Works", "ponds", "[LTideMill$Pond;", true)
  | 1 => ("TideMill$Works", "channels", "[LTideMill$Channel;", true)
  | 2 => ("TideMill$Works", "mills", "[LTideMill$Mill;", true)
  | 3 => ("TideMill$Works", "order", "[I", true)
  | 4 => ("TideMill$Works", "pondCount", "I", false)
  | 5 => ("TideMill$Works", "channelCount", "I", false)
  | _ => ("TideMill$Works", "millCount", "I", false)
def tyX8 : Nat → FieldType := fun k => match k with
  | 0 => .array (.object "TideMill$Pond")
  | 1 => .array (.object "TideMill$Channel")
  | 2 => .array (.object "TideMill$Mill")
  | 3 => .array .int
  | 4 => .int
  | 5 => .int
  | _ => .int
def RX9 : String := "TideMill"
def TX9 : u_T := fun k => match k with
  | 0 => ("TideMill", "tides", "LTideMill$Tides;", true)
  | 1 => ("TideMill", "works", "LTideMill$Works;", true)
  | 2 => ("TideMill", "flow", "LTideMill$Flow;", true)
  | 3 => ("TideMill", "search", "LTideMill$Search;", true)
  | 4 => ("TideMill", "water", "[I", true)
  | 5 => ("TideMill", "flourOf", "[I", true)
  | 6 => ("TideMill", "numbers", "[I", true)
  | 7 => ("TideMill", "findings", "[I", true)
  | 8 => ("TideMill", "later", "[I", true)
  | 9 => ("TideMill", "hour", "I", false)
  | 10 => ("TideMill", "numbersWaiting", "I", false)
  | 11 => ("TideMill", "cameIn", "I", false)
  | 12 => ("TideMill", "wentOut", "I", false)
  | 13 => ("TideMill", "spilt", "I", false)
  | 14 => ("TideMill", "drawn", "I", false)
  | _ => ("TideMill", "putIn", "I", false)
def tyX9 : Nat → FieldType := fun k => match k with
  | 0 => .object "TideMill$Tides"
  | 1 => .object "TideMill$Works"
  | 2 => .object "TideMill$Flow"
  | 3 => .object "TideMill$Search"
  | 4 => .array .int
  | 5 => .array .int
  | 6 => .array .int
  | 7 => .array .int
  | 8 => .array .int
  | 9 => .int
  | 10 => .int
  | 11 => .int
  | 12 => .int
  | 13 => .int
  | 14 => .int
  | _ => .int
def RX10 : String := "TideMillModel"
def TX10 : u_T := fun k => match k with
  | 0 => ("TideMillModel", "hour", "I", false)
  | 1 => ("TideMillModel", "round", "I", false)
  | 2 => ("TideMillModel", "heights", "[I", true)
  | 3 => ("TideMillModel", "ponds", "I", false)
  | 4 => ("TideMillModel", "areaOf", "[I", true)
  | 5 => ("TideMillModel", "bankOf", "[I", true)
  | 6 => ("TideMillModel", "widthOf", "[I", true)
  | 7 => ("TideMillModel", "gateOf", "[I", true)
  | 8 => ("TideMillModel", "waters", "[I", true)
  | 9 => ("TideMillModel", "channels", "I", false)
  | 10 => ("TideMillModel", "oneEnd", "[I", true)
  | 11 => ("TideMillModel", "otherEnd", "[I", true)
  | 12 => ("TideMillModel", "wideOf", "[I", true)
  | 13 => ("TideMillModel", "mills", "I", false)
  | 14 => ("TideMillModel", "kindOf", "[I", true)
  | 15 => ("TideMillModel", "pondOf", "[I", true)
  | 16 => ("TideMillModel", "rankOf", "[I", true)
  | 17 => ("TideMillModel", "keepsOf", "[I", true)
  | 18 => ("TideMillModel", "customerOf", "[I", true)
  | 19 => ("TideMillModel", "stones", "[I", true)
  | 20 => ("TideMillModel", "least", "[I", true)
  | 21 => ("TideMillModel", "draw", "[I", true)
  | 22 => ("TideMillModel", "rate", "[I", true)
  | 23 => ("TideMillModel", "most", "[I", true)
  | 24 => ("TideMillModel", "on", "I", false)
  | 25 => ("TideMillModel", "sacks", "[I", true)
  | 26 => ("TideMillModel", "row", "[I", true)
  | 27 => ("TideMillModel", "account", "[J", true)
  | 28 => ("TideMillModel", "flour", "[J", true)
  | 29 => ("TideMillModel", "flows", "[J", true)
  | 30 => ("TideMillModel", "tells", "I", false)
  | 31 => ("TideMillModel", "told", "[I", true)
  | 32 => ("TideMillModel", "findings", "[J", true)
  | 33 => ("TideMillModel", "ahead", "[I", true)
  | 34 => ("TideMillModel", "ran", "I", false)
  | 35 => ("TideMillModel", "grinds", "[J", true)
  | _ => ("TideMillModel", "isMeant", "Z", false)
def tyX10 : Nat → FieldType := fun k => match k with
  | 0 => .int
  | 1 => .int
  | 2 => .array .int
  | 3 => .int
  | 4 => .array .int
  | 5 => .array .int
  | 6 => .array .int
  | 7 => .array .int
  | 8 => .array .int
  | 9 => .int
  | 10 => .array .int
  | 11 => .array .int
  | 12 => .array .int
  | 13 => .int
  | 14 => .array .int
  | 15 => .array .int
  | 16 => .array .int
  | 17 => .array .int
  | 18 => .array .int
  | 19 => .array .int
  | 20 => .array .int
  | 21 => .array .int
  | 22 => .array .int
  | 23 => .array .int
  | 24 => .int
  | 25 => .array .int
  | 26 => .array .int
  | 27 => .array .long
  | 28 => .array .long
  | 29 => .array .long
  | 30 => .int
  | 31 => .array .int
  | 32 => .array .long
  | 33 => .array .int
  | 34 => .int
  | 35 => .array .long
  | _ => .boolean
def RJ6 : String := "java/lang/Integer"
def RL : String := "TideMillLaw"
def lw_good : List Cond := lw_tbl.filter goodWord
def RN (k : Nat) : String := [RX0, RX1, RX2, RX3, RX4, RX5, RX6, RX7, RX8, RX9, RX10, RL, RJ6].getD k RX0
def TN (k : Nat) : u_T := [TX0, TX1, TX2, TX3, TX4, TX5, TX6, TX7, TX8, TX9, TX10].getD k TX0
def tyN (k : Nat) : Nat → FieldType := [tyX0, tyX1, tyX2, tyX3, tyX4, tyX5, tyX6, tyX7, tyX8, tyX9, tyX10].getD k tyX0
def nfN (k : Nat) : Nat := [3, 6, 15, 4, 4, 8, 5, 2, 7, 16, 37].getD k 0
def mCl : List vw_C := (List.range 11).map (fun k => (RN k, TN k, nfN k))
/-- the methods: name, bytes, locals, answer, kl number, parameters -/
def mTab : List (MethodName × ByteArray × Nat × Option FieldType × Nat × Nat) := [
  (⟨RX0, "<init>", "()V"⟩, prog_2_method_1_code, 1, none, 0, 0),
  (⟨RX1, "<init>", "(LTideMill$Works;)V"⟩, prog_3_method_1_code, 2, none, 1, 1),
  (⟨RX1, "goBy", "([III)V"⟩, prog_3_method_2_code, 4, none, 1, 3),
  (⟨RX1, "passGates", "([II)V"⟩, prog_3_method_3_code, 6, none, 1, 2),
  (⟨RX1, "passChannels", "([I)V"⟩, prog_3_method_4_code, 6, none, 1, 1),
  (⟨RX1, "lead", "([IIII)V"⟩, prog_3_method_5_code, 9, none, 1, 4),
  (⟨RX1, "runMills", "([III)V"⟩, prog_3_method_6_code, 6, none, 1, 3),
  (⟨RX1, "runStones", "([III)V"⟩, prog_3_method_7_code, 11, none, 1, 3),
  (⟨RX1, "spillBanks", "([I)V"⟩, prog_3_method_8_code, 4, none, 1, 1),
  (⟨RX1, "groundBy", "(I)I"⟩, prog_3_method_9_code, 4, (some .int), 1, 1),
  (⟨RX1, "stonesThatRan", "(I)I"⟩, prog_3_method_10_code, 4, (some .int), 1, 1),
  (⟨RX2, "<init>", "()V"⟩, prog_4_method_1_code, 2, none, 2, 0),
  (⟨RX2, "isOf", "(I)Z"⟩, prog_4_method_2_code, 2, (some .boolean), 2, 1),
  (⟨RX2, "take", "(II[I)V"⟩, prog_4_method_3_code, 8, none, 2, 3),
  (⟨RX2, "finishFirst", "(I[I)V"⟩, prog_4_method_4_code, 6, none, 2, 2),
  (⟨RX3, "<init>", "()V"⟩, prog_5_method_1_code, 1, none, 3, 0),
  (⟨RX3, "level", "(I)I"⟩, prog_5_method_2_code, 2, (some .int), 3, 1),
  (⟨RX3, "brim", "()I"⟩, prog_5_method_3_code, 1, (some .int), 3, 0),
  (⟨RX3, "comesIn", "(II)I"⟩, prog_5_method_4_code, 4, (some .int), 3, 2),
  (⟨RX3, "goesOut", "(II)I"⟩, prog_5_method_5_code, 4, (some .int), 3, 2),
  (⟨RX4, "<init>", "()V"⟩, prog_6_method_1_code, 1, none, 4, 0),
  (⟨RX5, "<init>", "(LTideMill$Works;LTideMill$Tides;)V"⟩, prog_7_method_1_code, 3, none, 5, 2),
  (⟨RX5, "start", "(III[I)V"⟩, prog_7_method_2_code, 5, none, 5, 4),
  (⟨RX5, "goWith", "(I)I"⟩, prog_7_method_3_code, 2, (some .int), 5, 1),
  (⟨RX5, "goWithout", "(I)V"⟩, prog_7_method_4_code, 2, none, 5, 1),
  (⟨RX5, "goOn", "(II)V"⟩, prog_7_method_5_code, 3, none, 5, 2),
  (⟨RX5, "keepIfBetter", "(II)V"⟩, prog_7_method_6_code, 5, none, 5, 2),
  (⟨RX6, "<init>", "()V"⟩, prog_8_method_1_code, 1, none, 6, 0),
  (⟨RX6, "runs", "(III)Z"⟩, prog_8_method_2_code, 4, (some .boolean), 6, 3),
  (⟨RX6, "grinds", "(I)I"⟩, prog_8_method_3_code, 2, (some .int), 6, 1),
  (⟨RX7, "<init>", "()V"⟩, prog_9_method_1_code, 2, none, 7, 0),
  (⟨RX7, "at", "(I)I"⟩, prog_9_method_2_code, 2, (some .int), 7, 1),
  (⟨RX8, "<init>", "()V"⟩, prog_10_method_1_code, 2, none, 8, 0),
  (⟨RX8, "putInOrder", "(I)V"⟩, prog_10_method_2_code, 3, none, 8, 1),
  (⟨RX8, "millsAt", "(I)I"⟩, prog_10_method_3_code, 4, (some .int), 8, 1),
  (⟨RX8, "sacksWaiting", "()I"⟩, prog_10_method_4_code, 3, (some .int), 8, 0),
  (⟨RX8, "keptFrom", "(LTideMill$Mill;)I"⟩, prog_10_method_5_code, 5, (some .int), 8, 1),
  (⟨RX9, "<init>", "()V"⟩, prog_1_method_1_code, 1, none, 9, 0),
  (⟨RX9, "round", "(I)I"⟩, prog_1_method_2_code, 3, (some .int), 9, 1),
  (⟨RX9, "height", "(II)I"⟩, prog_1_method_3_code, 4, (some .int), 9, 2),
  (⟨RX9, "tide", "(I)I"⟩, prog_1_method_4_code, 2, (some .int), 9, 1),
  (⟨RX9, "pond", "(III)I"⟩, prog_1_method_5_code, 6, (some .int), 9, 3),
  (⟨RX9, "gate", "(II)I"⟩, prog_1_method_6_code, 4, (some .int), 9, 2),
  (⟨RX9, "water", "(II)I"⟩, prog_1_method_7_code, 4, (some .int), 9, 2),
  (⟨RX9, "channel", "(III)I"⟩, prog_1_method_8_code, 6, (some .int), 9, 3),
  (⟨RX9, "widen", "(II)I"⟩, prog_1_method_9_code, 4, (some .int), 9, 2),
  (⟨RX9, "about", "(II)I"⟩, prog_1_method_10_code, 4, (some .int), 9, 2),
  (⟨RX9, "mill", "(IIIII)I"⟩, prog_1_method_11_code, 8, (some .int), 9, 5),
  (⟨RX9, "as", "(II)I"⟩, prog_1_method_12_code, 3, (some .int), 9, 2),
  (⟨RX9, "stone", "(IIIII)I"⟩, prog_1_method_13_code, 9, (some .int), 9, 5),
  (⟨RX9, "on", "(III)I"⟩, prog_1_method_14_code, 6, (some .int), 9, 3),
  (⟨RX9, "sack", "(IIII)I"⟩, prog_1_method_15_code, 7, (some .int), 9, 4),
  (⟨RX9, "row", "(III)I"⟩, prog_1_method_16_code, 6, (some .int), 9, 3),
  (⟨RX9, "told", "(II)I"⟩, prog_1_method_17_code, 4, (some .int), 9, 2),
  (⟨RX9, "flour", "(I)I"⟩, prog_1_method_18_code, 2, (some .int), 9, 1),
  (⟨RX9, "hours", "(I)I"⟩, prog_1_method_19_code, 4, (some .int), 9, 1),
  (⟨RX9, "running", "()I"⟩, prog_1_method_20_code, 3, (some .int), 9, 0),
  (⟨RX9, "best", "(III)I"⟩, prog_1_method_21_code, 4, (some .int), 9, 3),
  (⟨RX9, "ahead", "(II)I"⟩, prog_1_method_22_code, 4, (some .int), 9, 2),
  (⟨RX9, "all", "(I)I"⟩, prog_1_method_23_code, 2, (some .int), 9, 1),
  (⟨RX9, "tell", "(I)I"⟩, prog_1_method_24_code, 2, (some .int), 9, 1),
  (⟨RX9, "check", "(I)I"⟩, prog_1_method_25_code, 4, (some .int), 9, 1),
  (⟨RX9, "count", "(I)I"⟩, prog_1_method_26_code, 2, (some .int), 9, 1),
  (⟨RX9, "found", "(I)I"⟩, prog_1_method_27_code, 2, (some .int), 9, 1),
  (⟨RX9, "finding", "(I)I"⟩, prog_1_method_28_code, 2, (some .int), 9, 1),
  (⟨RX9, "isWithin", "(III)Z"⟩, prog_1_method_29_code, 3, (some .boolean), 9, 3),
  (⟨RX9, "isWidth", "(I)Z"⟩, prog_1_method_30_code, 1, (some .boolean), 9, 1),
  (⟨RX9, "isKind", "(I)Z"⟩, prog_1_method_31_code, 1, (some .boolean), 9, 1),
  (⟨RX9, "isCustomer", "(I)Z"⟩, prog_1_method_32_code, 1, (some .boolean), 9, 1),
  (⟨RX9, "isCustomerOfKind", "(II)Z"⟩, prog_1_method_33_code, 2, (some .boolean), 9, 2),
  (⟨RX9, "isPond", "(I)Z"⟩, prog_1_method_34_code, 2, (some .boolean), 9, 1),
  (⟨RX9, "isMill", "(I)Z"⟩, prog_1_method_35_code, 2, (some .boolean), 9, 1),
  (⟨RX9, "waterInPonds", "()I"⟩, prog_1_method_36_code, 3, (some .int), 9, 0),
  (⟨RX9, "countWater", "()V"⟩, prog_1_method_37_code, 1, none, 9, 0),
  (⟨RX9, "handOutGround", "()I"⟩, prog_1_method_38_code, 5, (some .int), 9, 0),
  (⟨RX9, "startLater", "()V"⟩, prog_1_method_39_code, 1, none, 9, 0),
  (⟨RX9, "searchFrom", "(LTideMill$Search;III)V"⟩, prog_1_method_40_code, 5, none, 9, 4),
  (⟨RX9, "cut", "(II)I"⟩, prog_1_method_41_code, 2, (some .int), 9, 2),
  (⟨RX10, "<init>", "()V"⟩, prog_12_method_1_code, 2, none, 10, 0),
  (⟨RX10, "finding", "(J)J"⟩, prog_12_method_2_code, 3, (some .long), 10, 1),
  (⟨RX10, "within", "(III)Z"⟩, prog_12_method_3_code, 3, (some .boolean), 10, 3),
  (⟨RX10, "isPond", "(I)Z"⟩, prog_12_method_4_code, 2, (some .boolean), 10, 1),
  (⟨RX10, "isMill", "(I)Z"⟩, prog_12_method_5_code, 2, (some .boolean), 10, 1),
  (⟨RX10, "round", "(I)J"⟩, prog_12_method_6_code, 3, (some .long), 10, 1),
  (⟨RX10, "height", "(II)J"⟩, prog_12_method_7_code, 4, (some .long), 10, 2),
  (⟨RX10, "tideOf", "(I)I"⟩, prog_12_method_8_code, 2, (some .int), 10, 1),
  (⟨RX10, "tide", "(I)J"⟩, prog_12_method_9_code, 2, (some .long), 10, 1),
  (⟨RX10, "pond", "(III)J"⟩, prog_12_method_10_code, 4, (some .long), 10, 3),
  (⟨RX10, "gate", "(II)J"⟩, prog_12_method_11_code, 4, (some .long), 10, 2),
  (⟨RX10, "water", "(II)J"⟩, prog_12_method_12_code, 4, (some .long), 10, 2),
  (⟨RX10, "channel", "(III)J"⟩, prog_12_method_13_code, 4, (some .long), 10, 3),
  (⟨RX10, "widen", "(II)J"⟩, prog_12_method_14_code, 4, (some .long), 10, 2),
  (⟨RX10, "about", "(II)J"⟩, prog_12_method_15_code, 5, (some .long), 10, 2),
  (⟨RX10, "mill", "(IIIII)J"⟩, prog_12_method_16_code, 6, (some .long), 10, 5),
  (⟨RX10, "as", "(II)J"⟩, prog_12_method_17_code, 3, (some .long), 10, 2),
  (⟨RX10, "stone", "(IIIII)J"⟩, prog_12_method_18_code, 7, (some .long), 10, 5),
  (⟨RX10, "on", "(III)J"⟩, prog_12_method_19_code, 6, (some .long), 10, 3),
  (⟨RX10, "sack", "(IIII)J"⟩, prog_12_method_20_code, 6, (some .long), 10, 4),
  (⟨RX10, "row", "(III)J"⟩, prog_12_method_21_code, 4, (some .long), 10, 3),
  (⟨RX10, "told", "(II)J"⟩, prog_12_method_22_code, 4, (some .long), 10, 2),
  (⟨RX10, "flour", "(I)J"⟩, prog_12_method_23_code, 2, (some .long), 10, 1),
  (⟨RX10, "flows", "(II)V"⟩, prog_12_method_24_code, 3, none, 10, 2),
  (⟨RX10, "gates", "([II)V"⟩, prog_12_method_25_code, 7, none, 10, 2),
  (⟨RX10, "evens", "([I)V"⟩, prog_12_method_26_code, 10, none, 10, 1),
  (⟨RX10, "keptFor", "(I)I"⟩, prog_12_method_27_code, 4, (some .int), 10, 1),
  (⟨RX10, "turns", "([III)V"⟩, prog_12_method_28_code, 7, none, 10, 3),
  (⟨RX10, "turn", "([IIIII)V"⟩, prog_12_method_29_code, 9, none, 10, 5),
  (⟨RX10, "gives", "(II)V"⟩, prog_12_method_30_code, 7, none, 10, 2),
  (⟨RX10, "done", "(II)V"⟩, prog_12_method_31_code, 5, none, 10, 2),
  (⟨RX10, "spills", "([I)V"⟩, prog_12_method_32_code, 4, none, 10, 1),
  (⟨RX10, "goes", "([IIIZ)V"⟩, prog_12_method_33_code, 6, none, 10, 4),
  (⟨RX10, "begin", "()V"⟩, prog_12_method_34_code, 2, none, 10, 0),
  (⟨RX10, "hours", "(I)J"⟩, prog_12_method_35_code, 6, (some .long), 10, 1),
  (⟨RX10, "running", "()J"⟩, prog_12_method_36_code, 1, (some .long), 10, 0),
  (⟨RX10, "best", "(III)J"⟩, prog_12_method_37_code, 14, (some .long), 10, 3),
  (⟨RX10, "ahead", "(II)J"⟩, prog_12_method_38_code, 4, (some .long), 10, 2),
  (⟨RX10, "all", "(I)J"⟩, prog_12_method_39_code, 5, (some .long), 10, 1),
  (⟨RX10, "tell", "(I)J"⟩, prog_12_method_40_code, 2, (some .long), 10, 1),
  (⟨RX10, "check", "(I)J"⟩, prog_12_method_41_code, 4, (some .long), 10, 1),
  (⟨RX10, "count", "(I)J"⟩, prog_12_method_42_code, 4, (some .long), 10, 1),
  (⟨RX10, "found", "(I)J"⟩, prog_12_method_43_code, 2, (some .long), 10, 1),
  (⟨RJ6, "bitCount", "(I)I"⟩, prog_13_method_49_code, 1, (some .int), 12, 1),
  (⟨RL, "law", "([I)Z"⟩, code, 4, (some .boolean), 11, 1)]
def mDft : MethodName × ByteArray × Nat × Option FieldType × Nat × Nat := (⟨RX0, "", ""⟩, ⟨#[]⟩, 0, none, 0, 0)
def yn (k : Nat) : MethodName := (mTab.getD k mDft).1
def cd (k : Nat) : ByteArray := (mTab.getD k mDft).2.1
def mx (k : Nat) : Nat := (mTab.getD k mDft).2.2.1
def mrt (k : Nat) : Option FieldType := (mTab.getD k mDft).2.2.2.1
def ow (k : Nat) : Nat := (mTab.getD k mDft).2.2.2.2.1
def na (k : Nat) : Nat := (mTab.getD k mDft).2.2.2.2.2
/-- field links: (kl number, pool place, kl number, slot) -/
def fL : List (Nat × Nat × Nat × Nat) := [(7, 9, 7, 0), (9, 90, 7, 0), (7, 15, 7, 1), (9, 87, 7, 1), (3, 9, 3, 0), (1, 91, 3, 0), (8, 64, 3, 0), (9, 107, 3, 0), (3, 15, 3, 1), (9, 112, 3, 1), (3, 18, 3, 2), (9, 115, 3, 2), (3, 21, 3, 3), (9, 121, 3, 3), (0, 7, 0, 0), (1, 72, 0, 0), (9, 135, 0, 0), (0, 13, 0, 1), (1, 81, 0, 1), (9, 140, 0, 1), (0, 16, 0, 2), (1, 84, 0, 2), (9, 143, 0, 2), (6, 7, 6, 0), (9, 198, 6, 0), (6, 13, 6, 1), (1, 137, 6, 1), (9, 203, 6, 1), (6, 16, 6, 2), (9, 206, 6, 2), (6, 19, 6, 3), (9, 209, 6, 3), (6, 22, 6, 4), (9, 212, 6, 4), (4, 7, 4, 0), (2, 84, 4, 0), (9, 226, 4, 0), (4, 13, 4, 1), (2, 78, 4, 1), (9, 229, 4, 1), (4, 16, 4, 2), (2, 65, 4, 2), (9, 232, 4, 2), (4, 19, 4, 3), (2, 81, 4, 3), (9, 235, 4, 3), (2, 11, 2, 0), (1, 127, 2, 0), (9, 194, 2, 0), (2, 19, 2, 1), (9, 222, 2, 1), (2, 23, 2, 2), (9, 164, 2, 2), (2, 27, 2, 3), (8, 49, 2, 3), (1, 115, 2, 3), (9, 169, 2, 3), (2, 30, 2, 4), (8, 46, 2, 4), (9, 172, 2, 4), (2, 33, 2, 5), (8, 55, 2, 5), (9, 175, 2, 5), (2, 36, 2, 6), (9, 178, 2, 6), (2, 39, 2, 7), (1, 124, 2, 7), (9, 191, 2, 7), (2, 42, 2, 8), (8, 52, 2, 8), (9, 219, 2, 8), (2, 45, 2, 9), (9, 238, 2, 9), (2, 48, 2, 10), (9, 241, 2, 10), (2, 51, 2, 11), (9, 244, 2, 11), (2, 54, 2, 12), (9, 247, 2, 12), (2, 57, 2, 13), (9, 250, 2, 13), (2, 60, 2, 14), (9, 253, 2, 14), (8, 11, 8, 0), (1, 52, 8, 0), (9, 103, 8, 0), (8, 19, 8, 1), (1, 68, 8, 1), (9, 131, 8, 1), (8, 25, 8, 2), (1, 111, 8, 2), (9, 160, 8, 2), (8, 29, 8, 3), (1, 105, 8, 3), (8, 33, 8, 4), (1, 47, 8, 4), (9, 100, 8, 4), (8, 37, 8, 5), (1, 65, 8, 5), (9, 128, 8, 5), (8, 40, 8, 6), (1, 102, 8, 6), (9, 157, 8, 6), (1, 28, 1, 0), (1, 9, 1, 1), (9, 269, 1, 1), (1, 15, 1, 2), (9, 292, 1, 2), (1, 19, 1, 3), (9, 293, 1, 3), (1, 22, 1, 4), (9, 294, 1, 4), (1, 25, 1, 5), (9, 295, 1, 5), (5, 37, 5, 0), (5, 41, 5, 1), (5, 11, 5, 2), (5, 16, 5, 3), (5, 20, 5, 4), (9, 312, 5, 4), (5, 23, 5, 5), (5, 26, 5, 6), (9, 279, 5, 6), (5, 29, 5, 7), (9, 282, 5, 7), (9, 10, 9, 0), (9, 19, 9, 1), (9, 28, 9, 2), (9, 37, 9, 3), (9, 41, 9, 4), (9, 45, 9, 5), (9, 48, 9, 6), (9, 51, 9, 7), (9, 54, 9, 8), (9, 57, 9, 9), (9, 61, 9, 10), (9, 64, 9, 11), (9, 67, 9, 12), (9, 70, 9, 13), (9, 73, 9, 14), (9, 76, 9, 15), (10, 147, 10, 0), (10, 9, 10, 1), (10, 13, 10, 2), (10, 111, 10, 3), (10, 17, 10, 4), (10, 20, 10, 5), (10, 23, 10, 6), (10, 26, 10, 7), (10, 29, 10, 8), (10, 136, 10, 9), (10, 32, 10, 10), (10, 35, 10, 11), (10, 38, 10, 12), (10, 118, 10, 13), (10, 41, 10, 14), (10, 44, 10, 15), (10, 47, 10, 16), (10, 50, 10, 17), (10, 53, 10, 18), (10, 56, 10, 19), (10, 59, 10, 20), (10, 62, 10, 21), (10, 65, 10, 22), (10, 68, 10, 23), (10, 144, 10, 24), (10, 71, 10, 25), (10, 74, 10, 26), (10, 77, 10, 27), (10, 81, 10, 28), (10, 84, 10, 29), (10, 204, 10, 30), (10, 87, 10, 31), (10, 90, 10, 32), (10, 93, 10, 33), (10, 164, 10, 34), (10, 96, 10, 35), (10, 154, 10, 36)]
/-- method links: (kl number, pool place, kind, method) -/
def mLk : List (Nat × Nat × Nat × Nat) := [(11, 9, 2, 37), (9, 1, 5, 0), (9, 9, 2, 30), (7, 3, 5, 0), (7, 19, 8, 0), (7, 25, 6, 0), (9, 18, 2, 32), (8, 3, 5, 0), (8, 43, 4, 15), (3, 3, 5, 0), (8, 44, 4, 0), (0, 1, 5, 0), (8, 45, 2, 11), (2, 3, 5, 0), (2, 63, 4, 27), (6, 1, 5, 0), (2, 64, 4, 20), (4, 1, 5, 0), (9, 25, 2, 1), (1, 3, 5, 0), (9, 34, 2, 21), (5, 3, 5, 0), (5, 34, 2, 1), (11, 13, 0, 38), (9, 79, 1, 65), (9, 83, 0, 64), (11, 20, 0, 39), (11, 27, 0, 40), (9, 93, 0, 31), (11, 32, 0, 41), (9, 96, 1, 66), (11, 39, 0, 42), (9, 118, 0, 70), (11, 44, 0, 43), (9, 124, 0, 17), (11, 49, 0, 44), (11, 54, 0, 45), (11, 59, 0, 46), (9, 144, 0, 16), (3, 24, 3, 77), (9, 147, 0, 34), (11, 64, 0, 47), (9, 150, 1, 67), (9, 153, 1, 69), (9, 216, 1, 68), (9, 181, 0, 33), (11, 71, 0, 48), (9, 185, 0, 71), (9, 188, 0, 12), (11, 76, 0, 49), (11, 81, 0, 50), (11, 86, 0, 51), (11, 93, 0, 52), (11, 98, 0, 53), (11, 103, 0, 54), (11, 108, 0, 55), (9, 256, 0, 2), (1, 32, 0, 3), (1, 56, 0, 18), (3, 28, 0, 16), (3, 32, 7, 0), (1, 62, 0, 19), (1, 36, 0, 4), (1, 77, 0, 16), (1, 87, 0, 5), (1, 94, 3, 77), (1, 97, 7, 0), (1, 40, 0, 6), (1, 108, 0, 7), (1, 120, 0, 36), (8, 58, 6, 0), (1, 131, 0, 28), (1, 140, 0, 29), (6, 26, 7, 0), (1, 44, 0, 8), (1, 143, 0, 17), (9, 260, 0, 73), (9, 263, 0, 74), (9, 296, 0, 10), (9, 299, 0, 9), (9, 302, 0, 13), (2, 68, 7, 0), (2, 74, 0, 14), (2, 85, 3, 68), (11, 113, 0, 56), (9, 266, 0, 75), (9, 306, 9, 0), (11, 120, 0, 57), (9, 271, 0, 22), (5, 45, 9, 0), (9, 275, 1, 76), (9, 315, 0, 26), (5, 68, 1, 121), (9, 319, 0, 23), (5, 51, 0, 25), (5, 59, 0, 31), (5, 64, 0, 2), (5, 55, 0, 9), (9, 322, 0, 24), (11, 125, 0, 58), (11, 130, 0, 59), (9, 285, 0, 72), (11, 135, 0, 60), (11, 140, 0, 61), (11, 145, 0, 62), (9, 288, 0, 35), (11, 150, 0, 63), (11, 12, 2, 78), (10, 3, 5, 0), (10, 99, 8, 0), (10, 105, 6, 0), (11, 17, 0, 83), (10, 114, 1, 80), (10, 123, 0, 79), (11, 24, 0, 84), (11, 30, 0, 86), (10, 127, 0, 85), (11, 36, 0, 87), (11, 42, 0, 88), (10, 132, 0, 81), (11, 47, 0, 89), (11, 52, 0, 90), (11, 57, 0, 91), (11, 62, 0, 92), (11, 68, 0, 93), (11, 74, 0, 94), (10, 139, 0, 82), (11, 79, 0, 95), (11, 84, 0, 96), (11, 90, 0, 97), (11, 96, 0, 98), (11, 101, 0, 99), (11, 106, 0, 100), (11, 111, 0, 112), (10, 195, 0, 110), (10, 180, 0, 102), (10, 158, 7, 0), (10, 161, 0, 101), (10, 184, 0, 103), (10, 188, 0, 105), (10, 167, 0, 106), (10, 171, 0, 104), (10, 174, 0, 107), (10, 177, 0, 108), (10, 192, 0, 109), (11, 117, 0, 113), (10, 199, 0, 111), (11, 123, 0, 114), (11, 128, 0, 115), (11, 133, 0, 116), (11, 138, 0, 117), (11, 143, 0, 118), (11, 148, 0, 119), (11, 153, 0, 120)]
def cL : List (Nat × Nat × Int32) := [(9, 291, -1000000000), (12, 265, 1431655765), (12, 266, 858993459), (12, 267, 252645135)]
def cJ : List (Nat × Nat × Int64) := [(10, 121, -1000000001), (10, 109, -1000000000), (10, 130, -1000000004), (10, 142, -1000000005), (10, 150, -1000000003), (10, 152, -1000000002), (10, 202, -1)]
/-- kl links of new and anewarray: (kl number, pool place, kl number) -/
def nL : List (Nat × Nat × Nat) := [(11, 7, 9), (9, 7, 7), (9, 16, 8), (8, 9, 3), (8, 17, 0), (8, 23, 2), (2, 9, 6), (2, 17, 4), (9, 23, 1), (9, 32, 5), (5, 32, 1), (11, 10, 10)]
def nestL : List Cond := [.methodLinkNest (RN 8) 43 (yn 15) "TideMill", .methodLinkNest (RN 8) 44 (yn 0) "TideMill", .methodLinkNest (RN 2) 63 (yn 27) "TideMill", .methodLinkNest (RN 2) 64 (yn 20) "TideMill", .methodLinkNest (RN 3) 24 (yn 77) "TideMill", .methodLinkNest (RN 1) 94 (yn 77) "TideMill", .methodLinkNest (RN 2) 85 (yn 68) "TideMill"]
end
section
-- what the tables hold of the names: closed facts, by the kernel (gen_checks.py)
theorem nmN : ∀ ci, ci < 11 → ∀ a, a < nfN ci → ∀ b, b < nfN ci → a ≠ b → (TN ci a).2.1 ≠ (TN ci b).2.1 := by decide +kernel
theorem tyN_ok : ∀ ci, ci < 11 → ∀ k, k < nfN ci → parseFieldDescriptor (TN ci k).2.2.1 = some (tyN ci k) := by decide +kernel
theorem lw_inP {ws : List Cond} (ps : List Nat) (h : ws = ps.filterMap (fun i => lw_tbl[i]?)) : ∀ w ∈ ws, w ∈ lw_tbl := by
  intro w hw
  rw [h] at hw
  obtain ⟨i, -, hi⟩ := List.mem_filterMap.mp hw
  exact List.mem_of_getElem? hi
theorem lw_goodP {ws : List Cond} (ps : List Nat) (h : ws = ps.filterMap (fun i => lw_tbl[i]?)) (g : ws.all goodWord = true) : ∀ w ∈ ws, w ∈ lw_good := fun w hw => List.mem_filter.mpr ⟨lw_inP ps h w hw, List.all_eq_true.mp g w hw⟩
theorem lw_good_in {w : Cond} (h : w ∈ lw_good) : w ∈ lw_tbl := (List.mem_filter.mp h).1
theorem lw_good_g {w : Cond} (h : w ∈ lw_good) : goodWord w = true := (List.mem_filter.mp h).2
theorem inN : ∀ ci, ci < 11 → ∀ w ∈ u_ws (RN ci) (TN ci) (nfN ci), w ∈ lw_good := fun ci hc w hw => lw_goodP (ws := (List.range 11).flatMap (fun ci => u_ws (RN ci) (TN ci) (nfN ci))) [117, 119, 121, 306, 308, 310, 312, 314, 316, 223, 225, 227, 229, 231, 233, 235, 237, 239, 241, 243, 245, 247, 249, 251, 94, 96, 98, 100, 177, 179, 181, 183, 340, 342, 344, 346, 348, 350, 352, 354, 149, 151, 153, 155, 157, 61, 63, 274, 276, 278, 280, 282, 284, 286, 373, 375, 377, 379, 381, 383, 385, 387, 389, 391, 393, 395, 397, 399, 401, 403, 742, 744, 746, 748, 750, 752, 754, 756, 758, 760, 762, 764, 766, 768, 770, 772, 774, 776, 778, 780, 782, 784, 786, 788, 790, 792, 794, 796, 798, 800, 802, 804, 806, 808, 810, 812, 814] (by decide +kernel) (by decide +kernel) w (List.mem_flatMap.mpr ⟨ci, List.mem_range.mpr hc, hw⟩)
def fCond (q : Nat × Nat × Nat × Nat) : Cond := .fieldLink (RN q.1) q.2.1 (TN q.2.2.1 q.2.2.2).1 (TN q.2.2.1 q.2.2.2).2.1 (TN q.2.2.1 q.2.2.2).2.2.1
theorem fL_ok1 : ∀ q ∈ fL, q.2.2.1 < 11 ∧ q.2.2.2 < nfN q.2.2.1 := by decide +kernel
theorem fL_ok : ∀ q ∈ fL, fCond q ∈ lw_good := fun q hq => lw_goodP (ws := fL.map fCond) [57, 58, 59, 60, 84, 85, 86, 87, 88, 89, 90, 91, 92, 93, 108, 109, 110, 111, 112, 113, 114, 115, 116, 138, 139, 140, 141, 142, 143, 144, 145, 146, 147, 148, 165, 166, 167, 168, 169, 170, 171, 172, 173, 174, 175, 176, 186, 187, 188, 189, 190, 191, 192, 193, 194, 195, 196, 197, 198, 199, 200, 201, 202, 203, 204, 205, 206, 207, 208, 209, 210, 211, 212, 213, 214, 215, 216, 217, 218, 219, 220, 221, 222, 254, 255, 256, 257, 258, 259, 260, 261, 262, 263, 264, 265, 266, 267, 268, 269, 270, 271, 272, 273, 295, 296, 297, 298, 299, 300, 301, 302, 303, 304, 305, 329, 330, 331, 332, 333, 334, 335, 336, 337, 338, 339, 357, 358, 359, 360, 361, 362, 363, 364, 365, 366, 367, 368, 369, 370, 371, 372, 705, 706, 707, 708, 709, 710, 711, 712, 713, 714, 715, 716, 717, 718, 719, 720, 721, 722, 723, 724, 725, 726, 727, 728, 729, 730, 731, 732, 733, 734, 735, 736, 737, 738, 739, 740, 741] (by decide +kernel) (by decide +kernel) _ (List.mem_map.mpr ⟨q, hq, rfl⟩)
def mKinds (q : Nat × Nat × Nat × Nat) : List Cond :=
  if q.2.2.1 = 0 then [.methodLink (RN q.1) q.2.1 (yn q.2.2.2), .instanceMethod (yn q.2.2.2), .selects (RN (ow q.2.2.2)) (yn q.2.2.2) (yn q.2.2.2), .initialized (RN (ow q.2.2.2))]
  else if q.2.2.1 = 1 then [.methodLink (RN q.1) q.2.1 (yn q.2.2.2), .static (yn q.2.2.2), .initialized (RN (ow q.2.2.2))]
  else if q.2.2.1 = 2 then [.methodLink (RN q.1) q.2.1 (yn q.2.2.2), .instanceMethod (yn q.2.2.2), .initialized (RN (ow q.2.2.2))]
  else if q.2.2.1 = 3 then [.static (yn q.2.2.2), .initialized (RN (ow q.2.2.2))]
  else if q.2.2.1 = 4 then [.instanceMethod (yn q.2.2.2), .initialized (RN (ow q.2.2.2))]
  else if q.2.2.1 = 5 then [.methodLink (RN q.1) q.2.1 Lib.objectInit, .instanceMethod Lib.objectInit]
  else if q.2.2.1 = 6 then [.methodLink (RN q.1) q.2.1 Lib.Math.max.name, .static Lib.Math.max.name, .initialized "java/lang/Math"]
  else if q.2.2.1 = 7 then [.methodLink (RN q.1) q.2.1 Lib.Math.min.name, .static Lib.Math.min.name, .initialized "java/lang/Math"]
  else if q.2.2.1 = 8 then [.methodLink (RN q.1) q.2.1 Lib.Math.abs.name, .static Lib.Math.abs.name, .initialized "java/lang/Math"]
  else if q.2.2.1 = 9 then [.methodLink (RN q.1) q.2.1 arraycopyName, .native arraycopyName, .static arraycopyName, .initialized "java/lang/System"]
  else []
theorem mLk_ok : ∀ q ∈ mLk, ∀ w ∈ mKinds q, w ∈ lw_good := fun q hq w hw => lw_goodP (ws := mLk.flatMap mKinds) [39, 40, 23, 42, 43, 47, 48, 24, 50, 43, 51, 52, 25, 54, 55, 25, 69, 70, 26, 72, 43, 81, 27, 83, 43, 105, 28, 107, 43, 125, 126, 29, 128, 43, 135, 30, 137, 43, 162, 31, 164, 43, 291, 292, 32, 294, 43, 321, 322, 33, 324, 43, 328, 292, 32, 406, 407, 408, 23, 410, 411, 23, 413, 415, 0, 23, 418, 419, 420, 23, 422, 423, 424, 23, 426, 427, 428, 24, 430, 431, 432, 23, 434, 435, 23, 437, 438, 439, 23, 441, 443, 1, 23, 445, 446, 447, 23, 449, 450, 451, 27, 453, 454, 455, 23, 457, 458, 459, 23, 461, 462, 463, 23, 465, 466, 467, 27, 470, 23, 472, 473, 474, 26, 476, 477, 478, 23, 480, 481, 23, 483, 484, 23, 486, 487, 23, 489, 490, 491, 26, 493, 494, 495, 23, 497, 499, 2, 23, 501, 502, 503, 29, 505, 506, 507, 23, 509, 510, 511, 23, 513, 514, 515, 23, 517, 518, 519, 23, 521, 522, 523, 23, 525, 526, 527, 23, 529, 530, 531, 23, 533, 534, 535, 32, 537, 538, 539, 32, 541, 542, 543, 27, 545, 466, 467, 27, 546, 547, 25, 549, 550, 551, 27, 553, 554, 555, 32, 557, 466, 467, 27, 558, 559, 560, 32, 470, 23, 563, 547, 25, 564, 565, 566, 32, 568, 569, 570, 32, 572, 573, 574, 26, 576, 55, 25, 577, 578, 579, 30, 581, 582, 583, 30, 585, 547, 25, 586, 587, 588, 32, 590, 450, 451, 27, 591, 593, 3, 23, 595, 597, 4, 23, 599, 600, 601, 32, 603, 604, 605, 32, 607, 608, 609, 29, 611, 547, 25, 612, 613, 614, 29, 487, 23, 617, 618, 619, 23, 621, 623, 5, 23, 625, 627, 626, 35, 628, 629, 630, 23, 632, 633, 634, 33, 636, 627, 626, 35, 637, 638, 23, 640, 641, 642, 33, 644, 645, 36, 650, 651, 652, 33, 654, 655, 656, 33, 658, 427, 428, 24, 659, 534, 535, 32, 660, 604, 605, 32, 661, 662, 663, 33, 665, 666, 667, 23, 669, 670, 671, 23, 673, 675, 6, 23, 677, 678, 679, 23, 681, 682, 683, 23, 685, 686, 687, 23, 689, 690, 691, 26, 693, 694, 695, 23, 699, 700, 34, 702, 43, 703, 52, 25, 704, 55, 25, 818, 819, 820, 34, 822, 823, 34, 826, 828, 7, 34, 831, 832, 833, 34, 835, 836, 837, 34, 839, 841, 8, 34, 843, 844, 845, 34, 848, 849, 850, 34, 852, 854, 9, 34, 856, 857, 858, 34, 860, 861, 862, 34, 864, 865, 866, 34, 868, 869, 870, 34, 872, 873, 874, 34, 876, 877, 878, 34, 880, 882, 10, 34, 885, 886, 887, 34, 889, 890, 891, 34, 893, 894, 895, 34, 898, 899, 900, 34, 903, 904, 905, 34, 907, 908, 909, 34, 911, 912, 913, 34, 915, 917, 11, 34, 919, 921, 12, 34, 923, 547, 25, 924, 926, 13, 34, 928, 930, 14, 34, 932, 934, 15, 34, 936, 938, 16, 34, 940, 942, 17, 34, 944, 946, 18, 34, 948, 950, 19, 34, 952, 954, 20, 34, 956, 957, 958, 34, 960, 962, 21, 34, 964, 965, 966, 34, 969, 970, 971, 34, 973, 974, 975, 34, 977, 978, 979, 34, 981, 982, 983, 34, 985, 986, 987, 34, 989, 990, 991, 34] (by decide +kernel) (by decide +kernel) w (List.mem_flatMap.mpr ⟨q, hq, hw⟩)
theorem mLk_name : ∀ q ∈ mLk, q.2.2.1 ≤ 4 → q.2.2.2 < 122 ∧ ((q.2.2.1 = 2 ∨ q.2.2.1 = 4) → (yn q.2.2.2).name = "<init>" ∧ mrt q.2.2.2 = none) := by decide +kernel
theorem mLk_own : ∀ q ∈ mLk, q.2.2.1 = 0 → ow q.2.2.2 < 11 := by decide +kernel
theorem nestL_in : ∀ w ∈ nestL, w ∈ lw_tbl := lw_inP [80, 104, 134, 161, 469, 562, 616] (by decide +kernel)
theorem mLk_nest : ∀ q ∈ mLk, q.2.2.1 = 3 ∨ q.2.2.1 = 4 → Cond.methodLinkNest (RN q.1) q.2.1 (yn q.2.2.2) "TideMill" ∈ nestL := by decide +kernel
theorem yn_ok : ∀ k, k < 122 → plainName (yn k).cls = true ∧ (yn k).cls ≠ "java/lang/invoke/MethodHandle" ∧ (yn k).cls ≠ "java/lang/invoke/VarHandle" ∧ (parseMethodDescriptor (yn k).desc).map (fun d => d.parameters.length) = some (na k) ∧ mx k ≤ 20 ∧ (yn k).cls = RN (ow k) := by decide +kernel
theorem cL_ok : ∀ q ∈ cL, Cond.constant (RN q.1) q.2.1 q.2.2 ∈ lw_good := fun q hq => lw_goodP (ws := cL.map (fun q => Cond.constant (RN q.1) q.2.1 q.2.2)) [417, 647, 648, 649] (by decide +kernel) (by decide +kernel) _ (List.mem_map.mpr ⟨q, hq, rfl⟩)
theorem cJ_ok : ∀ q ∈ cJ, Cond.constantLong (RN q.1) q.2.1 q.2.2 ∈ lw_good := fun q hq => lw_goodP (ws := cJ.map (fun q => Cond.constantLong (RN q.1) q.2.1 q.2.2)) [825, 830, 847, 884, 897, 902, 968] (by decide +kernel) (by decide +kernel) _ (List.mem_map.mpr ⟨q, hq, rfl⟩)
def nCond (q : Nat × Nat × Nat) : List Cond := [Cond.classLink (RN q.1) q.2.1 (RN q.2.2), Cond.instantiable (RN q.2.2) (nfN q.2.2), Cond.initialized (RN q.2.2)]
theorem nL_ok1 : ∀ q ∈ nL, q.2.2 < 11 := by decide +kernel
theorem nL_ok : ∀ q ∈ nL, ∀ w ∈ nCond q, w ∈ lw_good := fun q hq w hw => lw_goodP (ws := nL.flatMap nCond) [37, 38, 23, 45, 46, 24, 67, 68, 26, 73, 79, 27, 75, 103, 28, 77, 124, 29, 129, 133, 30, 131, 160, 31, 289, 290, 32, 319, 320, 33, 327, 290, 32, 697, 698, 34] (by decide +kernel) (by decide +kernel) w (List.mem_flatMap.mpr ⟨q, hq, hw⟩)
theorem arr_ok : ∀ w ∈ [Cond.arrayClass .int, Cond.arrayClass .long], w ∈ lw_good := lw_goodP [66, 817] (by decide +kernel) (by decide +kernel)
def aoL : List Nat := [3, 0, 2, 6, 4]
theorem aoL_in : ∀ k ∈ aoL, Cond.arrayOver (.object (RN k)) ∈ lw_tbl := fun k hk => lw_inP (ws := aoL.map (fun k => Cond.arrayOver (.object (RN k)))) [74, 76, 78, 130, 132] (by decide +kernel) _ (List.mem_map.mpr ⟨k, hk, rfl⟩)
theorem ao2_in : ∀ w ∈ [Cond.arrayOver (.array .int)], w ∈ lw_tbl := lw_inP [326] (by decide +kernel)
theorem cl2_in : ∀ w ∈ [Cond.classLink (RN 5) 9 "[[I"], w ∈ lw_good := lw_goodP [325] (by decide +kernel) (by decide +kernel)
def mCode (k : Nat) : Cond := .code (yn k) (cd k) (mx k) (mrt k)
set_option maxRecDepth 100000 in
theorem mCode_0 : lw_tbl[106]? = some (mCode 0) := rfl
set_option maxRecDepth 100000 in
theorem mCode_1 : lw_tbl[293]? = some (mCode 1) := rfl
set_option maxRecDepth 100000 in
theorem mCode_2 : lw_tbl[536]? = some (mCode 2) := rfl
set_option maxRecDepth 100000 in
theorem mCode_3 : lw_tbl[540]? = some (mCode 3) := rfl
set_option maxRecDepth 100000 in
theorem mCode_4 : lw_tbl[556]? = some (mCode 4) := rfl
set_option maxRecDepth 100000 in
theorem mCode_5 : lw_tbl[561]? = some (mCode 5) := rfl
set_option maxRecDepth 100000 in
theorem mCode_6 : lw_tbl[567]? = some (mCode 6) := rfl
set_option maxRecDepth 100000 in
theorem mCode_7 : lw_tbl[571]? = some (mCode 7) := rfl
set_option maxRecDepth 100000 in
theorem mCode_8 : lw_tbl[589]? = some (mCode 8) := rfl
set_option maxRecDepth 100000 in
theorem mCode_9 : lw_tbl[606]? = some (mCode 9) := rfl
set_option maxRecDepth 100000 in
theorem mCode_10 : lw_tbl[602]? = some (mCode 10) := rfl
set_option maxRecDepth 100000 in
theorem mCode_11 : lw_tbl[127]? = some (mCode 11) := rfl
set_option maxRecDepth 100000 in
theorem mCode_12 : lw_tbl[504]? = some (mCode 12) := rfl
set_option maxRecDepth 100000 in
theorem mCode_13 : lw_tbl[610]? = some (mCode 13) := rfl
set_option maxRecDepth 100000 in
theorem mCode_14 : lw_tbl[615]? = some (mCode 14) := rfl
set_option maxRecDepth 100000 in
theorem mCode_15 : lw_tbl[82]? = some (mCode 15) := rfl
set_option maxRecDepth 100000 in
theorem mCode_16 : lw_tbl[468]? = some (mCode 16) := rfl
set_option maxRecDepth 100000 in
theorem mCode_17 : lw_tbl[452]? = some (mCode 17) := rfl
set_option maxRecDepth 100000 in
theorem mCode_18 : lw_tbl[544]? = some (mCode 18) := rfl
set_option maxRecDepth 100000 in
theorem mCode_19 : lw_tbl[552]? = some (mCode 19) := rfl
set_option maxRecDepth 100000 in
theorem mCode_20 : lw_tbl[163]? = some (mCode 20) := rfl
set_option maxRecDepth 100000 in
theorem mCode_21 : lw_tbl[323]? = some (mCode 21) := rfl
set_option maxRecDepth 100000 in
theorem mCode_22 : lw_tbl[635]? = some (mCode 22) := rfl
set_option maxRecDepth 100000 in
theorem mCode_23 : lw_tbl[653]? = some (mCode 23) := rfl
set_option maxRecDepth 100000 in
theorem mCode_24 : lw_tbl[664]? = some (mCode 24) := rfl
set_option maxRecDepth 100000 in
theorem mCode_25 : lw_tbl[657]? = some (mCode 25) := rfl
set_option maxRecDepth 100000 in
theorem mCode_26 : lw_tbl[643]? = some (mCode 26) := rfl
set_option maxRecDepth 100000 in
theorem mCode_27 : lw_tbl[136]? = some (mCode 27) := rfl
set_option maxRecDepth 100000 in
theorem mCode_28 : lw_tbl[580]? = some (mCode 28) := rfl
set_option maxRecDepth 100000 in
theorem mCode_29 : lw_tbl[584]? = some (mCode 29) := rfl
set_option maxRecDepth 100000 in
theorem mCode_30 : lw_tbl[49]? = some (mCode 30) := rfl
set_option maxRecDepth 100000 in
theorem mCode_31 : lw_tbl[429]? = some (mCode 31) := rfl
set_option maxRecDepth 100000 in
theorem mCode_32 : lw_tbl[71]? = some (mCode 32) := rfl
set_option maxRecDepth 100000 in
theorem mCode_33 : lw_tbl[492]? = some (mCode 33) := rfl
set_option maxRecDepth 100000 in
theorem mCode_34 : lw_tbl[475]? = some (mCode 34) := rfl
set_option maxRecDepth 100000 in
theorem mCode_35 : lw_tbl[692]? = some (mCode 35) := rfl
set_option maxRecDepth 100000 in
theorem mCode_36 : lw_tbl[575]? = some (mCode 36) := rfl
set_option maxRecDepth 100000 in
theorem mCode_37 : lw_tbl[41]? = some (mCode 37) := rfl
set_option maxRecDepth 100000 in
theorem mCode_38 : lw_tbl[409]? = some (mCode 38) := rfl
set_option maxRecDepth 100000 in
theorem mCode_39 : lw_tbl[421]? = some (mCode 39) := rfl
set_option maxRecDepth 100000 in
theorem mCode_40 : lw_tbl[425]? = some (mCode 40) := rfl
set_option maxRecDepth 100000 in
theorem mCode_41 : lw_tbl[433]? = some (mCode 41) := rfl
set_option maxRecDepth 100000 in
theorem mCode_42 : lw_tbl[440]? = some (mCode 42) := rfl
set_option maxRecDepth 100000 in
theorem mCode_43 : lw_tbl[448]? = some (mCode 43) := rfl
set_option maxRecDepth 100000 in
theorem mCode_44 : lw_tbl[456]? = some (mCode 44) := rfl
set_option maxRecDepth 100000 in
theorem mCode_45 : lw_tbl[460]? = some (mCode 45) := rfl
set_option maxRecDepth 100000 in
theorem mCode_46 : lw_tbl[464]? = some (mCode 46) := rfl
set_option maxRecDepth 100000 in
theorem mCode_47 : lw_tbl[479]? = some (mCode 47) := rfl
set_option maxRecDepth 100000 in
theorem mCode_48 : lw_tbl[496]? = some (mCode 48) := rfl
set_option maxRecDepth 100000 in
theorem mCode_49 : lw_tbl[508]? = some (mCode 49) := rfl
set_option maxRecDepth 100000 in
theorem mCode_50 : lw_tbl[512]? = some (mCode 50) := rfl
set_option maxRecDepth 100000 in
theorem mCode_51 : lw_tbl[516]? = some (mCode 51) := rfl
set_option maxRecDepth 100000 in
theorem mCode_52 : lw_tbl[520]? = some (mCode 52) := rfl
set_option maxRecDepth 100000 in
theorem mCode_53 : lw_tbl[524]? = some (mCode 53) := rfl
set_option maxRecDepth 100000 in
theorem mCode_54 : lw_tbl[528]? = some (mCode 54) := rfl
set_option maxRecDepth 100000 in
theorem mCode_55 : lw_tbl[532]? = some (mCode 55) := rfl
set_option maxRecDepth 100000 in
theorem mCode_56 : lw_tbl[620]? = some (mCode 56) := rfl
set_option maxRecDepth 100000 in
theorem mCode_57 : lw_tbl[631]? = some (mCode 57) := rfl
set_option maxRecDepth 100000 in
theorem mCode_58 : lw_tbl[668]? = some (mCode 58) := rfl
set_option maxRecDepth 100000 in
theorem mCode_59 : lw_tbl[672]? = some (mCode 59) := rfl
set_option maxRecDepth 100000 in
theorem mCode_60 : lw_tbl[680]? = some (mCode 60) := rfl
set_option maxRecDepth 100000 in
theorem mCode_61 : lw_tbl[684]? = some (mCode 61) := rfl
set_option maxRecDepth 100000 in
theorem mCode_62 : lw_tbl[688]? = some (mCode 62) := rfl
set_option maxRecDepth 100000 in
theorem mCode_63 : lw_tbl[696]? = some (mCode 63) := rfl
set_option maxRecDepth 100000 in
theorem mCode_64 : lw_tbl[416]? = some (mCode 64) := rfl
set_option maxRecDepth 100000 in
theorem mCode_65 : lw_tbl[412]? = some (mCode 65) := rfl
set_option maxRecDepth 100000 in
theorem mCode_66 : lw_tbl[436]? = some (mCode 66) := rfl
set_option maxRecDepth 100000 in
theorem mCode_67 : lw_tbl[482]? = some (mCode 67) := rfl
set_option maxRecDepth 100000 in
theorem mCode_68 : lw_tbl[488]? = some (mCode 68) := rfl
set_option maxRecDepth 100000 in
theorem mCode_69 : lw_tbl[485]? = some (mCode 69) := rfl
set_option maxRecDepth 100000 in
theorem mCode_70 : lw_tbl[444]? = some (mCode 70) := rfl
set_option maxRecDepth 100000 in
theorem mCode_71 : lw_tbl[500]? = some (mCode 71) := rfl
set_option maxRecDepth 100000 in
theorem mCode_72 : lw_tbl[676]? = some (mCode 72) := rfl
set_option maxRecDepth 100000 in
theorem mCode_73 : lw_tbl[594]? = some (mCode 73) := rfl
set_option maxRecDepth 100000 in
theorem mCode_74 : lw_tbl[598]? = some (mCode 74) := rfl
set_option maxRecDepth 100000 in
theorem mCode_75 : lw_tbl[624]? = some (mCode 75) := rfl
set_option maxRecDepth 100000 in
theorem mCode_76 : lw_tbl[639]? = some (mCode 76) := rfl
set_option maxRecDepth 100000 in
theorem mCode_77 : lw_tbl[471]? = some (mCode 77) := rfl
set_option maxRecDepth 100000 in
theorem mCode_78 : lw_tbl[701]? = some (mCode 78) := rfl
set_option maxRecDepth 100000 in
theorem mCode_79 : lw_tbl[829]? = some (mCode 79) := rfl
set_option maxRecDepth 100000 in
theorem mCode_80 : lw_tbl[824]? = some (mCode 80) := rfl
set_option maxRecDepth 100000 in
theorem mCode_81 : lw_tbl[855]? = some (mCode 81) := rfl
set_option maxRecDepth 100000 in
theorem mCode_82 : lw_tbl[883]? = some (mCode 82) := rfl
set_option maxRecDepth 100000 in
theorem mCode_83 : lw_tbl[821]? = some (mCode 83) := rfl
set_option maxRecDepth 100000 in
theorem mCode_84 : lw_tbl[834]? = some (mCode 84) := rfl
set_option maxRecDepth 100000 in
theorem mCode_85 : lw_tbl[842]? = some (mCode 85) := rfl
set_option maxRecDepth 100000 in
theorem mCode_86 : lw_tbl[838]? = some (mCode 86) := rfl
set_option maxRecDepth 100000 in
theorem mCode_87 : lw_tbl[846]? = some (mCode 87) := rfl
set_option maxRecDepth 100000 in
theorem mCode_88 : lw_tbl[851]? = some (mCode 88) := rfl
set_option maxRecDepth 100000 in
theorem mCode_89 : lw_tbl[859]? = some (mCode 89) := rfl
set_option maxRecDepth 100000 in
theorem mCode_90 : lw_tbl[863]? = some (mCode 90) := rfl
set_option maxRecDepth 100000 in
theorem mCode_91 : lw_tbl[867]? = some (mCode 91) := rfl
set_option maxRecDepth 100000 in
theorem mCode_92 : lw_tbl[871]? = some (mCode 92) := rfl
set_option maxRecDepth 100000 in
theorem mCode_93 : lw_tbl[875]? = some (mCode 93) := rfl
set_option maxRecDepth 100000 in
theorem mCode_94 : lw_tbl[879]? = some (mCode 94) := rfl
set_option maxRecDepth 100000 in
theorem mCode_95 : lw_tbl[888]? = some (mCode 95) := rfl
set_option maxRecDepth 100000 in
theorem mCode_96 : lw_tbl[892]? = some (mCode 96) := rfl
set_option maxRecDepth 100000 in
theorem mCode_97 : lw_tbl[896]? = some (mCode 97) := rfl
set_option maxRecDepth 100000 in
theorem mCode_98 : lw_tbl[901]? = some (mCode 98) := rfl
set_option maxRecDepth 100000 in
theorem mCode_99 : lw_tbl[906]? = some (mCode 99) := rfl
set_option maxRecDepth 100000 in
theorem mCode_100 : lw_tbl[910]? = some (mCode 100) := rfl
set_option maxRecDepth 100000 in
theorem mCode_101 : lw_tbl[927]? = some (mCode 101) := rfl
set_option maxRecDepth 100000 in
theorem mCode_102 : lw_tbl[922]? = some (mCode 102) := rfl
set_option maxRecDepth 100000 in
theorem mCode_103 : lw_tbl[931]? = some (mCode 103) := rfl
set_option maxRecDepth 100000 in
theorem mCode_104 : lw_tbl[943]? = some (mCode 104) := rfl
set_option maxRecDepth 100000 in
theorem mCode_105 : lw_tbl[935]? = some (mCode 105) := rfl
set_option maxRecDepth 100000 in
theorem mCode_106 : lw_tbl[939]? = some (mCode 106) := rfl
set_option maxRecDepth 100000 in
theorem mCode_107 : lw_tbl[947]? = some (mCode 107) := rfl
set_option maxRecDepth 100000 in
theorem mCode_108 : lw_tbl[951]? = some (mCode 108) := rfl
set_option maxRecDepth 100000 in
theorem mCode_109 : lw_tbl[955]? = some (mCode 109) := rfl
set_option maxRecDepth 100000 in
theorem mCode_110 : lw_tbl[918]? = some (mCode 110) := rfl
set_option maxRecDepth 100000 in
theorem mCode_111 : lw_tbl[963]? = some (mCode 111) := rfl
set_option maxRecDepth 100000 in
theorem mCode_112 : lw_tbl[914]? = some (mCode 112) := rfl
set_option maxRecDepth 100000 in
theorem mCode_113 : lw_tbl[959]? = some (mCode 113) := rfl
set_option maxRecDepth 100000 in
theorem mCode_114 : lw_tbl[967]? = some (mCode 114) := rfl
set_option maxRecDepth 100000 in
theorem mCode_115 : lw_tbl[972]? = some (mCode 115) := rfl
set_option maxRecDepth 100000 in
theorem mCode_116 : lw_tbl[976]? = some (mCode 116) := rfl
set_option maxRecDepth 100000 in
theorem mCode_117 : lw_tbl[980]? = some (mCode 117) := rfl
set_option maxRecDepth 100000 in
theorem mCode_118 : lw_tbl[984]? = some (mCode 118) := rfl
set_option maxRecDepth 100000 in
theorem mCode_119 : lw_tbl[988]? = some (mCode 119) := rfl
set_option maxRecDepth 100000 in
theorem mCode_120 : lw_tbl[992]? = some (mCode 120) := rfl
set_option maxRecDepth 100000 in
theorem mCode_121 : lw_tbl[646]? = some (mCode 121) := rfl
theorem mCode_in : ∀ k, k < 122 → mCode k ∈ lw_good := by
  intro k hk
  refine List.mem_filter.mpr ⟨?_, rfl⟩
  match k, hk with
  | 0, _ => exact List.mem_of_getElem? mCode_0
  | 1, _ => exact List.mem_of_getElem? mCode_1
  | 2, _ => exact List.mem_of_getElem? mCode_2
  | 3, _ => exact List.mem_of_getElem? mCode_3
  | 4, _ => exact List.mem_of_getElem? mCode_4
  | 5, _ => exact List.mem_of_getElem? mCode_5
  | 6, _ => exact List.mem_of_getElem? mCode_6
  | 7, _ => exact List.mem_of_getElem? mCode_7
  | 8, _ => exact List.mem_of_getElem? mCode_8
  | 9, _ => exact List.mem_of_getElem? mCode_9
  | 10, _ => exact List.mem_of_getElem? mCode_10
  | 11, _ => exact List.mem_of_getElem? mCode_11
  | 12, _ => exact List.mem_of_getElem? mCode_12
  | 13, _ => exact List.mem_of_getElem? mCode_13
  | 14, _ => exact List.mem_of_getElem? mCode_14
  | 15, _ => exact List.mem_of_getElem? mCode_15
  | 16, _ => exact List.mem_of_getElem? mCode_16
  | 17, _ => exact List.mem_of_getElem? mCode_17
  | 18, _ => exact List.mem_of_getElem? mCode_18
  | 19, _ => exact List.mem_of_getElem? mCode_19
  | 20, _ => exact List.mem_of_getElem? mCode_20
  | 21, _ => exact List.mem_of_getElem? mCode_21
  | 22, _ => exact List.mem_of_getElem? mCode_22
  | 23, _ => exact List.mem_of_getElem? mCode_23
  | 24, _ => exact List.mem_of_getElem? mCode_24
  | 25, _ => exact List.mem_of_getElem? mCode_25
  | 26, _ => exact List.mem_of_getElem? mCode_26
  | 27, _ => exact List.mem_of_getElem? mCode_27
  | 28, _ => exact List.mem_of_getElem? mCode_28
  | 29, _ => exact List.mem_of_getElem? mCode_29
  | 30, _ => exact List.mem_of_getElem? mCode_30
  | 31, _ => exact List.mem_of_getElem? mCode_31
  | 32, _ => exact List.mem_of_getElem? mCode_32
  | 33, _ => exact List.mem_of_getElem? mCode_33
  | 34, _ => exact List.mem_of_getElem? mCode_34
  | 35, _ => exact List.mem_of_getElem? mCode_35
  | 36, _ => exact List.mem_of_getElem? mCode_36
  | 37, _ => exact List.mem_of_getElem? mCode_37
  | 38, _ => exact List.mem_of_getElem? mCode_38
  | 39, _ => exact List.mem_of_getElem? mCode_39
  | 40, _ => exact List.mem_of_getElem? mCode_40
  | 41, _ => exact List.mem_of_getElem? mCode_41
  | 42, _ => exact List.mem_of_getElem? mCode_42
  | 43, _ => exact List.mem_of_getElem? mCode_43
  | 44, _ => exact List.mem_of_getElem? mCode_44
  | 45, _ => exact List.mem_of_getElem? mCode_45
  | 46, _ => exact List.mem_of_getElem? mCode_46
  | 47, _ => exact List.mem_of_getElem? mCode_47
  | 48, _ => exact List.mem_of_getElem? mCode_48
  | 49, _ => exact List.mem_of_getElem? mCode_49
  | 50, _ => exact List.mem_of_getElem? mCode_50
  | 51, _ => exact List.mem_of_getElem? mCode_51
  | 52, _ => exact List.mem_of_getElem? mCode_52
  | 53, _ => exact List.mem_of_getElem? mCode_53
  | 54, _ => exact List.mem_of_getElem? mCode_54
  | 55, _ => exact List.mem_of_getElem? mCode_55
  | 56, _ => exact List.mem_of_getElem? mCode_56
  | 57, _ => exact List.mem_of_getElem? mCode_57
  | 58, _ => exact List.mem_of_getElem? mCode_58
  | 59, _ => exact List.mem_of_getElem? mCode_59
  | 60, _ => exact List.mem_of_getElem? mCode_60
  | 61, _ => exact List.mem_of_getElem? mCode_61
  | 62, _ => exact List.mem_of_getElem? mCode_62
  | 63, _ => exact List.mem_of_getElem? mCode_63
  | 64, _ => exact List.mem_of_getElem? mCode_64
  | 65, _ => exact List.mem_of_getElem? mCode_65
  | 66, _ => exact List.mem_of_getElem? mCode_66
  | 67, _ => exact List.mem_of_getElem? mCode_67
  | 68, _ => exact List.mem_of_getElem? mCode_68
  | 69, _ => exact List.mem_of_getElem? mCode_69
  | 70, _ => exact List.mem_of_getElem? mCode_70
  | 71, _ => exact List.mem_of_getElem? mCode_71
  | 72, _ => exact List.mem_of_getElem? mCode_72
  | 73, _ => exact List.mem_of_getElem? mCode_73
  | 74, _ => exact List.mem_of_getElem? mCode_74
  | 75, _ => exact List.mem_of_getElem? mCode_75
  | 76, _ => exact List.mem_of_getElem? mCode_76
  | 77, _ => exact List.mem_of_getElem? mCode_77
  | 78, _ => exact List.mem_of_getElem? mCode_78
  | 79, _ => exact List.mem_of_getElem? mCode_79
  | 80, _ => exact List.mem_of_getElem? mCode_80
  | 81, _ => exact List.mem_of_getElem? mCode_81
  | 82, _ => exact List.mem_of_getElem? mCode_82
  | 83, _ => exact List.mem_of_getElem? mCode_83
  | 84, _ => exact List.mem_of_getElem? mCode_84
  | 85, _ => exact List.mem_of_getElem? mCode_85
  | 86, _ => exact List.mem_of_getElem? mCode_86
  | 87, _ => exact List.mem_of_getElem? mCode_87
  | 88, _ => exact List.mem_of_getElem? mCode_88
  | 89, _ => exact List.mem_of_getElem? mCode_89
  | 90, _ => exact List.mem_of_getElem? mCode_90
  | 91, _ => exact List.mem_of_getElem? mCode_91
  | 92, _ => exact List.mem_of_getElem? mCode_92
  | 93, _ => exact List.mem_of_getElem? mCode_93
  | 94, _ => exact List.mem_of_getElem? mCode_94
  | 95, _ => exact List.mem_of_getElem? mCode_95
  | 96, _ => exact List.mem_of_getElem? mCode_96
  | 97, _ => exact List.mem_of_getElem? mCode_97
  | 98, _ => exact List.mem_of_getElem? mCode_98
  | 99, _ => exact List.mem_of_getElem? mCode_99
  | 100, _ => exact List.mem_of_getElem? mCode_100
  | 101, _ => exact List.mem_of_getElem? mCode_101
  | 102, _ => exact List.mem_of_getElem? mCode_102
  | 103, _ => exact List.mem_of_getElem? mCode_103
  | 104, _ => exact List.mem_of_getElem? mCode_104
  | 105, _ => exact List.mem_of_getElem? mCode_105
  | 106, _ => exact List.mem_of_getElem? mCode_106
  | 107, _ => exact List.mem_of_getElem? mCode_107
  | 108, _ => exact List.mem_of_getElem? mCode_108
  | 109, _ => exact List.mem_of_getElem? mCode_109
  | 110, _ => exact List.mem_of_getElem? mCode_110
  | 111, _ => exact List.mem_of_getElem? mCode_111
  | 112, _ => exact List.mem_of_getElem? mCode_112
  | 113, _ => exact List.mem_of_getElem? mCode_113
  | 114, _ => exact List.mem_of_getElem? mCode_114
  | 115, _ => exact List.mem_of_getElem? mCode_115
  | 116, _ => exact List.mem_of_getElem? mCode_116
  | 117, _ => exact List.mem_of_getElem? mCode_117
  | 118, _ => exact List.mem_of_getElem? mCode_118
  | 119, _ => exact List.mem_of_getElem? mCode_119
  | 120, _ => exact List.mem_of_getElem? mCode_120
  | 121, _ => exact List.mem_of_getElem? mCode_121
  | k + 122, h => exact absurd h (by omega)
theorem mObj_in : Cond.code Lib.objectInit ⟨#[0xb1]⟩ 1 none ∈ lw_good := List.mem_filter.mpr ⟨List.mem_of_getElem? (i := 44) (by decide +kernel), rfl⟩
theorem mMath_max : Cond.code Lib.Math.max.name Lib.Math.max.code 2 (some .int) ∈ lw_good := List.mem_filter.mpr ⟨List.mem_of_getElem? (i := 56) (by decide +kernel), rfl⟩
theorem mMath_min : Cond.code Lib.Math.min.name Lib.Math.min.code 2 (some .int) ∈ lw_good := List.mem_filter.mpr ⟨List.mem_of_getElem? (i := 548) (by decide +kernel), rfl⟩
theorem mMath_abs : Cond.code Lib.Math.abs.name Lib.Math.abs.code 1 (some .int) ∈ lw_good := List.mem_filter.mpr ⟨List.mem_of_getElem? (i := 53) (by decide +kernel), rfl⟩
theorem tt_multi : True := by
  have := @Jvm.Free.Multi.fill
  trivial
end
section
-- A SMALL MACHINE: cells with ints, longs, references; its run is a function. Address 0 is the script, which is only read.
abbrev mM : Type := Nat × Nat × (Nat → Nat × Nat) × (Nat → Nat → Int32) × (Nat → Nat → Int64) × (Nat → Nat → Option Nat)
def mN (h : mM) : Nat := h.1
def mZ (h : mM) : Nat := h.2.1
def mK (h : mM) (a : Nat) : Nat := if a = 0 then 19 else if a < h.1 ∧ (h.2.2.1 a).1 < 19 then (h.2.2.1 a).1 else 99
def mL (h : mM) (a : Nat) : Nat := (h.2.2.1 a).2
def mI (h : mM) (a k : Nat) : Int32 := h.2.2.2.1 a k
def mJ (h : mM) (a k : Nat) : Int64 := h.2.2.2.2.1 a k
def mR (h : mM) (a k : Nat) : Option Nat := h.2.2.2.2.2 a k
def wI (h : mM) (a k : Nat) (v : Int32) : mM := (h.1, h.2.1, h.2.2.1, fun a' k' => if a' = a ∧ k' = k then v else h.2.2.2.1 a' k', h.2.2.2.2.1, h.2.2.2.2.2)
def wJ (h : mM) (a k : Nat) (v : Int64) : mM := (h.1, h.2.1, h.2.2.1, h.2.2.2.1, fun a' k' => if a' = a ∧ k' = k then v else h.2.2.2.2.1 a' k', h.2.2.2.2.2)
def wR (h : mM) (a k : Nat) (v : Option Nat) : mM := (h.1, h.2.1, h.2.2.1, h.2.2.2.1, h.2.2.2.2.1, fun a' k' => if a' = a ∧ k' = k then v else h.2.2.2.2.2 a' k')
/-- ints sp .. sp + n of cell a copied to dp .. of cell b -/
def wC (h : mM) (a b sp dp n : Nat) : mM := (h.1, h.2.1, h.2.2.1, fun a' k' => if a' = b ∧ dp ≤ k' ∧ k' < dp + n then h.2.2.2.1 a (sp + (k' - dp)) else h.2.2.2.1 a' k', h.2.2.2.2.1, h.2.2.2.2.2)
/-- a new cell of kind q, with n slots, all 0 or null -/
def wN (h : mM) (q n : Nat) : mM := (h.1 + 1, h.2.1 + n, fun a => if a = h.1 then (q, n) else h.2.2.1 a, fun a k => if a = h.1 then 0 else h.2.2.2.1 a k, fun a k => if a = h.1 then 0 else h.2.2.2.2.1 a k, fun a k => if a = h.1 then none else h.2.2.2.2.2 a k)
def ixOK (i : Int32) (n : Nat) : Bool := decide (¬ (i < 0 ∨ n ≤ i.toNatClampNeg))
/-- the kind of the things that an array of references of kind q holds -/
def mEl (q : Nat) : Nat := if q = 13 then 3 else if q = 14 then 0 else if q = 15 then 2 else if q = 16 then 6 else if q = 17 then 4 else 98
/-- the kind of an array of things of kind q -/
def mAr (q : Nat) : Nat := if q = 3 then 13 else if q = 0 then 14 else if q = 2 then 15 else if q = 6 then 16 else if q = 4 then 17 else 98
abbrev mLs : Type := List (Option Value)
abbrev mX : Type := (Nat × mLs × List Value × mM) ⊕ (Option Value) ⊕ (Nat × List Value × List Value)
def mNx (pc : Nat) (L : mLs) (st : List Value) (h : mM) : Option mX := some (.inl (pc, L, st, h))
def mLong (o : Option Value) : Bool := match o with
  | some v => v.category == 2
  | none => false
def mClr (L : mLs) (i : Nat) : mLs := match i with
  | 0 => L
  | j + 1 => if mLong (L.getD j none) = true then L.set j none else L
def mS1 (L : mLs) (i : Nat) (v : Value) : mLs := (mClr L i).set i (some v)
def mS2 (L : mLs) (i : Nat) (v : Value) : mLs := ((mClr L i).set (i + 1) none).set i (some v)
def fGet (c i : Nat) : Option (Nat × Nat) := (fL.find? (fun q => q.1 == c && q.2.1 == i)).map (fun q => q.2.2)
def kGet (c i : Nat) : Option (Nat × Nat) := (mLk.find? (fun q => q.1 == c && q.2.1 == i)).map (fun q => q.2.2)
def cGet (c i : Nat) : Option Int32 := (cL.find? (fun q => q.1 == c && q.2.1 == i)).map (fun q => q.2.2)
def jGet (c i : Nat) : Option Int64 := (cJ.find? (fun q => q.1 == c && q.2.1 == i)).map (fun q => q.2.2)
def nGet (c i : Nat) : Option Nat := (nL.find? (fun q => q.1 == c && q.2.1 == i)).map (fun q => q.2.2)
def mCat (st : List Value) : Nat := (st.map fun v => v.category).sum
def mIsR (t : FieldType) : Bool := match t with
  | .object _ => true
  | .array _ => true
  | _ => false
def mZO (v : Int32) : Bool := v == 0 || v == 1
def mTg (pc : Nat) (off : Int) (L : mLs) (st : List Value) (h : mM) : Option mX := if 0 ≤ (pc : Int) + off then mNx ((pc : Int) + off).toNat L st h else none
def mCmp (c : ClassFile.Cond) (x y : Int32) : Bool := match c with
  | .eq => decide (x = y)
  | .ne => decide (¬ x = y)
  | .lt => decide (x < y)
  | .ge => decide (y ≤ x)
  | .gt => decide (y < x)
  | .le => decide (x ≤ y)
def mGetF (mi pc idx : Nat) (L : mLs) (st : List Value) (h : mM) : Option mX := match st with
  | .ref a :: r => match fGet (ow mi) idx with
    | some (ci, k) => if mK h a = ci then (if mIsR (tyN ci k) = true then (match mR h a k with
        | some b => mNx (pc + 3) L (.ref b :: r) h
        | none => none) else mNx (pc + 3) L (.int (mI h a k) :: r) h) else none
    | none => none
  | _ => none
def mPutF (mi pc idx : Nat) (L : mLs) (st : List Value) (h : mM) : Option mX := match st with
  | .int v :: .ref a :: r => match fGet (ow mi) idx with
    | some (ci, k) => if mK h a = ci ∧ (tyN ci k = .int ∨ (tyN ci k = .boolean ∧ mZO v = true)) ∧ (TN ci k).2.2.2 = false then mNx (pc + 3) L r (wI h a k v) else none
    | none => none
  | .ref b :: .ref a :: r => match fGet (ow mi) idx with
    | some (ci, k) => if mK h a = ci ∧ mIsR (tyN ci k) = true ∧ ((TN ci k).2.2.2 = false ∨ ((TN ci k).2.2.2 = true ∧ (yn mi).name = "<init>" ∧ (TN ci k).1 = RN (ow mi))) then mNx (pc + 3) L r (wR h a k (some b)) else none
    | none => none
  | _ => none
def mCallV (mi pc idx : Nat) (st : List Value) (h : mM) : Option mX := match kGet (ow mi) idx with
  | some (kd, mj) => match st.drop (na mj) with
    | .ref a :: r => if kd = 0 ∧ mK h a = ow mj ∧ na mj ≤ st.length ∧ mCat r ≤ 8 ∧ ((Value.ref a :: (st.take (na mj)).reverse).map Value.category).sum ≤ mx mj then some (.inr (.inr (mj, Value.ref a :: (st.take (na mj)).reverse, r))) else none
    | _ => none
  | none => none
def mCallI (mi pc idx : Nat) (L : mLs) (st : List Value) (h : mM) : Option mX := match kGet (ow mi) idx with
  | some (kd, mj) => if kd = 5 then (match st with
      | .ref a :: r => if mCat r ≤ 8 then mNx (pc + 3) L r h else none
      | _ => none) else match st.drop (na mj) with
    | .ref a :: r => if (kd = 2 ∨ kd = 4) ∧ na mj ≤ st.length ∧ mCat r ≤ 8 ∧ ((Value.ref a :: (st.take (na mj)).reverse).map Value.category).sum ≤ mx mj then some (.inr (.inr (mj, Value.ref a :: (st.take (na mj)).reverse, r))) else none
    | _ => none
  | none => none
def mCallS (mi pc idx : Nat) (L : mLs) (st : List Value) (h : mM) : Option mX := match kGet (ow mi) idx with
  | some (kd, mj) => if kd = 6 then (match st with
      | .int y :: .int x :: r => if mCat r ≤ 8 then mNx (pc + 3) L (.int (if x < y then y else x) :: r) h else none
      | _ => none) else if kd = 7 then (match st with
      | .int y :: .int x :: r => if mCat r ≤ 8 then mNx (pc + 3) L (.int (if y < x then y else x) :: r) h else none
      | _ => none) else if kd = 8 then (match st with
      | .int x :: r => if mCat r ≤ 8 then mNx (pc + 3) L (.int (if 0 ≤ x then x else 0 - x) :: r) h else none
      | _ => none) else if kd = 9 then (match st with
      | .int n :: .int dp :: .ref b :: .int sp :: .ref a :: r => if mCat r ≤ 8 ∧ mK h a = 11 ∧ mK h b = 11 ∧ ¬ sp < 0 ∧ ¬ dp < 0 ∧ ¬ n < 0 ∧ sp.toNatClampNeg + n.toNatClampNeg ≤ mL h a ∧ dp.toNatClampNeg + n.toNatClampNeg ≤ mL h b then mNx (pc + 3) L r (wC h a b sp.toNatClampNeg dp.toNatClampNeg n.toNatClampNeg) else none
      | _ => none) else if (kd = 1 ∨ kd = 3) ∧ na mj ≤ st.length ∧ mCat (st.drop (na mj)) ≤ 8 ∧ (((st.take (na mj)).reverse).map Value.category).sum ≤ mx mj then some (.inr (.inr (mj, (st.take (na mj)).reverse, st.drop (na mj)))) else none
  | none => none
/-- rows n1 .. of a grid: n0 places of references to new cells of m ints each -/
def wG (h : mM) : Nat → Nat → mM
  | _, 0 => h
  | m, n + 1 => wN (wG h m n) 11 m
def wGrid (h : mM) (n m : Nat) : mM := (h.1 + 1 + n, h.2.1 + n + n * m, fun a => if a = h.1 then (18, n) else if h.1 < a ∧ a < h.1 + 1 + n then (11, m) else h.2.2.1 a, fun a k => if h.1 ≤ a then 0 else h.2.2.2.1 a k, fun a k => if h.1 ≤ a then 0 else h.2.2.2.2.1 a k, fun a k => if a = h.1 then (if k < n then some (h.1 + 1 + k) else none) else if h.1 < a then none else h.2.2.2.2.2 a k)
def mIns (mi pc : Nat) (L : mLs) (st : List Value) (h : mM) (ins : Instr) (len : Nat) : Option mX :=
  match ins with
  | .iconst n => if len = 1 then mNx (pc + 1) L (.int (Int32.ofInt n) :: st) h else none
  | .bipush n => if len = 2 then mNx (pc + 2) L (.int (Int8.ofInt n).toInt32 :: st) h else none
  | .sipush n => if len = 3 then mNx (pc + 3) L (.int (Int16.ofInt n).toInt32 :: st) h else none
  | .lconst n => if len = 1 then mNx (pc + 1) L (.long (Int64.ofNat n.val) :: st) h else none
  | .ldc i => if len = 2 then (match cGet (ow mi) i with
    | some v => mNx (pc + 2) L (.int v :: st) h
    | none => none) else none
  | .ldc_w i => if len = 3 then (match cGet (ow mi) i with
    | some v => mNx (pc + 3) L (.int v :: st) h
    | none => none) else none
  | .ldc2_w i => if len = 3 then (match jGet (ow mi) i with
    | some v => mNx (pc + 3) L (.long v :: st) h
    | none => none) else none
  | .iload_n i => if len = 1 then (match L.getD i.val none with
    | some (.int x) => mNx (pc + 1) L (.int x :: st) h
    | _ => none) else none
  | .iload i => if len = 2 then (match L.getD i none with
    | some (.int x) => mNx (pc + 2) L (.int x :: st) h
    | _ => none) else none
  | .lload_n i => if len = 1 then (match L.getD i.val none with
    | some (.long x) => mNx (pc + 1) L (.long x :: st) h
    | _ => none) else none
  | .lload i => if len = 2 then (match L.getD i none with
    | some (.long x) => mNx (pc + 2) L (.long x :: st) h
    | _ => none) else none
  | .aload_n i => if len = 1 then (match L.getD i.val none with
    | some (.ref x) => mNx (pc + 1) L (.ref x :: st) h
    | _ => none) else none
  | .aload i => if len = 2 then (match L.getD i none with
    | some (.ref x) => mNx (pc + 2) L (.ref x :: st) h
    | _ => none) else none
  | .istore_n i => if len = 1 ∧ i.val < mx mi then (match st with
    | .int x :: r => mNx (pc + 1) (mS1 L i.val (.int x)) r h
    | _ => none) else none
  | .istore i => if len = 2 ∧ i < mx mi then (match st with
    | .int x :: r => mNx (pc + 2) (mS1 L i (.int x)) r h
    | _ => none) else none
  | .astore_n i => if len = 1 ∧ i.val < mx mi then (match st with
    | .ref x :: r => mNx (pc + 1) (mS1 L i.val (.ref x)) r h
    | _ => none) else none
  | .astore i => if len = 2 ∧ i < mx mi then (match st with
    | .ref x :: r => mNx (pc + 2) (mS1 L i (.ref x)) r h
    | _ => none) else none
  | .lstore_n i => if len = 1 ∧ i.val + 1 < mx mi then (match st with
    | .long x :: r => mNx (pc + 1) (mS2 L i.val (.long x)) r h
    | _ => none) else none
  | .lstore i => if len = 2 ∧ i + 1 < mx mi then (match st with
    | .long x :: r => mNx (pc + 2) (mS2 L i (.long x)) r h
    | _ => none) else none
  | .iinc i n => if len = 3 ∧ i < mx mi then (match L.getD i none with
    | some (.int x) => mNx (pc + 3) (mS1 L i (.int (x + Int32.ofInt n))) st h
    | _ => none) else none
  | .iadd => if len = 1 then (match st with
    | .int y :: .int x :: r => mNx (pc + 1) L (.int (x + y) :: r) h
    | _ => none) else none
  | .isub => if len = 1 then (match st with
    | .int y :: .int x :: r => mNx (pc + 1) L (.int (x - y) :: r) h
    | _ => none) else none
  | .imul => if len = 1 then (match st with
    | .int y :: .int x :: r => mNx (pc + 1) L (.int (x * y) :: r) h
    | _ => none) else none
  | .iand => if len = 1 then (match st with
    | .int y :: .int x :: r => mNx (pc + 1) L (.int (x &&& y) :: r) h
    | _ => none) else none
  | .ior => if len = 1 then (match st with
    | .int y :: .int x :: r => mNx (pc + 1) L (.int (x ||| y) :: r) h
    | _ => none) else none
  | .ixor => if len = 1 then (match st with
    | .int y :: .int x :: r => mNx (pc + 1) L (.int (x ^^^ y) :: r) h
    | _ => none) else none
  | .ishl => if len = 1 then (match st with
    | .int y :: .int x :: r => mNx (pc + 1) L (.int (x <<< (y &&& 31)) :: r) h
    | _ => none) else none
  | .ishr => if len = 1 then (match st with
    | .int y :: .int x :: r => mNx (pc + 1) L (.int (x >>> (y &&& 31)) :: r) h
    | _ => none) else none
  | .iushr => if len = 1 then (match st with
    | .int y :: .int x :: r => mNx (pc + 1) L (.int ((x.toUInt32 >>> (y.toUInt32 &&& Int32.toUInt32 31)).toInt32) :: r) h
    | _ => none) else none
  | .idiv => if len = 1 then (match st with
    | .int y :: .int x :: r => if y = 0 then none else mNx (pc + 1) L (.int (x / y) :: r) h
    | _ => none) else none
  | .irem => if len = 1 then (match st with
    | .int y :: .int x :: r => if y = 0 then none else mNx (pc + 1) L (.int (x - x / y * y) :: r) h
    | _ => none) else none
  | .ladd => if len = 1 then (match st with
    | .long y :: .long x :: r => mNx (pc + 1) L (.long (x + y) :: r) h
    | _ => none) else none
  | .lsub => if len = 1 then (match st with
    | .long y :: .long x :: r => mNx (pc + 1) L (.long (x - y) :: r) h
    | _ => none) else none
  | .lcmp => if len = 1 then (match st with
    | .long y :: .long x :: r => mNx (pc + 1) L (.int (lg_cmp x y) :: r) h
    | _ => none) else none
  | .ineg => if len = 1 then (match st with
    | .int x :: r => mNx (pc + 1) L (.int (-x) :: r) h
    | _ => none) else none
  | .i2l => if len = 1 then (match st with
    | .int x :: r => mNx (pc + 1) L (.long x.toInt64 :: r) h
    | _ => none) else none
  | .l2i => if len = 1 then (match st with
    | .long x :: r => mNx (pc + 1) L (.int x.toInt32 :: r) h
    | _ => none) else none
  | .dup => if len = 1 then (match st with
    | v :: r => if v.category = 1 then mNx (pc + 1) L (v :: v :: r) h else none
    | _ => none) else none
  | .dup2 => if len = 1 then (match st with
    | v :: r => if v.category = 2 then mNx (pc + 1) L (v :: v :: r) h else (match r with
      | w :: r2 => if w.category = 1 ∧ v.category = 1 then mNx (pc + 1) L (v :: w :: v :: w :: r2) h else none
      | _ => none)
    | _ => none) else none
  | .ifCond c off => if len = 3 then (match st with
    | .int x :: r => if mCmp c x 0 = true then mTg pc off L r h else mNx (pc + 3) L r h
    | _ => none) else none
  | .if_icmp c off => if len = 3 then (match st with
    | .int y :: .int x :: r => if mCmp c x y = true then mTg pc off L r h else mNx (pc + 3) L r h
    | _ => none) else none
  | .goto off => if len = 3 then mTg pc off L st h else none
  | .tableswitch dflt lo hi offs => (match st with
    | .int x :: r => if x.toInt < lo ∨ hi < x.toInt then mTg pc dflt L r h else (match offs[(x.toInt - lo).toNat]? with
      | some off => mTg pc off L r h
      | none => none)
    | _ => none)
  | .getfield i => if len = 3 then mGetF mi pc i L st h else none
  | .putfield i => if len = 3 then mPutF mi pc i L st h else none
  | .iaload => if len = 1 then (match st with
    | .int i :: .ref a :: r => if (mK h a = 11 ∨ mK h a = 19) ∧ ixOK i (mL h a) = true then mNx (pc + 1) L (.int (mI h a i.toNatClampNeg) :: r) h else none
    | _ => none) else none
  | .laload => if len = 1 then (match st with
    | .int i :: .ref a :: r => if mK h a = 12 ∧ ixOK i (mL h a) = true then mNx (pc + 1) L (.long (mJ h a i.toNatClampNeg) :: r) h else none
    | _ => none) else none
  | .aaload => if len = 1 then (match st with
    | .int i :: .ref a :: r => if (12 < mK h a ∧ mK h a < 19) ∧ ixOK i (mL h a) = true then (match mR h a i.toNatClampNeg with
      | some b => mNx (pc + 1) L (.ref b :: r) h
      | none => none) else none
    | _ => none) else none
  | .iastore => if len = 1 then (match st with
    | .int v :: .int i :: .ref a :: r => if mK h a = 11 ∧ ixOK i (mL h a) = true then mNx (pc + 1) L r (wI h a i.toNatClampNeg v) else none
    | _ => none) else none
  | .lastore => if len = 1 then (match st with
    | .long v :: .int i :: .ref a :: r => if mK h a = 12 ∧ ixOK i (mL h a) = true then mNx (pc + 1) L r (wJ h a i.toNatClampNeg v) else none
    | _ => none) else none
  | .aastore => if len = 1 then (match st with
    | .ref b :: .int i :: .ref a :: r => if (12 < mK h a ∧ mK h a < 18) ∧ mK h b = mEl (mK h a) ∧ ixOK i (mL h a) = true then mNx (pc + 1) L r (wR h a i.toNatClampNeg (some b)) else none
    | _ => none) else none
  | .arraylength => if len = 1 then (match st with
    | .ref a :: r => if mK h a = 19 then mNx (pc + 1) L (.int (Int32.ofNat (mL h a)) :: r) h else none
    | _ => none) else none
  | .newarray t => if len = 2 then (match st with
    | .int n :: r => if (t = .int ∨ t = .long) ∧ ¬ n < 0 ∧ n.toNatClampNeg ≤ 1000 then mNx (pc + 2) L (.ref (mN h) :: r) (wN h (if t = .int then 11 else 12) n.toNatClampNeg) else none
    | _ => none) else none
  | .anewarray i => if len = 3 then (match st with
    | .int n :: r => (match nGet (ow mi) i with
      | some ci => if ci ∈ aoL ∧ ¬ n < 0 ∧ n.toNatClampNeg ≤ 1000 then mNx (pc + 3) L (.ref (mN h) :: r) (wN h (mAr ci) n.toNatClampNeg) else none
      | none => none)
    | _ => none) else none
  | .multianewarray i dm => if len = 4 ∧ dm = 2 ∧ ow mi = 5 ∧ i = 9 then (match st with
    | .int k :: .int n :: r => if ¬ n < 0 ∧ n.toNatClampNeg ≤ 1000 ∧ ¬ k < 0 ∧ k.toNatClampNeg ≤ 1000 then mNx (pc + 4) L (.ref (mN h) :: r) (wGrid h n.toNatClampNeg k.toNatClampNeg) else none
    | _ => none) else none
  | .new i => if len = 3 then (match nGet (ow mi) i with
    | some ci => mNx (pc + 3) L (.ref (mN h) :: st) (wN h ci (nfN ci))
    | none => none) else none
  | .invokevirtual i => if len = 3 then mCallV mi pc i st h else none
  | .invokespecial i => if len = 3 then mCallI mi pc i L st h else none
  | .invokestatic i => if len = 3 then mCallS mi pc i L st h else none
  | .ireturn => if len = 1 then (match st with
    | [.int v] => if mrt mi = some .int ∨ (mrt mi = some .boolean ∧ mZO v = true) then some (.inr (.inl (some (.int v)))) else none
    | _ => none) else none
  | .lreturn => if len = 1 then (match st with
    | [.long v] => if mrt mi = some .long then some (.inr (.inl (some (.long v)))) else none
    | _ => none) else none
  | .return_ => if len = 1 then (match st with
    | [] => if mrt mi = none then some (.inr (.inl none)) else none
    | _ => none) else none
  | _ => none
def mStep (mi pc : Nat) (L : mLs) (st : List Value) (h : mM) : Option mX := match decode (cd mi) pc with
  | .ok (ins, len) => mIns mi pc L st h ins len
  | .error _ => none
def mSl (as : List Value) : mLs := as.flatMap fun v => if v.category = 2 then [some v, none] else [some v]
def mEnt (mj : Nat) (as : List Value) : mLs := mSl as ++ List.replicate (mx mj - (mSl as).length) none
def mEx : Nat → Nat → Nat → Nat → mLs → List Value → mM → Option (Option Value × mM)
  | 0, _, _, _, _, _, _ => none
  | n + 1, d, mi, pc, L, st, h => match mStep mi pc L st h with
    | none => none
    | some (.inl x) => mEx n d mi x.1 x.2.1 x.2.2.1 x.2.2.2
    | some (.inr (.inl r)) => some (r, h)
    | some (.inr (.inr x)) => match d with
      | 0 => none
      | d' + 1 => match mEx n d' x.1 0 (mEnt x.1 x.2.1) [] h with
        | none => none
        | some y => mEx n (d' + 1) mi (pc + 3) L (y.1.toList ++ x.2.2) y.2
end
section
-- the run without fuel, and its equations
theorem mEx_s {n d mi pc : Nat} {L : mLs} {st : List Value} {h : mM} : mEx (n + 1) d mi pc L st h = (match mStep mi pc L st h with
    | none => none
    | some (.inl x) => mEx n d mi x.1 x.2.1 x.2.2.1 x.2.2.2
    | some (.inr (.inl r)) => some (r, h)
    | some (.inr (.inr x)) => match d with
      | 0 => none
      | d' + 1 => match mEx n d' x.1 0 (mEnt x.1 x.2.1) [] h with
        | none => none
        | some y => mEx n (d' + 1) mi (pc + 3) L (y.1.toList ++ x.2.2) y.2) := by
  cases d <;> rfl
theorem mEx_mono1 : ∀ (n d mi pc : Nat) (L : mLs) (st : List Value) (h : mM) (r : Option Value × mM), mEx n d mi pc L st h = some r → mEx (n + 1) d mi pc L st h = some r := by
  intro n
  induction n with
  | zero => intro d mi pc L st h r hr; exact absurd hr (by simp [mEx])
  | succ n ih =>
    intro d mi pc L st h r hr
    rw [mEx_s] at hr
    rw [mEx_s]
    cases hs : mStep mi pc L st h with
    | none => rw [hs] at hr; exact hr
    | some x =>
      rw [hs] at hr
      rcases x with x | x | x
      · exact ih _ _ _ _ _ _ _ hr
      · exact hr
      · cases d with
        | zero => exact hr
        | succ d =>
          simp only at hr ⊢
          cases hc : mEx n d x.1 0 (mEnt x.1 x.2.1) [] h with
          | none => rw [hc] at hr; exact absurd hr (by simp)
          | some y =>
            rw [hc] at hr
            rw [ih _ _ _ _ _ _ _ hc]
            exact ih _ _ _ _ _ _ _ hr
theorem mEx_mono {n k d mi pc : Nat} {L : mLs} {st : List Value} {h : mM} {r : Option Value × mM} (hk : n ≤ k) (hr : mEx n d mi pc L st h = some r) : mEx k d mi pc L st h = some r := by
  induction k with
  | zero => have : n = 0 := by omega
            subst this; exact hr
  | succ k ih =>
    rcases Nat.lt_or_ge k n with h1 | h1
    · have : n = k + 1 := by omega
      subst this; exact hr
    · exact mEx_mono1 _ _ _ _ _ _ _ _ (ih h1)
def mRuns (d mi pc : Nat) (L : mLs) (st : List Value) (h : mM) (r : Option Value × mM) : Prop := ∃ n, mEx n d mi pc L st h = some r
theorem mRuns.det {d mi pc : Nat} {L : mLs} {st : List Value} {h : mM} {r r' : Option Value × mM} (h1 : mRuns d mi pc L st h r) (h2 : mRuns d mi pc L st h r') : r = r' := by
  obtain ⟨n, h1⟩ := h1
  obtain ⟨k, h2⟩ := h2
  have a := mEx_mono (Nat.le_max_left n k) h1
  have b := mEx_mono (Nat.le_max_right n k) h2
  exact Option.some.inj (a.symm.trans b)
noncomputable def ev (d mi pc : Nat) (L : mLs) (st : List Value) (h : mM) : Option (Option Value × mM) := by
  classical
  exact if hh : ∃ r, mRuns d mi pc L st h r then some (Classical.choose hh) else none
theorem ev_iff {d mi pc : Nat} {L : mLs} {st : List Value} {h : mM} {r : Option Value × mM} : ev d mi pc L st h = some r ↔ mRuns d mi pc L st h r := by
  unfold ev
  constructor
  · intro hr
    split at hr
    · rename_i hh
      have := Option.some.inj hr
      rw [← this]
      exact Classical.choose_spec hh
    · cases hr
  · intro hr
    have hh : ∃ r, mRuns d mi pc L st h r := ⟨r, hr⟩
    rw [dif_pos hh]
    rw [(Classical.choose_spec hh).det hr]
theorem ev_ext {d mi pc d' mi' pc' : Nat} {L L' : mLs} {st st' : List Value} {h h' : mM} (q : ∀ r, mRuns d mi pc L st h r ↔ mRuns d' mi' pc' L' st' h' r) : ev d mi pc L st h = ev d' mi' pc' L' st' h' := by
  apply Option.ext
  intro r
  rw [ev_iff, ev_iff]
  exact q r
theorem ev_next {d mi pc pc' : Nat} {L L' : mLs} {st st' : List Value} {h h' : mM} (hs : mStep mi pc L st h = some (.inl (pc', L', st', h'))) : ev d mi pc L st h = ev d mi pc' L' st' h' := by
  apply ev_ext
  intro r
  constructor
  · rintro ⟨n, hn⟩
    cases n with
    | zero => exact absurd hn (by simp [mEx])
    | succ n => rw [mEx_s, hs] at hn; exact ⟨n, hn⟩
  · rintro ⟨n, hn⟩
    exact ⟨n + 1, by rw [mEx_s, hs]; exact hn⟩
theorem ev_none {d mi pc : Nat} {L : mLs} {st : List Value} {h : mM} (hs : mStep mi pc L st h = none) : ev d mi pc L st h = none := by
  apply Option.eq_none_iff_forall_ne_some.mpr
  intro r hr
  obtain ⟨n, hn⟩ := ev_iff.mp hr
  cases n with
  | zero => exact absurd hn (by simp [mEx])
  | succ n => rw [mEx_s, hs] at hn; cases hn
theorem ev_ret {d mi pc : Nat} {L : mLs} {st : List Value} {h : mM} {v : Option Value} (hs : mStep mi pc L st h = some (.inr (.inl v))) : ev d mi pc L st h = some (v, h) := by
  apply ev_iff.mpr
  exact ⟨1, by rw [mEx_s, hs]⟩
/-- what stands behind a call -/
def cV (o : Option (Option Value × mM)) (k : List Value → mM → Option (Option Value × mM)) : Option (Option Value × mM) := match o with
  | none => none
  | some y => k y.1.toList y.2
theorem ev_call {d mi pc mj : Nat} {L : mLs} {st as rest : List Value} {h : mM} (hs : mStep mi pc L st h = some (.inr (.inr (mj, as, rest)))) : ev (d + 1) mi pc L st h = cV (ev d mj 0 (mEnt mj as) [] h) (fun v h' => ev (d + 1) mi (pc + 3) L (v ++ rest) h') := by
  apply Option.ext
  intro r
  constructor
  · intro hr
    obtain ⟨n, hn⟩ := ev_iff.mp hr
    cases n with
    | zero => exact absurd hn (by simp [mEx])
    | succ n =>
      rw [mEx_s, hs] at hn
      simp only at hn
      cases hc : mEx n d mj 0 (mEnt mj as) [] h with
      | none => rw [hc] at hn; cases hn
      | some y =>
        rw [hc] at hn
        rw [ev_iff.mpr ⟨n, hc⟩]
        exact ev_iff.mpr ⟨n, hn⟩
  · intro hr
    cases hc : ev d mj 0 (mEnt mj as) [] h with
    | none => rw [hc] at hr; cases hr
    | some y =>
      rw [hc] at hr
      obtain ⟨n, hn⟩ := ev_iff.mp hc
      obtain ⟨k, hk⟩ := ev_iff.mp (show ev (d + 1) mi (pc + 3) L (y.1.toList ++ rest) y.2 = some r from hr)
      refine ev_iff.mpr ⟨max n k + 1, ?_⟩
      rw [mEx_s, hs]
      simp only
      rw [mEx_mono (Nat.le_max_left n k) hn]
      exact mEx_mono (Nat.le_max_right n k) hk
end
section
-- how the small machine's cells lie in the heap
abbrev mG : Type := Nat × Nat × (Nat → ClassId) × (Nat → Nat → Nat) × (Nat → ClassId)
def gAd (g : mG) (a : Nat) : Nat := if a = 0 then g.1 else g.2.1 + (a - 1)
def gV (g : mG) (v : Value) : Value := match v with
  | .ref a => .ref (gAd g a)
  | w => w
theorem gV_cat (g : mG) (v : Value) : (gV g v).category = v.category := by cases v <;> rfl
def gF (g : mG) (h : mM) (a j : Nat) (t : FieldType) : Value := if mIsR t = true then va_rf ((mR h a j).map (gAd g)) else .int (mI h a j)
def gFs (g : mG) (h : mM) (a ci : Nat) : List Value := (List.range (nfN ci)).map (fun j => gF g h a j (tyN ci j))
def gArr (g : mG) (h : mM) (a q : Nat) : vp_A := (mL h a, if q = 11 then .inl (mI h a) else if q = 12 then .inr (.inl (mJ h a)) else .inr (.inr (.inr (.inr (fun j => (mR h a j).map (gAd g))))))
def gE (g : mG) (h : mM) (a : Nat) : va_E := if mK h a < 11 then .inr (mK h a, gFs g h a (mK h a)) else .inl (g.2.2.2.2 (mK h a), gArr g h a (mK h a))
def gW (g : mG) (h : mM) : va_W := (List.range (mN h - 1)).map (fun i => (g.2.1 + i, gE g h (i + 1)))
def gD (g : mG) : va_G := (g.2.2.1, g.2.2.2.1)
def gT (g : mG) : List (ClassId × FieldType) := [(g.2.2.2.2 11, .int), (g.2.2.2.2 12, .long), (g.2.2.2.2 13, .object (RN 3)), (g.2.2.2.2 14, .object (RN 0)), (g.2.2.2.2 15, .object (RN 2)), (g.2.2.2.2 16, .object (RN 6)), (g.2.2.2.2 17, .object (RN 4)), (g.2.2.2.2 18, .array .int)]
def gA (g : mG) : Nat → Prop := fun q => g.2.1 ≤ q
def gEnv (g : mG) (U : State) : Prop := va_K (gD g) mCl (gT g) U ∧ (∀ w ∈ nestL, va_Nw w U) ∧ (∀ k ∈ aoL, va_AO (RN k) U) ∧ (Cond.arrayOver (.array .int)).before #[] U = true
theorem nestL_form : ∀ w ∈ nestL, ∃ a i x h, w = .methodLinkNest a i x h := by
  intro w hw
  simp only [nestL, List.mem_cons, List.not_mem_nil, or_false] at hw
  rcases hw with h | h | h | h | h | h | h <;> exact ⟨_, _, _, _, h⟩
theorem gEnv.warm {g : mG} {s U : State} (h : gEnv g s) (hW : s.WarmedH U.vm) : gEnv g U := by
  obtain ⟨h1, h2, h3, h4⟩ := h
  refine ⟨h1.moved hW.alike, fun w hw => ?_, fun k hk => (h3 k hk).moved hW.alike, ?_⟩
  · obtain ⟨a, i, x, h, rfl⟩ := nestL_form w hw
    exact va_Nw.warmM hW (h2 _ hw)
  · exact arrayOver_alikeB hW.alike h4
theorem gEnv.same {g : mG} {s U : State} (h : gEnv g s) (hv : s.vm = U.vm) : gEnv g U := by
  obtain ⟨h1, h2, h3, h4⟩ := h
  have hA : s.vm.Alike U.vm := by rw [hv]; exact Vm.Alike.refl _
  refine ⟨h1.moved hA, fun w hw => ?_, fun k hk => (h3 k hk).moved hA, arrayOver_alikeB hA h4⟩
  obtain ⟨a, i, x, h, rfl⟩ := nestL_form w hw
  exact va_Nw.same rfl hv (h2 _ hw)
def gH (g : mG) (h : mM) (U : State) (H : Heap) : Prop := 1 ≤ mN h ∧ va_P (gD g) mCl (gW g h) H ∧ va_X g.1 (mL h 0) (mI h 0) U H ∧ g.1 < g.2.1
theorem gH.move {g : mG} {h : mM} {u U : State} {H : Heap} (hvm : u.vm.Alike U.vm) (q : gH g h u H) : gH g h U H := ⟨q.1, q.2.1, q.2.2.1.moved hvm, q.2.2.2⟩
theorem mK_in {h : mM} {a : Nat} (q : mK h a < 19) : 0 < a ∧ a < mN h := by
  unfold mK at q
  unfold mN
  split at q
  · omega
  · split at q
    · rename_i h1 h2
      exact ⟨by omega, h2.1⟩
    · omega
theorem gAd_pos {g : mG} {a : Nat} (ha : 0 < a) : gAd g a = g.2.1 + (a - 1) := if_neg (by omega)
theorem gW_at {g : mG} {h : mM} {a : Nat} (h1 : 0 < a) (h2 : a < mN h) : (gW g h)[a - 1]? = some (gAd g a, gE g h a) := by
  unfold gW
  rw [List.getElem?_map, List.getElem?_range (by omega), gAd_pos h1]
  simp only [Option.map_some]
  rw [show a - 1 + 1 = a by omega]
theorem gW_get {g : mG} {h : mM} {i : Nat} {q : Nat × va_E} (hq : (gW g h)[i]? = some q) : i + 1 < mN h ∧ q = (g.2.1 + i, gE g h (i + 1)) := by
  unfold gW at hq
  rw [List.getElem?_map] at hq
  by_cases hi : i < mN h - 1
  · rw [List.getElem?_range hi] at hq
    exact ⟨by omega, (Option.some.inj hq).symm⟩
  · rw [List.getElem?_eq_none (by simpa using hi)] at hq
    cases hq
theorem gW_D {g : mG} {h : mM} : va_D (gA g) (gW g h) := by
  refine ⟨fun i j p q hi hj hpq => ?_, fun k q hk => ?_⟩
  · have a := (gW_get hi).2
    have b := (gW_get hj).2
    subst a; subst b
    simp only at hpq
    omega
  · have a := (gW_get hk).2
    subst a
    exact Nat.le_add_right _ _
theorem gW_set {g : mG} {h h' : mM} {a : Nat} (hn : mN h' = mN h) (h1 : 0 < a) (ho : ∀ a', a' ≠ a → gE g h' a' = gE g h a') : (gW g h).set (a - 1) (gAd g a, gE g h' a) = gW g h' := by
  apply List.ext_getElem?
  intro i
  by_cases hi : i = a - 1
  · subst hi
    by_cases h2 : a < mN h
    · rw [List.getElem?_set_self (by unfold gW; simp; omega), gW_at h1 (by omega)]
    · rw [List.getElem?_eq_none (by unfold gW; simp; omega), List.getElem?_eq_none (by unfold gW; simp; omega)]
  · rw [List.getElem?_set_ne (Ne.symm hi)]
    unfold gW
    rw [List.getElem?_map, List.getElem?_map, hn]
    by_cases h2 : i < mN h - 1
    · rw [List.getElem?_range h2]
      simp only [Option.map_some]
      rw [ho (i + 1) (by omega)]
    · rw [List.getElem?_eq_none (by simpa using h2)]
      rfl
theorem mCl_at {ci : Nat} (h : ci < 11) : mCl[ci]? = some (RN ci, TN ci, nfN ci) := by
  unfold mCl
  rw [List.getElem?_map, List.getElem?_range h]
  rfl
theorem gE_obj {g : mG} {h : mM} {a ci : Nat} (hk : mK h a = ci) (hc : ci < 11) : gE g h a = .inr (ci, gFs g h a ci) := by
  unfold gE
  rw [hk, if_pos hc]
theorem gE_arr {g : mG} {h : mM} {a q : Nat} (hk : mK h a = q) (hc : ¬ q < 11) : gE g h a = .inl (g.2.2.2.2 q, gArr g h a q) := by
  unfold gE
  rw [hk, if_neg hc]
theorem gFs_len {g : mG} {h : mM} {a ci : Nat} : (gFs g h a ci).length = nfN ci := by simp [gFs]
theorem gFs_at {g : mG} {h : mM} {a ci k : Nat} (hk : k < nfN ci) : (gFs g h a ci)[k]? = some (gF g h a k (tyN ci k)) := by
  unfold gFs
  rw [List.getElem?_map, List.getElem?_range hk]
  rfl
theorem gFs_set {g : mG} {h h' : mM} {a ci k : Nat} {v : Value} (hk : gF g h' a k (tyN ci k) = v) (ho : ∀ j, j ≠ k → gF g h' a j (tyN ci j) = gF g h a j (tyN ci j)) : (gFs g h a ci).set k v = gFs g h' a ci := by
  apply List.ext_getElem?
  intro i
  by_cases hi : i = k
  · subst hi
    by_cases h2 : i < nfN ci
    · rw [List.getElem?_set_self (by rw [gFs_len]; exact h2), gFs_at h2, hk]
    · rw [List.getElem?_eq_none (by rw [List.length_set, gFs_len]; omega), List.getElem?_eq_none (by rw [gFs_len]; omega)]
  · rw [List.getElem?_set_ne (Ne.symm hi)]
    by_cases h2 : i < nfN ci
    · rw [gFs_at h2, gFs_at h2, ho i hi]
    · rw [List.getElem?_eq_none (by rw [gFs_len]; omega), List.getElem?_eq_none (by rw [gFs_len]; omega)]
-- the places of values in the frame
def gLv (g : mG) (L : mLs) : List (Nat × Value) := (List.range L.length).filterMap (fun j => (L.getD j none).map (fun v => (j, gV g v)))
theorem getD_lt {L : mLs} {j : Nat} {v : Value} (h : L.getD j none = some v) : j < L.length := by
  rcases Nat.lt_or_ge j L.length with h1 | h1
  · exact h1
  · rw [List.getD_eq_getElem?_getD, List.getElem?_eq_none h1] at h
    cases h
theorem gLv_mem {g : mG} {L : mLs} {q : Nat × Value} : q ∈ gLv g L ↔ ∃ v, L.getD q.1 none = some v ∧ q.2 = gV g v := by
  unfold gLv
  rw [List.mem_filterMap]
  constructor
  · rintro ⟨j, -, hj⟩
    cases hv : L.getD j none with
    | none => rw [hv] at hj; cases hj
    | some v =>
      rw [hv] at hj
      cases hj
      exact ⟨v, hv, rfl⟩
  · rintro ⟨v, h1, h2⟩
    refine ⟨q.1, List.mem_range.mpr (getD_lt h1), ?_⟩
    rw [h1]
    simp only [Option.map_some]
    rw [← h2]
def gLs (g : mG) (n : Nat) (ls : Array Slot) (L : mLs) : Prop := lv_has ls n (gLv g L)
theorem gLs_at {g : mG} {n : Nat} {ls : Array Slot} {L : mLs} {j : Nat} {v : Value} (h : gLs g n ls L) (hv : L.getD j none = some v) : ls[j]? = some (.val (gV g v)) := h.2.2 (j, gV g v) (gLv_mem.mpr ⟨v, hv, rfl⟩)
theorem gLs_sub {g : mG} {n : Nat} {ls : Array Slot} {L : mLs} {l : List (Nat × Value)} (h : lv_has ls n l) (hs : ∀ q ∈ gLv g L, q ∈ l) : gLs g n ls L := ⟨h.1, h.2.1, fun q hq => h.2.2 q (hs q hq)⟩
theorem getD_set {L : mLs} {i j : Nat} {o : Option Value} : (L.set i o).getD j none = if j = i ∧ i < L.length then o else L.getD j none := by
  rw [List.getD_eq_getElem?_getD, List.getD_eq_getElem?_getD, List.getElem?_set]
  by_cases h : i = j
  · subst h
    by_cases h2 : i < L.length
    · simp [h2]
    · simp [h2]
  · rw [if_neg h, if_neg (fun q => h q.1.symm)]
theorem mClr_get {L : mLs} {i j : Nat} {u : Value} (h : (mClr L i).getD j none = some u) : L.getD j none = some u ∧ ¬ (j + 1 = i ∧ u.category = 2) := by
  cases i with
  | zero => exact ⟨h, fun q => by omega⟩
  | succ k =>
    have h : (if mLong (L.getD k none) = true then L.set k none else L).getD j none = some u := h
    split at h
    · rw [getD_set] at h
      split at h
      · cases h
      · rename_i h1 h2
        refine ⟨h, fun q => h2 ⟨by omega, ?_⟩⟩
        rw [← show j = k by omega]
        exact getD_lt h
    · rename_i h1
      refine ⟨h, fun q => h1 ?_⟩
      rw [show k = j by omega, h]
      simp [mLong, q.2]
theorem mClr_len {L : mLs} {i : Nat} : (mClr L i).length = L.length := by
  cases i with
  | zero => rfl
  | succ k =>
    show (if mLong (L.getD k none) = true then L.set k none else L).length = L.length
    split <;> simp
theorem gLv_s1 {g : mG} {L : mLs} {i : Nat} {v : Value} : ∀ q ∈ gLv g (mS1 L i v), q ∈ (i, gV g v) :: (gLv g L).filter (fun q => !(q.1 == i) && !(q.1 + 1 == i && q.2.category == 2)) := by
  rintro ⟨j, w⟩ hq
  obtain ⟨u, h1, h2⟩ := gLv_mem.mp hq
  simp only at h1 h2
  subst h2
  unfold mS1 at h1
  rw [getD_set] at h1
  split at h1
  · rename_i h3
    cases h1
    rw [h3.1]
    exact List.mem_cons_self
  · rename_i h3
    obtain ⟨h4, h5⟩ := mClr_get h1
    refine List.mem_cons_of_mem _ (List.mem_filter.mpr ⟨gLv_mem.mpr ⟨u, h4, rfl⟩, ?_⟩)
    have h6 : ¬ j = i := fun e => h3 ⟨e, by have := getD_lt h1; omega⟩
    simp only [gV_cat]
    by_cases h7 : j + 1 = i
    · have : ¬ u.category = 2 := fun e => h5 ⟨h7, e⟩
      simp [h6, this]
    · simp [h6, h7]
theorem gLv_s2 {g : mG} {L : mLs} {i : Nat} {v : Value} : ∀ q ∈ gLv g (mS2 L i v), q ∈ (i, gV g v) :: (gLv g L).filter (fun q => !(q.1 == i) && (!(q.1 == i + 1) && !(q.1 + 1 == i && q.2.category == 2))) := by
  rintro ⟨j, w⟩ hq
  obtain ⟨u, h1, h2⟩ := gLv_mem.mp hq
  simp only at h1 h2
  subst h2
  unfold mS2 at h1
  rw [getD_set] at h1
  split at h1
  · rename_i h3
    cases h1
    rw [h3.1]
    exact List.mem_cons_self
  · rename_i h3
    have h6 : ¬ j = i := fun e => h3 ⟨e, by have := getD_lt h1; omega⟩
    rw [getD_set] at h1
    split at h1
    · cases h1
    · rename_i h8
      obtain ⟨h4, h5⟩ := mClr_get h1
      have h9 : ¬ j = i + 1 := fun e => h8 ⟨e, by have := getD_lt h1; omega⟩
      refine List.mem_cons_of_mem _ (List.mem_filter.mpr ⟨gLv_mem.mpr ⟨u, h4, rfl⟩, ?_⟩)
      simp only [gV_cat]
      by_cases h7 : j + 1 = i
      · have : ¬ u.category = 2 := fun e => h5 ⟨h7, e⟩
        simp [h6, h9, this]
      · simp [h6, h7, h9]
-- tables by their places
theorem fGet_in {c i ci k : Nat} (h : fGet c i = some (ci, k)) : (c, i, ci, k) ∈ fL := by
  unfold fGet at h
  cases hf : fL.find? (fun q => q.1 == c && q.2.1 == i) with
  | none => rw [hf] at h; cases h
  | some q =>
    rw [hf] at h
    have h1 := List.find?_some hf
    have h2 := List.mem_of_find?_eq_some hf
    simp only [Bool.and_eq_true, beq_iff_eq] at h1
    obtain ⟨q1, q2, q3⟩ := q
    simp only [Option.map_some, Option.some.injEq] at h
    simp only at h1
    obtain ⟨rfl, rfl⟩ := h1
    subst h
    exact h2
theorem kGet_in {c i kd k : Nat} (h : kGet c i = some (kd, k)) : (c, i, kd, k) ∈ mLk := by
  unfold kGet at h
  cases hf : mLk.find? (fun q => q.1 == c && q.2.1 == i) with
  | none => rw [hf] at h; cases h
  | some q =>
    rw [hf] at h
    have h1 := List.find?_some hf
    have h2 := List.mem_of_find?_eq_some hf
    simp only [Bool.and_eq_true, beq_iff_eq] at h1
    obtain ⟨q1, q2, q3⟩ := q
    simp only [Option.map_some, Option.some.injEq] at h
    simp only at h1
    obtain ⟨rfl, rfl⟩ := h1
    subst h
    exact h2
theorem cGet_in {c i : Nat} {v : Int32} (h : cGet c i = some v) : (c, i, v) ∈ cL := by
  unfold cGet at h
  cases hf : cL.find? (fun q => q.1 == c && q.2.1 == i) with
  | none => rw [hf] at h; cases h
  | some q =>
    rw [hf] at h
    have h1 := List.find?_some hf
    have h2 := List.mem_of_find?_eq_some hf
    simp only [Bool.and_eq_true, beq_iff_eq] at h1
    obtain ⟨q1, q2, q3⟩ := q
    simp only [Option.map_some, Option.some.injEq] at h
    simp only at h1
    obtain ⟨rfl, rfl⟩ := h1
    subst h
    exact h2
theorem jGet_in {c i : Nat} {v : Int64} (h : jGet c i = some v) : (c, i, v) ∈ cJ := by
  unfold jGet at h
  cases hf : cJ.find? (fun q => q.1 == c && q.2.1 == i) with
  | none => rw [hf] at h; cases h
  | some q =>
    rw [hf] at h
    have h1 := List.find?_some hf
    have h2 := List.mem_of_find?_eq_some hf
    simp only [Bool.and_eq_true, beq_iff_eq] at h1
    obtain ⟨q1, q2, q3⟩ := q
    simp only [Option.map_some, Option.some.injEq] at h
    simp only at h1
    obtain ⟨rfl, rfl⟩ := h1
    subst h
    exact h2
theorem nGet_in {c i v : Nat} (h : nGet c i = some v) : (c, i, v) ∈ nL := by
  unfold nGet at h
  cases hf : nL.find? (fun q => q.1 == c && q.2.1 == i) with
  | none => rw [hf] at h; cases h
  | some q =>
    rw [hf] at h
    have h1 := List.find?_some hf
    have h2 := List.mem_of_find?_eq_some hf
    simp only [Bool.and_eq_true, beq_iff_eq] at h1
    obtain ⟨q1, q2, q3⟩ := q
    simp only [Option.map_some, Option.some.injEq] at h
    simp only at h1
    obtain ⟨rfl, rfl⟩ := h1
    subst h
    exact h2
theorem ixOK_in {i : Int32} {n : Nat} (h : ixOK i n = true) : vp_in i n := by
  unfold ixOK at h
  exact (of_decide_eq_true h : ¬ (i < 0 ∨ n ≤ i.toNatClampNeg))
theorem mK_le {h : mM} {a : Nat} : mK h a < 19 ∨ mK h a = 19 ∧ a = 0 ∨ mK h a = 99 := by
  unfold mK
  split
  · rename_i h1; exact Or.inr (Or.inl ⟨rfl, h1⟩)
  · split
    · rename_i h1 h2; exact Or.inl h2.2
    · exact Or.inr (Or.inr rfl)
end
section
-- each step of the small machine is one of the real machine's (gen_step.py)
theorem eqz {c x y : Nat} (h : x = y) : c = c + (x - y) := by omega
def gC (g : mG) (mi : Nat) (p : Program) (s : State) (m : MethodId) (meth : Method) (c : Code) (args : Array Value) : Prop :=
  p.tables.exec = Jvm.exec ∧ c.code = cd mi ∧ c.maxLocals = mx mi ∧ s.vm.findClass (RN (ow mi)) = some m.cls ∧ (∀ w ∈ lw_good, w.before args s = true) ∧ gEnv g s ∧ g.2.1 ≤ s.heap.size ∧ meth.locks = false ∧ ((yn mi).name = "<init>" → meth.name = "<init>")
def gGo (g : mG) (mi pc : Nat) (L : mLs) (st : List Value) (h : mM) (ins : Instr) (len : Nat) : Prop := ∀ (pc' : Nat) (L' : mLs) (st' : List Value) (h1 : mM), decode (cd mi) pc = .ok (ins, len) → mIns mi pc L st h ins len = some (.inl (pc', L', st', h1)) →
  ∀ (p : Program) (l : Launch) (e : Env) (R : Room) (s : State) (m : MethodId) (args : Array Value) (below : List Frame) (meth : Method) (c : Code) (H : Heap) (locs : List Loc) (cells slots : Nat) (Q : State → Prop) (ls : Array Slot), gC g mi p s m meth c args → gH g h s H → va_S (gA g) s.heap H locs → gLs g (mx mi) ls L → s.heap.size + cells + 1 = g.2.1 + mN h → 1 ≤ R.frames → 64 ≤ R.locals → cells + (mN h1 - mN h) ≤ R.cells → slots + (mZ h1 - mZ h) ≤ R.slots →
  (∀ (H1 : Heap) (locs1 : List Loc) (ls1 : Array Slot) (c1 s1 : Nat), c1 = cells + (mN h1 - mN h) → s1 = slots + (mZ h1 - mZ h) → gH g h1 s H1 → va_S (gA g) s.heap H1 locs1 → gLs g (mx mi) ls1 L' → W p l e R s m args below meth c H1 locs1 c1 s1 Q (F0 m pc' ls1 (st'.map (gV g)))) →
  W p l e R s m args below meth c H locs cells slots Q (F0 m pc ls (st.map (gV g)))
section GOS
variable {g : mG} {mi pc len : Nat} {L : mLs} {st : List Value} {h : mM}
theorem go_iconst {n : Int} : gGo g mi pc L st h (.iconst n) len := by
  intro pc' L' st' h1 hd hs p l e R s m args below meth c H locs cells slots Q ls hC hH hS hl hcs hfr hlo hce hsl K
  obtain ⟨hx, hb, hml, hown, hts, hE, hba, hlk, hnm⟩ := hC
  simp only [mIns, mNx] at hs
  split at hs
  · rename_i hlen
    subst hlen
    cases hs
    exact lv_iconst hx hb hd rfl (K H locs ls cells slots (eqz rfl) (eqz rfl) hH hS hl)
  · cases hs
theorem go_bipush {n : Int} : gGo g mi pc L st h (.bipush n) len := by
  intro pc' L' st' h1 hd hs p l e R s m args below meth c H locs cells slots Q ls hC hH hS hl hcs hfr hlo hce hsl K
  obtain ⟨hx, hb, hml, hown, hts, hE, hba, hlk, hnm⟩ := hC
  simp only [mIns, mNx] at hs
  split at hs
  · rename_i hlen
    subst hlen
    cases hs
    exact lv_bipush hx hb hd rfl (K H locs ls cells slots (eqz rfl) (eqz rfl) hH hS hl)
  · cases hs
theorem go_sipush {n : Int} : gGo g mi pc L st h (.sipush n) len := by
  intro pc' L' st' h1 hd hs p l e R s m args below meth c H locs cells slots Q ls hC hH hS hl hcs hfr hlo hce hsl K
  obtain ⟨hx, hb, hml, hown, hts, hE, hba, hlk, hnm⟩ := hC
  simp only [mIns, mNx] at hs
  split at hs
  · rename_i hlen
    subst hlen
    cases hs
    exact lv_sipush hx hb hd rfl (K H locs ls cells slots (eqz rfl) (eqz rfl) hH hS hl)
  · cases hs
theorem go_lconst {n : Fin 2} : gGo g mi pc L st h (.lconst n) len := by
  intro pc' L' st' h1 hd hs p l e R s m args below meth c H locs cells slots Q ls hC hH hS hl hcs hfr hlo hce hsl K
  obtain ⟨hx, hb, hml, hown, hts, hE, hba, hlk, hnm⟩ := hC
  simp only [mIns, mNx] at hs
  split at hs
  · rename_i hlen
    subst hlen
    cases hs
    exact lv_lconst hx hb hd rfl (K H locs ls cells slots (eqz rfl) (eqz rfl) hH hS hl)
  · cases hs
theorem go_ldc {i : Nat} : gGo g mi pc L st h (.ldc i) len := by
  intro pc' L' st' h1 hd hs p l e R s m args below meth c H locs cells slots Q ls hC hH hS hl hcs hfr hlo hce hsl K
  obtain ⟨hx, hb, hml, hown, hts, hE, hba, hlk, hnm⟩ := hC
  simp only [mIns, mNx] at hs
  split at hs
  · rename_i hlen
    subst hlen
    split at hs
    · rename_i v hq
      cases hs
      exact lv_ldc hx hb hown (hts _ (cL_ok _ (cGet_in hq))) hd (K H locs ls cells slots (eqz rfl) (eqz rfl) hH hS hl)
    · cases hs
  · cases hs
theorem go_ldc_w {i : Nat} : gGo g mi pc L st h (.ldc_w i) len := by
  intro pc' L' st' h1 hd hs p l e R s m args below meth c H locs cells slots Q ls hC hH hS hl hcs hfr hlo hce hsl K
  obtain ⟨hx, hb, hml, hown, hts, hE, hba, hlk, hnm⟩ := hC
  simp only [mIns, mNx] at hs
  split at hs
  · rename_i hlen
    subst hlen
    split at hs
    · rename_i v hq
      cases hs
      exact lv_ldcw hx hb hown (hts _ (cL_ok _ (cGet_in hq))) hd (K H locs ls cells slots (eqz rfl) (eqz rfl) hH hS hl)
    · cases hs
  · cases hs
theorem go_ldc2_w {i : Nat} : gGo g mi pc L st h (.ldc2_w i) len := by
  intro pc' L' st' h1 hd hs p l e R s m args below meth c H locs cells slots Q ls hC hH hS hl hcs hfr hlo hce hsl K
  obtain ⟨hx, hb, hml, hown, hts, hE, hba, hlk, hnm⟩ := hC
  simp only [mIns, mNx] at hs
  split at hs
  · rename_i hlen
    subst hlen
    split at hs
    · rename_i v hq
      cases hs
      exact lv_ldc2 hx hb hown (hts _ (cJ_ok _ (jGet_in hq))) hd (K H locs ls cells slots (eqz rfl) (eqz rfl) hH hS hl)
    · cases hs
  · cases hs
theorem go_iload_n {i : Fin 4} : gGo g mi pc L st h (.iload_n i) len := by
  intro pc' L' st' h1 hd hs p l e R s m args below meth c H locs cells slots Q ls hC hH hS hl hcs hfr hlo hce hsl K
  obtain ⟨hx, hb, hml, hown, hts, hE, hba, hlk, hnm⟩ := hC
  simp only [mIns, mNx] at hs
  split at hs
  · rename_i hlen
    subst hlen
    split at hs
    · rename_i x hq
      cases hs
      exact lv_iload_n hx hb hd rfl (gLs_at hl hq) (K H locs ls cells slots (eqz rfl) (eqz rfl) hH hS hl)
    · cases hs
  · cases hs
theorem go_iload {i : Nat} : gGo g mi pc L st h (.iload i) len := by
  intro pc' L' st' h1 hd hs p l e R s m args below meth c H locs cells slots Q ls hC hH hS hl hcs hfr hlo hce hsl K
  obtain ⟨hx, hb, hml, hown, hts, hE, hba, hlk, hnm⟩ := hC
  simp only [mIns, mNx] at hs
  split at hs
  · rename_i hlen
    subst hlen
    split at hs
    · rename_i x hq
      cases hs
      exact lv_iload hx hb hd (gLs_at hl hq) (K H locs ls cells slots (eqz rfl) (eqz rfl) hH hS hl)
    · cases hs
  · cases hs
theorem go_lload_n {i : Fin 4} : gGo g mi pc L st h (.lload_n i) len := by
  intro pc' L' st' h1 hd hs p l e R s m args below meth c H locs cells slots Q ls hC hH hS hl hcs hfr hlo hce hsl K
  obtain ⟨hx, hb, hml, hown, hts, hE, hba, hlk, hnm⟩ := hC
  simp only [mIns, mNx] at hs
  split at hs
  · rename_i hlen
    subst hlen
    split at hs
    · rename_i x hq
      cases hs
      exact lv_lload_n hx hb hd rfl (gLs_at hl hq) (K H locs ls cells slots (eqz rfl) (eqz rfl) hH hS hl)
    · cases hs
  · cases hs
theorem go_lload {i : Nat} : gGo g mi pc L st h (.lload i) len := by
  intro pc' L' st' h1 hd hs p l e R s m args below meth c H locs cells slots Q ls hC hH hS hl hcs hfr hlo hce hsl K
  obtain ⟨hx, hb, hml, hown, hts, hE, hba, hlk, hnm⟩ := hC
  simp only [mIns, mNx] at hs
  split at hs
  · rename_i hlen
    subst hlen
    split at hs
    · rename_i x hq
      cases hs
      exact lv_lload hx hb hd (gLs_at hl hq) (K H locs ls cells slots (eqz rfl) (eqz rfl) hH hS hl)
    · cases hs
  · cases hs
theorem go_aload_n {i : Fin 4} : gGo g mi pc L st h (.aload_n i) len := by
  intro pc' L' st' h1 hd hs p l e R s m args below meth c H locs cells slots Q ls hC hH hS hl hcs hfr hlo hce hsl K
  obtain ⟨hx, hb, hml, hown, hts, hE, hba, hlk, hnm⟩ := hC
  simp only [mIns, mNx] at hs
  split at hs
  · rename_i hlen
    subst hlen
    split at hs
    · rename_i x hq
      cases hs
      exact lv_aload_n hx hb hd rfl (gLs_at hl hq) (K H locs ls cells slots (eqz rfl) (eqz rfl) hH hS hl)
    · cases hs
  · cases hs
theorem go_aload {i : Nat} : gGo g mi pc L st h (.aload i) len := by
  intro pc' L' st' h1 hd hs p l e R s m args below meth c H locs cells slots Q ls hC hH hS hl hcs hfr hlo hce hsl K
  obtain ⟨hx, hb, hml, hown, hts, hE, hba, hlk, hnm⟩ := hC
  simp only [mIns, mNx] at hs
  split at hs
  · rename_i hlen
    subst hlen
    split at hs
    · rename_i x hq
      cases hs
      exact lv_aload hx hb hd (gLs_at hl hq) (K H locs ls cells slots (eqz rfl) (eqz rfl) hH hS hl)
    · cases hs
  · cases hs
theorem go_istore_n {i : Fin 4} : gGo g mi pc L st h (.istore_n i) len := by
  intro pc' L' st' h1 hd hs p l e R s m args below meth c H locs cells slots Q ls hC hH hS hl hcs hfr hlo hce hsl K
  obtain ⟨hx, hb, hml, hown, hts, hE, hba, hlk, hnm⟩ := hC
  simp only [mIns, mNx] at hs
  split at hs
  · rename_i hc
    obtain ⟨rfl, hlt⟩ := hc
    split at hs
    · cases hs
      exact lv_istore_n hx hb hd rfl hl hlt rfl (fun ls' h' => K H locs ls' cells slots (eqz rfl) (eqz rfl) hH hS (gLs_sub h' gLv_s1))
    · cases hs
  · cases hs
theorem go_istore {i : Nat} : gGo g mi pc L st h (.istore i) len := by
  intro pc' L' st' h1 hd hs p l e R s m args below meth c H locs cells slots Q ls hC hH hS hl hcs hfr hlo hce hsl K
  obtain ⟨hx, hb, hml, hown, hts, hE, hba, hlk, hnm⟩ := hC
  simp only [mIns, mNx] at hs
  split at hs
  · rename_i hc
    obtain ⟨rfl, hlt⟩ := hc
    split at hs
    · cases hs
      exact lv_istore hx hb hd hl hlt rfl (fun ls' h' => K H locs ls' cells slots (eqz rfl) (eqz rfl) hH hS (gLs_sub h' gLv_s1))
    · cases hs
  · cases hs
theorem go_lstore_n {i : Fin 4} : gGo g mi pc L st h (.lstore_n i) len := by
  intro pc' L' st' h1 hd hs p l e R s m args below meth c H locs cells slots Q ls hC hH hS hl hcs hfr hlo hce hsl K
  obtain ⟨hx, hb, hml, hown, hts, hE, hba, hlk, hnm⟩ := hC
  simp only [mIns, mNx] at hs
  split at hs
  · rename_i hc
    obtain ⟨rfl, hlt⟩ := hc
    split at hs
    · cases hs
      exact lv_lstore_n hx hb hd rfl hl hlt rfl (fun ls' h' => K H locs ls' cells slots (eqz rfl) (eqz rfl) hH hS (gLs_sub h' gLv_s2))
    · cases hs
  · cases hs
theorem go_lstore {i : Nat} : gGo g mi pc L st h (.lstore i) len := by
  intro pc' L' st' h1 hd hs p l e R s m args below meth c H locs cells slots Q ls hC hH hS hl hcs hfr hlo hce hsl K
  obtain ⟨hx, hb, hml, hown, hts, hE, hba, hlk, hnm⟩ := hC
  simp only [mIns, mNx] at hs
  split at hs
  · rename_i hc
    obtain ⟨rfl, hlt⟩ := hc
    split at hs
    · cases hs
      exact lv_lstore hx hb hd hl hlt rfl (fun ls' h' => K H locs ls' cells slots (eqz rfl) (eqz rfl) hH hS (gLs_sub h' gLv_s2))
    · cases hs
  · cases hs
theorem go_astore_n {i : Fin 4} : gGo g mi pc L st h (.astore_n i) len := by
  intro pc' L' st' h1 hd hs p l e R s m args below meth c H locs cells slots Q ls hC hH hS hl hcs hfr hlo hce hsl K
  obtain ⟨hx, hb, hml, hown, hts, hE, hba, hlk, hnm⟩ := hC
  simp only [mIns, mNx] at hs
  split at hs
  · rename_i hc
    obtain ⟨rfl, hlt⟩ := hc
    split at hs
    · cases hs
      exact lv_astore_n hx hb hd rfl hl hlt rfl (fun ls' h' => K H locs ls' cells slots (eqz rfl) (eqz rfl) hH hS (gLs_sub h' gLv_s1))
    · cases hs
  · cases hs
theorem go_astore {i : Nat} : gGo g mi pc L st h (.astore i) len := by
  intro pc' L' st' h1 hd hs p l e R s m args below meth c H locs cells slots Q ls hC hH hS hl hcs hfr hlo hce hsl K
  obtain ⟨hx, hb, hml, hown, hts, hE, hba, hlk, hnm⟩ := hC
  simp only [mIns, mNx] at hs
  split at hs
  · rename_i hc
    obtain ⟨rfl, hlt⟩ := hc
    split at hs
    · cases hs
      exact lv_astore hx hb hd hl hlt rfl (fun ls' h' => K H locs ls' cells slots (eqz rfl) (eqz rfl) hH hS (gLs_sub h' gLv_s1))
    · cases hs
  · cases hs
theorem go_iinc {i : Nat} {n : Int} : gGo g mi pc L st h (.iinc i n) len := by
  intro pc' L' st' h1 hd hs p l e R s m args below meth c H locs cells slots Q ls hC hH hS hl hcs hfr hlo hce hsl K
  obtain ⟨hx, hb, hml, hown, hts, hE, hba, hlk, hnm⟩ := hC
  simp only [mIns, mNx] at hs
  split at hs
  · rename_i hc
    obtain ⟨rfl, hlt⟩ := hc
    split at hs
    · rename_i x hq
      cases hs
      obtain ⟨k, hk⟩ := List.getElem?_of_mem (gLv_mem.mpr ⟨_, hq, rfl⟩ : (i, gV g (.int x)) ∈ gLv g L)
      exact lv_iinc hx hb hd hl hk rfl hlt rfl (fun ls' h' => K H locs ls' cells slots (eqz rfl) (eqz rfl) hH hS (gLs_sub h' gLv_s1))
    · cases hs
  · cases hs
theorem go_iadd : gGo g mi pc L st h .iadd len := by
  intro pc' L' st' h1 hd hs p l e R s m args below meth c H locs cells slots Q ls hC hH hS hl hcs hfr hlo hce hsl K
  obtain ⟨hx, hb, hml, hown, hts, hE, hba, hlk, hnm⟩ := hC
  simp only [mIns, mNx] at hs
  split at hs
  · rename_i hlen
    subst hlen
    split at hs
    · cases hs
      exact lv_iadd hx hb hd (K H locs ls cells slots (eqz rfl) (eqz rfl) hH hS hl)
    · cases hs
  · cases hs
theorem go_isub : gGo g mi pc L st h .isub len := by
  intro pc' L' st' h1 hd hs p l e R s m args below meth c H locs cells slots Q ls hC hH hS hl hcs hfr hlo hce hsl K
  obtain ⟨hx, hb, hml, hown, hts, hE, hba, hlk, hnm⟩ := hC
  simp only [mIns, mNx] at hs
  split at hs
  · rename_i hlen
    subst hlen
    split at hs
    · cases hs
      exact lv_isub hx hb hd (K H locs ls cells slots (eqz rfl) (eqz rfl) hH hS hl)
    · cases hs
  · cases hs
theorem go_imul : gGo g mi pc L st h .imul len := by
  intro pc' L' st' h1 hd hs p l e R s m args below meth c H locs cells slots Q ls hC hH hS hl hcs hfr hlo hce hsl K
  obtain ⟨hx, hb, hml, hown, hts, hE, hba, hlk, hnm⟩ := hC
  simp only [mIns, mNx] at hs
  split at hs
  · rename_i hlen
    subst hlen
    split at hs
    · cases hs
      exact lv_imul hx hb hd (K H locs ls cells slots (eqz rfl) (eqz rfl) hH hS hl)
    · cases hs
  · cases hs
theorem go_iand : gGo g mi pc L st h .iand len := by
  intro pc' L' st' h1 hd hs p l e R s m args below meth c H locs cells slots Q ls hC hH hS hl hcs hfr hlo hce hsl K
  obtain ⟨hx, hb, hml, hown, hts, hE, hba, hlk, hnm⟩ := hC
  simp only [mIns, mNx] at hs
  split at hs
  · rename_i hlen
    subst hlen
    split at hs
    · cases hs
      exact lv_iand hx hb hd (K H locs ls cells slots (eqz rfl) (eqz rfl) hH hS hl)
    · cases hs
  · cases hs
theorem go_ior : gGo g mi pc L st h .ior len := by
  intro pc' L' st' h1 hd hs p l e R s m args below meth c H locs cells slots Q ls hC hH hS hl hcs hfr hlo hce hsl K
  obtain ⟨hx, hb, hml, hown, hts, hE, hba, hlk, hnm⟩ := hC
  simp only [mIns, mNx] at hs
  split at hs
  · rename_i hlen
    subst hlen
    split at hs
    · cases hs
      exact lv_ior hx hb hd (K H locs ls cells slots (eqz rfl) (eqz rfl) hH hS hl)
    · cases hs
  · cases hs
theorem go_ixor : gGo g mi pc L st h .ixor len := by
  intro pc' L' st' h1 hd hs p l e R s m args below meth c H locs cells slots Q ls hC hH hS hl hcs hfr hlo hce hsl K
  obtain ⟨hx, hb, hml, hown, hts, hE, hba, hlk, hnm⟩ := hC
  simp only [mIns, mNx] at hs
  split at hs
  · rename_i hlen
    subst hlen
    split at hs
    · cases hs
      exact lv_ixor hx hb hd (K H locs ls cells slots (eqz rfl) (eqz rfl) hH hS hl)
    · cases hs
  · cases hs
theorem go_ishl : gGo g mi pc L st h .ishl len := by
  intro pc' L' st' h1 hd hs p l e R s m args below meth c H locs cells slots Q ls hC hH hS hl hcs hfr hlo hce hsl K
  obtain ⟨hx, hb, hml, hown, hts, hE, hba, hlk, hnm⟩ := hC
  simp only [mIns, mNx] at hs
  split at hs
  · rename_i hlen
    subst hlen
    split at hs
    · cases hs
      exact lv_ishl hx hb hd (K H locs ls cells slots (eqz rfl) (eqz rfl) hH hS hl)
    · cases hs
  · cases hs
theorem go_ishr : gGo g mi pc L st h .ishr len := by
  intro pc' L' st' h1 hd hs p l e R s m args below meth c H locs cells slots Q ls hC hH hS hl hcs hfr hlo hce hsl K
  obtain ⟨hx, hb, hml, hown, hts, hE, hba, hlk, hnm⟩ := hC
  simp only [mIns, mNx] at hs
  split at hs
  · rename_i hlen
    subst hlen
    split at hs
    · cases hs
      exact lv_ishr hx hb hd (K H locs ls cells slots (eqz rfl) (eqz rfl) hH hS hl)
    · cases hs
  · cases hs
theorem go_ladd : gGo g mi pc L st h .ladd len := by
  intro pc' L' st' h1 hd hs p l e R s m args below meth c H locs cells slots Q ls hC hH hS hl hcs hfr hlo hce hsl K
  obtain ⟨hx, hb, hml, hown, hts, hE, hba, hlk, hnm⟩ := hC
  simp only [mIns, mNx] at hs
  split at hs
  · rename_i hlen
    subst hlen
    split at hs
    · cases hs
      exact lv_ladd hx hb hd (K H locs ls cells slots (eqz rfl) (eqz rfl) hH hS hl)
    · cases hs
  · cases hs
theorem go_lsub : gGo g mi pc L st h .lsub len := by
  intro pc' L' st' h1 hd hs p l e R s m args below meth c H locs cells slots Q ls hC hH hS hl hcs hfr hlo hce hsl K
  obtain ⟨hx, hb, hml, hown, hts, hE, hba, hlk, hnm⟩ := hC
  simp only [mIns, mNx] at hs
  split at hs
  · rename_i hlen
    subst hlen
    split at hs
    · cases hs
      exact lv_lsub hx hb hd (K H locs ls cells slots (eqz rfl) (eqz rfl) hH hS hl)
    · cases hs
  · cases hs
theorem go_ineg : gGo g mi pc L st h .ineg len := by
  intro pc' L' st' h1 hd hs p l e R s m args below meth c H locs cells slots Q ls hC hH hS hl hcs hfr hlo hce hsl K
  obtain ⟨hx, hb, hml, hown, hts, hE, hba, hlk, hnm⟩ := hC
  simp only [mIns, mNx] at hs
  split at hs
  · rename_i hlen
    subst hlen
    split at hs
    · cases hs
      exact lv_ineg hx hb hd (K H locs ls cells slots (eqz rfl) (eqz rfl) hH hS hl)
    · cases hs
  · cases hs
theorem go_lcmp : gGo g mi pc L st h .lcmp len := by
  intro pc' L' st' h1 hd hs p l e R s m args below meth c H locs cells slots Q ls hC hH hS hl hcs hfr hlo hce hsl K
  obtain ⟨hx, hb, hml, hown, hts, hE, hba, hlk, hnm⟩ := hC
  simp only [mIns, mNx] at hs
  split at hs
  · rename_i hlen
    subst hlen
    split at hs
    · cases hs
      exact W.lcmp hx hb hd (K H locs ls cells slots (eqz rfl) (eqz rfl) hH hS hl)
    · cases hs
  · cases hs
theorem go_iushr : gGo g mi pc L st h .iushr len := by
  intro pc' L' st' h1 hd hs p l e R s m args below meth c H locs cells slots Q ls hC hH hS hl hcs hfr hlo hce hsl K
  obtain ⟨hx, hb, hml, hown, hts, hE, hba, hlk, hnm⟩ := hC
  simp only [mIns, mNx] at hs
  split at hs
  · rename_i hlen
    subst hlen
    split at hs
    · cases hs
      exact lv_iushr hx hb hd rfl (K H locs ls cells slots (eqz rfl) (eqz rfl) hH hS hl)
    · cases hs
  · cases hs
theorem go_i2l : gGo g mi pc L st h .i2l len := by
  intro pc' L' st' h1 hd hs p l e R s m args below meth c H locs cells slots Q ls hC hH hS hl hcs hfr hlo hce hsl K
  obtain ⟨hx, hb, hml, hown, hts, hE, hba, hlk, hnm⟩ := hC
  simp only [mIns, mNx] at hs
  split at hs
  · rename_i hlen
    subst hlen
    split at hs
    · cases hs
      exact lv_i2l hx hb hd rfl (K H locs ls cells slots (eqz rfl) (eqz rfl) hH hS hl)
    · cases hs
  · cases hs
theorem go_l2i : gGo g mi pc L st h .l2i len := by
  intro pc' L' st' h1 hd hs p l e R s m args below meth c H locs cells slots Q ls hC hH hS hl hcs hfr hlo hce hsl K
  obtain ⟨hx, hb, hml, hown, hts, hE, hba, hlk, hnm⟩ := hC
  simp only [mIns, mNx] at hs
  split at hs
  · rename_i hlen
    subst hlen
    split at hs
    · cases hs
      exact lv_l2i hx hb hd rfl (K H locs ls cells slots (eqz rfl) (eqz rfl) hH hS hl)
    · cases hs
  · cases hs
theorem go_idiv : gGo g mi pc L st h .idiv len := by
  intro pc' L' st' h1 hd hs p l e R s m args below meth c H locs cells slots Q ls hC hH hS hl hcs hfr hlo hce hsl K
  obtain ⟨hx, hb, hml, hown, hts, hE, hba, hlk, hnm⟩ := hC
  simp only [mIns, mNx] at hs
  split at hs
  · rename_i hlen
    subst hlen
    split at hs
    · split at hs
      · cases hs
      · rename_i hne
        cases hs
        exact lv_idiv hx hb hd hne (K H locs ls cells slots (eqz rfl) (eqz rfl) hH hS hl)
    · cases hs
  · cases hs
theorem go_irem : gGo g mi pc L st h .irem len := by
  intro pc' L' st' h1 hd hs p l e R s m args below meth c H locs cells slots Q ls hC hH hS hl hcs hfr hlo hce hsl K
  obtain ⟨hx, hb, hml, hown, hts, hE, hba, hlk, hnm⟩ := hC
  simp only [mIns, mNx] at hs
  split at hs
  · rename_i hlen
    subst hlen
    split at hs
    · split at hs
      · cases hs
      · rename_i hne
        cases hs
        exact lv_irem hx hb hd hne (K H locs ls cells slots (eqz rfl) (eqz rfl) hH hS hl)
    · cases hs
  · cases hs
theorem go_dup : gGo g mi pc L st h .dup len := by
  intro pc' L' st' h1 hd hs p l e R s m args below meth c H locs cells slots Q ls hC hH hS hl hcs hfr hlo hce hsl K
  obtain ⟨hx, hb, hml, hown, hts, hE, hba, hlk, hnm⟩ := hC
  simp only [mIns, mNx] at hs
  split at hs
  · rename_i hlen
    subst hlen
    split at hs
    · split at hs
      · rename_i hc
        cases hs
        exact lv_dup hx hb hd (by rw [gV_cat]; exact hc) (K H locs ls cells slots (eqz rfl) (eqz rfl) hH hS hl)
      · cases hs
    · cases hs
  · cases hs
theorem go_dup2 : gGo g mi pc L st h .dup2 len := by
  intro pc' L' st' h1 hd hs p l e R s m args below meth c H locs cells slots Q ls hC hH hS hl hcs hfr hlo hce hsl K
  obtain ⟨hx, hb, hml, hown, hts, hE, hba, hlk, hnm⟩ := hC
  simp only [mIns, mNx] at hs
  split at hs
  · rename_i hlen
    subst hlen
    split at hs
    · split at hs
      · rename_i hc
        cases hs
        exact lv_dup2_2 hx hb hd (by rw [gV_cat]; exact hc) (K H locs ls cells slots (eqz rfl) (eqz rfl) hH hS hl)
      · split at hs
        · split at hs
          · rename_i hc
            cases hs
            exact lv_dup2_11 hx hb hd (by rw [gV_cat]; exact hc.2) (by rw [gV_cat]; exact hc.1) (K H locs ls cells slots (eqz rfl) (eqz rfl) hH hS hl)
          · cases hs
        · cases hs
    · cases hs
  · cases hs
theorem tg_of {pc : Nat} {off : Int} (h : 0 ≤ (pc : Int) + off) : (pc : Int) + off = (((pc : Int) + off).toNat : Int) := (Int.toNat_of_nonneg h).symm
theorem gBr_ifCond {p : Program} {l : Launch} {e : Env} {R : Room} {s : State} {m : MethodId} {args : Array Value} {below : List Frame} {meth : Method} {c : Code} {H : Heap} {locs : List Loc} {cells slots : Nat} {Q : State → Prop} {cc : ByteArray} {ls : Array Slot} {rest : List Value} {cn : ClassFile.Cond} {off : Int} {x : Int32} (hx : p.tables.exec = Jvm.exec) (hb : c.code = cc) (hd : decode cc pc = .ok (.ifCond cn off, 3)) (ht : 0 ≤ (pc : Int) + off)
    (kt : mCmp cn x 0 = true → W p l e R s m args below meth c H locs cells slots Q (F0 m ((pc : Int) + off).toNat ls rest)) (kf : mCmp cn x 0 = false → W p l e R s m args below meth c H locs cells slots Q (F0 m (pc + 3) ls rest)) : W p l e R s m args below meth c H locs cells slots Q (F0 m pc ls (.int x :: rest)) := by
  cases cn
  · exact lv_if_eq hx hb hd (tg_of ht) (fun q => kt (decide_eq_true q)) (fun q => kf (decide_eq_false q))
  · exact lv_if_ne hx hb hd (tg_of ht) (fun q => kt (decide_eq_true q)) (fun q => kf (decide_eq_false (fun z => z q)))
  · exact lv_if_lt hx hb hd (tg_of ht) (fun q => kt (decide_eq_true q)) (fun q => kf (decide_eq_false q))
  · exact lv_if_ge hx hb hd (tg_of ht) (fun q => kt (decide_eq_true q)) (fun q => kf (decide_eq_false q))
  · exact lv_if_gt hx hb hd (tg_of ht) (fun q => kt (decide_eq_true q)) (fun q => kf (decide_eq_false q))
  · exact lv_if_le hx hb hd (tg_of ht) (fun q => kt (decide_eq_true q)) (fun q => kf (decide_eq_false q))
theorem gBf_ifCond {p : Program} {l : Launch} {e : Env} {R : Room} {s : State} {m : MethodId} {args : Array Value} {below : List Frame} {meth : Method} {c : Code} {H : Heap} {locs : List Loc} {cells slots : Nat} {Q : State → Prop} {cc : ByteArray} {ls : Array Slot} {rest : List Value} {cn : ClassFile.Cond} {off : Int} {x : Int32} (hx : p.tables.exec = Jvm.exec) (hb : c.code = cc) (hd : decode cc pc = .ok (.ifCond cn off, 3)) (hq : mCmp cn x 0 = false)
    (k : W p l e R s m args below meth c H locs cells slots Q (F0 m (pc + 3) ls rest)) : W p l e R s m args below meth c H locs cells slots Q (F0 m pc ls (.int x :: rest)) := by
  intro T hT X
  obtain ⟨t, a, b⟩ := k T hT X
  refine ⟨t, ?_, b⟩
  cases cn <;> simp only [mCmp, decide_eq_false_iff_not, Classical.not_not] at hq <;> (jvm_step X.here [X.here.top, hx, hb, hd, Op.ifCond.holds, hq]; exact a)
theorem go_ifCond {cn : ClassFile.Cond} {off : Int} : gGo g mi pc L st h (.ifCond cn off) len := by
  intro pc' L' st' h1 hd hs p l e R s m args below meth c H locs cells slots Q ls hC hH hS hl hcs hfr hlo hce hsl K
  obtain ⟨hx, hb, hml, hown, hts, hE, hba, hlk, hnm⟩ := hC
  simp only [mIns, mNx] at hs
  split at hs
  · rename_i hlen
    subst hlen
    split at hs
    · rename_i x r
      split at hs
      · rename_i hq
        unfold mTg mNx at hs
        split at hs
        · rename_i ht
          cases hs
          exact gBr_ifCond hx hb hd ht (fun _ => (K H locs ls cells slots (eqz rfl) (eqz rfl) hH hS hl)) (fun z => by rw [z] at hq; cases hq)
        · cases hs
      · rename_i hq
        cases hs
        exact gBf_ifCond hx hb hd (by simpa using hq) (K H locs ls cells slots (eqz rfl) (eqz rfl) hH hS hl)
    · cases hs
  · cases hs
theorem gBr_if_icmp {p : Program} {l : Launch} {e : Env} {R : Room} {s : State} {m : MethodId} {args : Array Value} {below : List Frame} {meth : Method} {c : Code} {H : Heap} {locs : List Loc} {cells slots : Nat} {Q : State → Prop} {cc : ByteArray} {ls : Array Slot} {rest : List Value} {cn : ClassFile.Cond} {off : Int} {x y : Int32} (hx : p.tables.exec = Jvm.exec) (hb : c.code = cc) (hd : decode cc pc = .ok (.if_icmp cn off, 3)) (ht : 0 ≤ (pc : Int) + off)
    (kt : mCmp cn x y = true → W p l e R s m args below meth c H locs cells slots Q (F0 m ((pc : Int) + off).toNat ls rest)) (kf : mCmp cn x y = false → W p l e R s m args below meth c H locs cells slots Q (F0 m (pc + 3) ls rest)) : W p l e R s m args below meth c H locs cells slots Q (F0 m pc ls (.int y :: .int x :: rest)) := by
  cases cn
  · exact lv_icmp_eq hx hb hd (tg_of ht) (fun q => kt (decide_eq_true q)) (fun q => kf (decide_eq_false q))
  · exact lv_icmp_ne hx hb hd (tg_of ht) (fun q => kt (decide_eq_true q)) (fun q => kf (decide_eq_false (fun z => z q)))
  · exact lv_icmp_lt hx hb hd (tg_of ht) (fun q => kt (decide_eq_true q)) (fun q => kf (decide_eq_false q))
  · exact lv_icmp_ge hx hb hd (tg_of ht) (fun q => kt (decide_eq_true q)) (fun q => kf (decide_eq_false q))
  · exact lv_icmp_gt hx hb hd (tg_of ht) (fun q => kt (decide_eq_true q)) (fun q => kf (decide_eq_false q))
  · exact lv_icmp_le hx hb hd (tg_of ht) (fun q => kt (decide_eq_true q)) (fun q => kf (decide_eq_false q))
theorem gBf_if_icmp {p : Program} {l : Launch} {e : Env} {R : Room} {s : State} {m : MethodId} {args : Array Value} {below : List Frame} {meth : Method} {c : Code} {H : Heap} {locs : List Loc} {cells slots : Nat} {Q : State → Prop} {cc : ByteArray} {ls : Array Slot} {rest : List Value} {cn : ClassFile.Cond} {off : Int} {x y : Int32} (hx : p.tables.exec = Jvm.exec) (hb : c.code = cc) (hd : decode cc pc = .ok (.if_icmp cn off, 3)) (hq : mCmp cn x y = false)
    (k : W p l e R s m args below meth c H locs cells slots Q (F0 m (pc + 3) ls rest)) : W p l e R s m args below meth c H locs cells slots Q (F0 m pc ls (.int y :: .int x :: rest)) := by
  intro T hT X
  obtain ⟨t, a, b⟩ := k T hT X
  refine ⟨t, ?_, b⟩
  cases cn <;> simp only [mCmp, decide_eq_false_iff_not, Classical.not_not] at hq <;> (jvm_step X.here [X.here.top, hx, hb, hd, Op.if_icmp.holds, hq]; exact a)
theorem go_if_icmp {cn : ClassFile.Cond} {off : Int} : gGo g mi pc L st h (.if_icmp cn off) len := by
  intro pc' L' st' h1 hd hs p l e R s m args below meth c H locs cells slots Q ls hC hH hS hl hcs hfr hlo hce hsl K
  obtain ⟨hx, hb, hml, hown, hts, hE, hba, hlk, hnm⟩ := hC
  simp only [mIns, mNx] at hs
  split at hs
  · rename_i hlen
    subst hlen
    split at hs
    · rename_i y x r
      split at hs
      · rename_i hq
        unfold mTg mNx at hs
        split at hs
        · rename_i ht
          cases hs
          exact gBr_if_icmp hx hb hd ht (fun _ => (K H locs ls cells slots (eqz rfl) (eqz rfl) hH hS hl)) (fun z => by rw [z] at hq; cases hq)
        · cases hs
      · rename_i hq
        cases hs
        exact gBf_if_icmp hx hb hd (by simpa using hq) (K H locs ls cells slots (eqz rfl) (eqz rfl) hH hS hl)
    · cases hs
  · cases hs
theorem go_goto {off : Int} : gGo g mi pc L st h (.goto off) len := by
  intro pc' L' st' h1 hd hs p l e R s m args below meth c H locs cells slots Q ls hC hH hS hl hcs hfr hlo hce hsl K
  obtain ⟨hx, hb, hml, hown, hts, hE, hba, hlk, hnm⟩ := hC
  simp only [mIns, mNx] at hs
  split at hs
  · rename_i hlen
    subst hlen
    unfold mTg mNx at hs
    split at hs
    · rename_i ht
      cases hs
      exact lv_goto hx hb hd (tg_of ht) (K H locs ls cells slots (eqz rfl) (eqz rfl) hH hS hl)
    · cases hs
  · cases hs
theorem go_tableswitch {dflt lo hi : Int} {offs : Array Int} : gGo g mi pc L st h (.tableswitch dflt lo hi offs) len := by
  intro pc' L' st' h1 hd hs p l e R s m args below meth c H locs cells slots Q ls hC hH hS hl hcs hfr hlo hce hsl K
  obtain ⟨hx, hb, hml, hown, hts, hE, hba, hlk, hnm⟩ := hC
  simp only [mIns, mNx] at hs
  split at hs
  · rename_i x r
    split at hs
    · rename_i hq
      unfold mTg mNx at hs
      split at hs
      · rename_i ht
        cases hs
        exact lv_tableOut hx hb hd hq (tg_of ht) (K H locs ls cells slots (eqz rfl) (eqz rfl) hH hS hl)
      · cases hs
    · rename_i hq
      split at hs
      · rename_i off ho
        unfold mTg mNx at hs
        split at hs
        · rename_i ht
          cases hs
          exact lv_tableIn hx hb hd (fun z => hq (Or.inl z)) (fun z => hq (Or.inr z)) ho (tg_of ht) (K H locs ls cells slots (eqz rfl) (eqz rfl) hH hS hl)
        · cases hs
      · cases hs
  · cases hs
end GOS
end
section
-- the instructions that read and write cells
theorem W.size {p : Program} {l : Launch} {e : Env} {R : Room} {s : State} {m : MethodId} {args : Array Value} {below : List Frame} {meth : Method} {c : Code} {H : Heap} {locs : List Loc} {cells slots : Nat} {Q : State → Prop} {g : JFrame} (k : H.size ≤ s.heap.size + cells → W p l e R s m args below meth c H locs cells slots Q g) : W p l e R s m args below meth c H locs cells slots Q g := fun T hT X => k (by rw [← hT]; exact X.heapSize) T hT X
theorem gSize {g : mG} {h : mM} {s : State} {H : Heap} {locs : List Loc} {cells : Nat} (hH : gH g h s H) (hS : va_S (gA g) s.heap H locs) (hba : g.2.1 ≤ s.heap.size) (hcs : s.heap.size + cells + 1 = g.2.1 + mN h) (hz : H.size ≤ s.heap.size + cells) : H.size = g.2.1 + (mN h - 1) := by
  have h1 := hH.1
  rcases Nat.lt_or_ge 1 (mN h) with h2 | h2
  · have h3 := hH.2.1 _ _ (gW_at (g := g) (h := h) (a := mN h - 1) (by omega) (by omega))
    have h4 := h3.lt
    simp only at h4
    rw [gAd_pos (by omega)] at h4
    omega
  · have := hS.1
    omega
theorem gX_kept {g : mG} {s : State} {H H1 : Heap} {locs locs1 : List Loc} (hb : g.1 < g.2.1) (hba : g.2.1 ≤ s.heap.size) (hS : va_S (gA g) s.heap H locs) (hS1 : va_S (gA g) s.heap H1 locs1) : H1[g.1]? = H[g.1]? := by
  have hn : ¬ gA g g.1 := fun q => by unfold gA at q; omega
  rw [hS.2.1 g.1 (by omega) hn, hS1.2.1 g.1 (by omega) hn]
theorem gH.put {g : mG} {h h1 : mM} {s : State} {H H1 : Heap} {locs locs1 : List Loc} (q : gH g h s H) (hba : g.2.1 ≤ s.heap.size) (hS : va_S (gA g) s.heap H locs) (hS1 : va_S (gA g) s.heap H1 locs1) (hn : 1 ≤ mN h1) (hP : va_P (gD g) mCl (gW g h1) H1) (hL : mL h1 0 = mL h 0) (hI : mI h1 0 = mI h 0) : gH g h1 s H1 := by
  refine ⟨hn, hP, ?_, q.2.2.2⟩
  rw [hL, hI]
  exact q.2.2.1.kept (gX_kept q.2.2.2 hba hS hS1)
theorem gE_congr {g : mG} {h h' : mM} {a : Nat} (hK : mK h' a = mK h a) (hL : mL h' a = mL h a) (hI : mI h' a = mI h a) (hJ : mJ h' a = mJ h a) (hR : mR h' a = mR h a) : gE g h' a = gE g h a := by
  unfold gE gFs gArr gF
  rw [hK, hL, hI, hJ, hR]
theorem mI_wI_ne {h : mM} {a k a' : Nat} {v : Int32} (ha : a' ≠ a) : mI (wI h a k v) a' = mI h a' := by
  funext j
  show (if a' = a ∧ j = k then v else _) = _
  rw [if_neg (fun q => ha q.1)]
  rfl
theorem mJ_wJ_ne {h : mM} {a k a' : Nat} {v : Int64} (ha : a' ≠ a) : mJ (wJ h a k v) a' = mJ h a' := by
  funext j
  show (if a' = a ∧ j = k then v else _) = _
  rw [if_neg (fun q => ha q.1)]
  rfl
theorem mR_wR_ne {h : mM} {a k a' : Nat} {v : Option Nat} (ha : a' ≠ a) : mR (wR h a k v) a' = mR h a' := by
  funext j
  show (if a' = a ∧ j = k then v else _) = _
  rw [if_neg (fun q => ha q.1)]
  rfl
theorem mI_wC_ne {h : mM} {a b sp dp n a' : Nat} (ha : a' ≠ b) : mI (wC h a b sp dp n) a' = mI h a' := by
  funext j
  show (if a' = b ∧ dp ≤ j ∧ j < dp + n then _ else _) = _
  rw [if_neg (fun q => ha q.1)]
  rfl
theorem mI_wI {h : mM} {a k a' k' : Nat} {v : Int32} : mI (wI h a k v) a' k' = if a' = a ∧ k' = k then v else mI h a' k' := rfl
theorem mJ_wJ {h : mM} {a k a' k' : Nat} {v : Int64} : mJ (wJ h a k v) a' k' = if a' = a ∧ k' = k then v else mJ h a' k' := rfl
theorem mR_wR {h : mM} {a k a' k' : Nat} {v : Option Nat} : mR (wR h a k v) a' k' = if a' = a ∧ k' = k then v else mR h a' k' := rfl
theorem mI_wC {h : mM} {a b sp dp n a' k' : Nat} : mI (wC h a b sp dp n) a' k' = if a' = b ∧ dp ≤ k' ∧ k' < dp + n then mI h a (sp + (k' - dp)) else mI h a' k' := rfl
theorem gW_putI {g : mG} {h : mM} {a k ci : Nat} {v : Int32} (hk : mK h a = ci) (h11 : ci < 11) (hr : mIsR (tyN ci k) = false) : (gW g h).set (a - 1) (gAd g a, .inr (ci, (gFs g h a ci).set k (.int v))) = gW g (wI h a k v) := by
  have ha := mK_in (h := h) (a := a) (by omega)
  rw [← gW_set (g := g) (h := h) (h' := wI h a k v) rfl ha.1 (fun a' h1 => gE_congr rfl rfl (mI_wI_ne h1) rfl rfl), gE_obj (h := wI h a k v) hk h11, gFs_set (h' := wI h a k v)]
  · simp [gF, hr, mI_wI]
  · intro j hj
    simp [gF, mI_wI, hj]
    rfl
theorem gW_putR {g : mG} {h : mM} {a k ci b : Nat} (hk : mK h a = ci) (h11 : ci < 11) (hr : mIsR (tyN ci k) = true) : (gW g h).set (a - 1) (gAd g a, .inr (ci, (gFs g h a ci).set k (.ref (gAd g b)))) = gW g (wR h a k (some b)) := by
  have ha := mK_in (h := h) (a := a) (by omega)
  rw [← gW_set (g := g) (h := h) (h' := wR h a k (some b)) rfl ha.1 (fun a' h1 => gE_congr rfl rfl rfl rfl (mR_wR_ne h1)), gE_obj (h := wR h a k (some b)) hk h11, gFs_set (h' := wR h a k (some b))]
  · simp [gF, hr, mR_wR, va_rf]
  · intro j hj
    simp [gF, mR_wR, hj]
    rfl
theorem gW_iast {g : mG} {h : mM} {a k : Nat} {v : Int32} (hk : mK h a = 11) : (gW g h).set (a - 1) (gAd g a, .inl (g.2.2.2.2 11, mL h a, .inl (upd (mI h a) k v))) = gW g (wI h a k v) := by
  have ha := mK_in (h := h) (a := a) (by omega)
  rw [← gW_set (g := g) (h := h) (h' := wI h a k v) rfl ha.1 (fun a' h1 => gE_congr rfl rfl (mI_wI_ne h1) rfl rfl), gE_arr (h := wI h a k v) hk (by omega)]
  have e : mI (wI h a k v) a = upd (mI h a) k v := by
    funext j
    simp [mI_wI, upd]
  unfold gArr
  rw [if_pos rfl, e]
  rfl
theorem gW_copy {g : mG} {h : mM} {a b sp dp n : Nat} (hk : mK h b = 11) : (gW g h).set (b - 1) (gAd g b, .inl (g.2.2.2.2 11, mL h b, .inl (va_cpy (mI h a) (mI h b) sp dp n))) = gW g (wC h a b sp dp n) := by
  have ha := mK_in (h := h) (a := b) (by omega)
  rw [← gW_set (g := g) (h := h) (h' := wC h a b sp dp n) rfl ha.1 (fun a' h1 => gE_congr rfl rfl (mI_wC_ne h1) rfl rfl), gE_arr (h := wC h a b sp dp n) hk (by omega)]
  have e : mI (wC h a b sp dp n) b = va_cpy (mI h a) (mI h b) sp dp n := by
    funext j
    simp [mI_wC, va_cpy]
  unfold gArr
  rw [if_pos rfl, e]
  rfl
theorem gW_last {g : mG} {h : mM} {a k : Nat} {v : Int64} (hk : mK h a = 12) : (gW g h).set (a - 1) (gAd g a, .inl (g.2.2.2.2 12, mL h a, .inr (.inl (vp_updL (mJ h a) k v)))) = gW g (wJ h a k v) := by
  have ha := mK_in (h := h) (a := a) (by omega)
  rw [← gW_set (g := g) (h := h) (h' := wJ h a k v) rfl ha.1 (fun a' h1 => gE_congr rfl rfl rfl (mJ_wJ_ne h1) rfl), gE_arr (h := wJ h a k v) hk (by omega)]
  have e : mJ (wJ h a k v) a = vp_updL (mJ h a) k v := by
    funext j
    simp [mJ_wJ, vp_updL]
  unfold gArr
  rw [if_neg (by omega), if_pos rfl, e]
  rfl
theorem gW_aast {g : mG} {h : mM} {a k b q : Nat} (hk : mK h a = q) (h1 : 12 < q) (h2 : q < 19) : (gW g h).set (a - 1) (gAd g a, .inl (g.2.2.2.2 q, mL h a, .inr (.inr (.inr (.inr (va_up (fun j => (mR h a j).map (gAd g)) k (some (gAd g b)))))))) = gW g (wR h a k (some b)) := by
  have ha := mK_in (h := h) (a := a) (by omega)
  rw [← gW_set (g := g) (h := h) (h' := wR h a k (some b)) rfl ha.1 (fun a' h1 => gE_congr rfl rfl rfl rfl (mR_wR_ne h1)), gE_arr (h := wR h a k (some b)) hk (by omega)]
  have e : (fun j => (mR (wR h a k (some b)) a j).map (gAd g)) = va_up (fun j => (mR h a j).map (gAd g)) k (some (gAd g b)) := by
    funext j
    by_cases hj : j = k
    · simp [mR_wR, va_up, hj]
    · simp [mR_wR, va_up, hj]
  unfold gArr
  rw [if_neg (by omega), if_neg (by omega), e]
  rfl
theorem gAt_obj {g : mG} {h : mM} {a ci : Nat} (hk : mK h a = ci) (h11 : ci < 11) : (gW g h)[a - 1]? = some (gAd g a, .inr (ci, gFs g h a ci)) := by
  have ha := mK_in (h := h) (a := a) (by omega)
  rw [gW_at ha.1 ha.2, gE_obj hk h11]
theorem gAt_i {g : mG} {h : mM} {a : Nat} (hk : mK h a = 11) : (gW g h)[a - 1]? = some (gAd g a, .inl (g.2.2.2.2 11, mL h a, .inl (mI h a))) := by
  have ha := mK_in (h := h) (a := a) (by omega)
  rw [gW_at ha.1 ha.2, gE_arr hk (by omega)]
  rfl
theorem gAt_l {g : mG} {h : mM} {a : Nat} (hk : mK h a = 12) : (gW g h)[a - 1]? = some (gAd g a, .inl (g.2.2.2.2 12, mL h a, .inr (.inl (mJ h a)))) := by
  have ha := mK_in (h := h) (a := a) (by omega)
  rw [gW_at ha.1 ha.2, gE_arr hk (by omega)]
  rfl
theorem gAt_r {g : mG} {h : mM} {a q : Nat} (hk : mK h a = q) (h1 : 12 < q) (h2 : q < 19) : (gW g h)[a - 1]? = some (gAd g a, .inl (g.2.2.2.2 q, mL h a, .inr (.inr (.inr (.inr (fun j => (mR h a j).map (gAd g))))))) := by
  have ha := mK_in (h := h) (a := a) (by omega)
  rw [gW_at ha.1 ha.2, gE_arr hk (by omega)]
  unfold gArr
  rw [if_neg (by omega), if_neg (by omega)]
def gTy (q : Nat) : FieldType := if q = 13 then .object (RN 3) else if q = 14 then .object (RN 0) else if q = 15 then .object (RN 2) else if q = 16 then .object (RN 6) else if q = 17 then .object (RN 4) else .array .int
theorem gT_at {g : mG} {q : Nat} (h1 : 12 < q) (h2 : q < 19) : (gT g)[q - 11]? = some (g.2.2.2.2 q, gTy q) ∧ (gTy q).isReference = true := by
  rcases (show q = 13 ∨ q = 14 ∨ q = 15 ∨ q = 16 ∨ q = 17 ∨ q = 18 by omega) with h | h | h | h | h | h <;> subst h <;> exact ⟨rfl, rfl⟩
section GOH
variable {g : mG} {mi pc len : Nat} {L : mLs} {st : List Value} {h : mM}
theorem go_getfield {i : Nat} : gGo g mi pc L st h (.getfield i) len := by
  intro pc' L' st' h1 hd hs p l e R s m args below meth c H locs cells slots Q ls hC hH hS hl hcs hfr hlo hce hsl K
  obtain ⟨hx, hb, hml, hown, hts, hE, hba, hlk, hnm⟩ := hC
  simp only [mIns] at hs
  split at hs
  · rename_i hlen
    subst hlen
    unfold mGetF mNx at hs
    split at hs
    · rename_i a r
      split at hs
      · rename_i ci k hf
        split at hs
        · rename_i hk
          have hin := fGet_in hf
          have h11 : ci < 11 := (fL_ok1 _ hin).1
          have hkn : k < nfN ci := (fL_ok1 _ hin).2
          split at hs
          · rename_i hr
            split at hs
            · rename_i b hb2
              cases hs
              refine va_get (v := .ref (gAd g b)) hx hb hts (inN ci h11) hown hE.1 hH.2.1 (a - 1) (gAt_obj hk h11) (mCl_at h11) k hkn (hts _ (fL_ok _ hin)) (fun _ z => z) ?_ hd (K H locs ls cells slots (eqz rfl) (eqz rfl) hH hS hl)
              rw [gFs_at hkn]
              simp [gF, hr, hb2, va_rf]
            · cases hs
          · rename_i hr
            cases hs
            refine va_get (v := .int (mI h a k)) hx hb hts (inN ci h11) hown hE.1 hH.2.1 (a - 1) (gAt_obj hk h11) (mCl_at h11) k hkn (hts _ (fL_ok _ hin)) (fun _ z => z) ?_ hd (K H locs ls cells slots (eqz rfl) (eqz rfl) hH hS hl)
            rw [gFs_at hkn]
            simp [gF, hr]
        · cases hs
      · cases hs
    · cases hs
  · cases hs
theorem go_putfield {i : Nat} : gGo g mi pc L st h (.putfield i) len := by
  intro pc' L' st' h1 hd hs p l e R s m args below meth c H locs cells slots Q ls hC hH hS hl hcs hfr hlo hce hsl K
  obtain ⟨hx, hb, hml, hown, hts, hE, hba, hlk, hnm⟩ := hC
  simp only [mIns] at hs
  split at hs
  · rename_i hlen
    subst hlen
    unfold mPutF mNx at hs
    split at hs
    · rename_i v a r
      split at hs
      · rename_i ci k hf
        split at hs
        · rename_i hk
          obtain ⟨hk, ht, hfin⟩ := hk
          have hin := fGet_in hf
          have h11 : ci < 11 := (fL_ok1 _ hin).1
          have hkn : k < nfN ci := (fL_ok1 _ hin).2
          have ha := mK_in (h := h) (a := a) (by omega)
          cases hs
          have hr : mIsR (tyN ci k) = false := by rcases ht with ht | ht <;> simp [ht, mIsR]
          have hn : narrow (tyN ci k) (.int v) = .int v := by
            rcases ht with ht | ⟨ht, hz⟩
            · rw [ht]; rfl
            · rw [ht]
              unfold mZO at hz
              simp only [Bool.or_eq_true, beq_iff_eq] at hz
              rcases hz with rfl | rfl <;> decide
          have hfit : fits (tyN ci k) (.int v) = true := by
            rcases ht with ht | ⟨ht, hz⟩
            · rw [ht]; rfl
            · rw [ht]; exact hz
          refine va_put (v := .int v) hx hb hts (inN ci h11) (tyN ci) (tyN_ok ci h11) (nmN ci h11) hown hE.1 hH.2.1 gW_D hS (a - 1) (gAt_obj hk h11) (mCl_at h11) k hkn (hts _ (fL_ok _ hin)) (fun _ z => z) hfin (tyN_ok ci h11 k hkn) hn hfit (by rw [gFs_len]; exact hkn) hd (fun H1 locs1 hP1 hD1 hS1 => ?_)
          rw [gW_putI hk h11 hr] at hP1
          exact K H1 locs1 ls cells slots (eqz rfl) (eqz rfl) (hH.put hba hS hS1 hH.1 hP1 rfl (mI_wI_ne (by omega))) hS1 hl
        · cases hs
      · cases hs
    · rename_i b a r
      split at hs
      · rename_i ci k hf
        split at hs
        · rename_i hk
          obtain ⟨hk, hr, hfin⟩ := hk
          have hin := fGet_in hf
          have h11 : ci < 11 := (fL_ok1 _ hin).1
          have hkn : k < nfN ci := (fL_ok1 _ hin).2
          have ha := mK_in (h := h) (a := a) (by omega)
          cases hs
          have hn : narrow (tyN ci k) (.ref (gAd g b)) = .ref (gAd g b) := by
            generalize tyN ci k = ty at hr
            cases ty <;> first | rfl | (cases hr)
          have hfit : fits (tyN ci k) (.ref (gAd g b)) = true := by
            generalize tyN ci k = ty at hr
            cases ty <;> first | rfl | (cases hr)
          rcases hfin with hfin | ⟨hfin, hi, hde⟩
          · refine va_put (v := .ref (gAd g b)) hx hb hts (inN ci h11) (tyN ci) (tyN_ok ci h11) (nmN ci h11) hown hE.1 hH.2.1 gW_D hS (a - 1) (gAt_obj hk h11) (mCl_at h11) k hkn (hts _ (fL_ok _ hin)) (fun _ z => z) hfin (tyN_ok ci h11 k hkn) hn hfit (by rw [gFs_len]; exact hkn) hd (fun H1 locs1 hP1 hD1 hS1 => ?_)
            rw [gW_putR hk h11 hr] at hP1
            exact K H1 locs1 ls cells slots (eqz rfl) (eqz rfl) (hH.put hba hS hS1 hH.1 hP1 rfl rfl) hS1 hl
          · refine va_putF (v := .ref (gAd g b)) hx hb hts (inN ci h11) (tyN ci) (tyN_ok ci h11) (nmN ci h11) hown hE.1 hH.2.1 gW_D hS (a - 1) (gAt_obj hk h11) (mCl_at h11) k hkn (hts _ (fL_ok _ hin)) (fun _ z => z) hfin (hnm hi) hde (tyN_ok ci h11 k hkn) hn hfit (by rw [gFs_len]; exact hkn) hd (fun H1 locs1 hP1 hD1 hS1 => ?_)
            rw [gW_putR hk h11 hr] at hP1
            exact K H1 locs1 ls cells slots (eqz rfl) (eqz rfl) (hH.put hba hS hS1 hH.1 hP1 rfl rfl) hS1 hl
        · cases hs
      · cases hs
    · cases hs
  · cases hs
theorem go_iaload : gGo g mi pc L st h .iaload len := by
  intro pc' L' st' h1 hd hs p l e R s m args below meth c H locs cells slots Q ls hC hH hS hl hcs hfr hlo hce hsl K
  obtain ⟨hx, hb, hml, hown, hts, hE, hba, hlk, hnm⟩ := hC
  simp only [mIns, mNx] at hs
  split at hs
  · rename_i hlen
    subst hlen
    split at hs
    · rename_i i a r
      split at hs
      · rename_i hk
        obtain ⟨hk, hi⟩ := hk
        cases hs
        rcases hk with hk | hk
        · exact va_iald hx hb hE.1 hH.2.1 (a - 1) 0 (gAt_i hk) rfl (ixOK_in hi) hd (K H locs ls cells slots (eqz rfl) (eqz rfl) hH hS hl)
        · have ha : a = 0 := by
            rcases mK_le (h := h) (a := a) with q | q | q
            · omega
            · exact q.2
            · omega
          subst ha
          have hbA : ¬ gA g g.1 := fun q => by unfold gA at q; have := hH.2.2.2; omega
          have hbl : g.1 < s.heap.size := by have := hH.2.2.2; omega
          exact va_sld hx hb (hH.2.2.1.kept (hS.2.1 g.1 hbl hbA).symm) hbl hbA hS (ixOK_in hi) hd (K H locs ls cells slots (eqz rfl) (eqz rfl) hH hS hl)
      · cases hs
    · cases hs
  · cases hs
theorem go_laload : gGo g mi pc L st h .laload len := by
  intro pc' L' st' h1 hd hs p l e R s m args below meth c H locs cells slots Q ls hC hH hS hl hcs hfr hlo hce hsl K
  obtain ⟨hx, hb, hml, hown, hts, hE, hba, hlk, hnm⟩ := hC
  simp only [mIns, mNx] at hs
  split at hs
  · rename_i hlen
    subst hlen
    split at hs
    · rename_i i a r
      split at hs
      · rename_i hk
        obtain ⟨hk, hi⟩ := hk
        cases hs
        exact va_lald hx hb hE.1 hH.2.1 (a - 1) 1 (gAt_l hk) rfl (ixOK_in hi) hd (K H locs ls cells slots (eqz rfl) (eqz rfl) hH hS hl)
      · cases hs
    · cases hs
  · cases hs
theorem go_aaload : gGo g mi pc L st h .aaload len := by
  intro pc' L' st' h1 hd hs p l e R s m args below meth c H locs cells slots Q ls hC hH hS hl hcs hfr hlo hce hsl K
  obtain ⟨hx, hb, hml, hown, hts, hE, hba, hlk, hnm⟩ := hC
  simp only [mIns, mNx] at hs
  split at hs
  · rename_i hlen
    subst hlen
    split at hs
    · rename_i i a r
      split at hs
      · rename_i hk
        obtain ⟨hk, hi⟩ := hk
        split at hs
        · rename_i b hb2
          cases hs
          obtain ⟨ht, hty⟩ := gT_at (g := g) hk.1 hk.2
          have hin := ixOK_in hi
          have hlt : i.toNatClampNeg < mL h a := Nat.not_le.mp fun q => hin (Or.inr q)
          have ha := hH.2.1 _ _ (gAt_r rfl hk.1 hk.2)
          have hv : va_rf ((mR h a i.toNatClampNeg).map (gAd g)) = .ref (gAd g b) := by rw [hb2]; rfl
          exact W.aald (v := .ref (gAd g b)) (ty := gTy (mK h a)) hx hb ha ((hE.1.2 _ _ ht).1 (mL h a) (fun j => va_rf ((mR h a j).map (gAd g)))) hty (fun q => by cases q) (by show ¬ (i < 0 ∨ (arrV _ _ _).slots.size ≤ _); rw [arrV_size]; exact hin) (by show (arrV _ _ _).slots[_]? = _; rw [arrV_read _ _ hlt, hv]) rfl rfl hd (K H locs ls cells slots (eqz rfl) (eqz rfl) hH hS hl)
        · cases hs
      · cases hs
    · cases hs
  · cases hs
theorem go_iastore : gGo g mi pc L st h .iastore len := by
  intro pc' L' st' h1 hd hs p l e R s m args below meth c H locs cells slots Q ls hC hH hS hl hcs hfr hlo hce hsl K
  obtain ⟨hx, hb, hml, hown, hts, hE, hba, hlk, hnm⟩ := hC
  simp only [mIns, mNx] at hs
  split at hs
  · rename_i hlen
    subst hlen
    split at hs
    · rename_i v i a r
      split at hs
      · rename_i hk
        obtain ⟨hk, hi⟩ := hk
        cases hs
        have ha := mK_in (h := h) (a := a) (by omega)
        refine va_iast hx hb hE.1 hH.2.1 gW_D hS (a - 1) 0 (gAt_i hk) rfl (ixOK_in hi) hd (fun H1 locs1 hP1 hD1 hS1 => ?_)
        rw [gW_iast hk] at hP1
        exact K H1 locs1 ls cells slots (eqz rfl) (eqz rfl) (hH.put hba hS hS1 hH.1 hP1 rfl (mI_wI_ne (by omega))) hS1 hl
      · cases hs
    · cases hs
  · cases hs
theorem go_lastore : gGo g mi pc L st h .lastore len := by
  intro pc' L' st' h1 hd hs p l e R s m args below meth c H locs cells slots Q ls hC hH hS hl hcs hfr hlo hce hsl K
  obtain ⟨hx, hb, hml, hown, hts, hE, hba, hlk, hnm⟩ := hC
  simp only [mIns, mNx] at hs
  split at hs
  · rename_i hlen
    subst hlen
    split at hs
    · rename_i v i a r
      split at hs
      · rename_i hk
        obtain ⟨hk, hi⟩ := hk
        cases hs
        refine va_last hx hb hE.1 hH.2.1 gW_D hS (a - 1) 1 (gAt_l hk) rfl (ixOK_in hi) hd (fun H1 locs1 hP1 hD1 hS1 => ?_)
        rw [gW_last hk] at hP1
        exact K H1 locs1 ls cells slots (eqz rfl) (eqz rfl) (hH.put hba hS hS1 hH.1 hP1 rfl rfl) hS1 hl
      · cases hs
    · cases hs
  · cases hs
theorem go_aastore : gGo g mi pc L st h .aastore len := by
  intro pc' L' st' h1 hd hs p l e R s m args below meth c H locs cells slots Q ls hC hH hS hl hcs hfr hlo hce hsl K
  obtain ⟨hx, hb, hml, hown, hts, hE, hba, hlk, hnm⟩ := hC
  simp only [mIns, mNx] at hs
  split at hs
  · rename_i hlen
    subst hlen
    split at hs
    · rename_i b i a r
      split at hs
      · rename_i hk
        obtain ⟨hk, hbk, hi⟩ := hk
        cases hs
        have he : mEl (mK h a) < 11 ∧ gTy (mK h a) = .object (RN (mEl (mK h a))) := by
          rcases (show mK h a = 13 ∨ mK h a = 14 ∨ mK h a = 15 ∨ mK h a = 16 ∨ mK h a = 17 by omega) with q | q | q | q | q <;> rw [q] <;> exact ⟨by decide, rfl⟩
        obtain ⟨ht, -⟩ := gT_at (g := g) hk.1 (show mK h a < 19 by omega)
        rw [he.2] at ht
        refine va_astq (r := (RN (mEl (mK h a)), TN (mEl (mK h a)), nfN (mEl (mK h a)))) hx hb hE.1 hH.2.1 gW_D hS (a - 1) _ (b - 1) (mEl (mK h a)) (gAt_r rfl hk.1 (by omega)) ht (gAt_obj hbk he.1) (mCl_at he.1) (ixOK_in hi) hd (fun H1 locs1 hP1 hD1 hS1 => ?_)
        rw [gW_aast rfl hk.1 (by omega)] at hP1
        exact K H1 locs1 ls cells slots (eqz rfl) (eqz rfl) (hH.put hba hS hS1 hH.1 hP1 rfl rfl) hS1 hl
      · cases hs
    · cases hs
  · cases hs
theorem go_arraylength : gGo g mi pc L st h .arraylength len := by
  intro pc' L' st' h1 hd hs p l e R s m args below meth c H locs cells slots Q ls hC hH hS hl hcs hfr hlo hce hsl K
  obtain ⟨hx, hb, hml, hown, hts, hE, hba, hlk, hnm⟩ := hC
  simp only [mIns, mNx] at hs
  split at hs
  · rename_i hlen
    subst hlen
    split at hs
    · rename_i a r
      split at hs
      · rename_i hk
        cases hs
        have ha : a = 0 := by
          rcases mK_le (h := h) (a := a) with q | q | q
          · omega
          · exact q.2
          · omega
        subst ha
        have hbA : ¬ gA g g.1 := fun q => by unfold gA at q; have := hH.2.2.2; omega
        have hbl : g.1 < s.heap.size := by have := hH.2.2.2; omega
        exact va_slen hx hb (hH.2.2.1.kept (hS.2.1 g.1 hbl hbA).symm) hbl hbA hS hd (K H locs ls cells slots (eqz rfl) (eqz rfl) hH hS hl)
      · cases hs
    · cases hs
  · cases hs
end GOH
end
section
-- new cells, and the library's own calls
theorem dfl_ok : ∀ ci, ci < 11 → ∀ k, k < nfN ci → defaultValue (tyN ci k) = if mIsR (tyN ci k) = true then .null else .int 0 := by decide +kernel
theorem mK_wN_ne {h : mM} {q n a : Nat} (ha : a ≠ mN h) : mK (wN h q n) a = mK h a := by
  unfold mK wN
  unfold mN at ha
  simp only
  by_cases h0 : a = 0
  · rw [if_pos h0, if_pos h0]
  · rw [if_neg h0, if_neg h0, if_neg ha]
    by_cases h1 : a < h.1
    · have : a < h.1 + 1 := by omega
      simp [h1, this]
    · have : ¬ a < h.1 + 1 := by omega
      simp [h1, this]
theorem mK_wN_new {h : mM} {q n : Nat} (hn : 1 ≤ mN h) (hq : q < 19) : mK (wN h q n) (mN h) = q := by
  unfold mK wN
  unfold mN at hn ⊢
  simp only
  rw [if_neg (by omega)]
  simp [hq]
theorem gE_wN {g : mG} {h : mM} {q n a : Nat} (ha : a ≠ mN h) : gE g (wN h q n) a = gE g h a := by
  have ha1 : a ≠ h.1 := ha
  refine gE_congr (mK_wN_ne ha) ?_ ?_ ?_ ?_
  · show (if a = h.1 then (q, n) else h.2.2.1 a).2 = _
    rw [if_neg ha1]; rfl
  · funext k
    show (if a = h.1 then (0 : Int32) else _) = _
    rw [if_neg ha1]; rfl
  · funext k
    show (if a = h.1 then (0 : Int64) else _) = _
    rw [if_neg ha1]; rfl
  · funext k
    show (if a = h.1 then (none : Option Nat) else _) = _
    rw [if_neg ha1]; rfl
theorem gW_wN {g : mG} {h : mM} {q n : Nat} (hn : 1 ≤ mN h) : gW g (wN h q n) = gW g h ++ [(g.2.1 + (mN h - 1), gE g (wN h q n) (mN h))] := by
  have e : mN (wN h q n) - 1 = (mN h - 1) + 1 := by show (h.1 + 1) - 1 = _; unfold mN at hn ⊢; omega
  unfold gW
  rw [e, List.range_succ, List.map_append]
  congr 1
  · apply List.map_congr_left
    intro i hi
    have := List.mem_range.mp hi
    rw [gE_wN (by omega)]
  · simp only [List.map_cons, List.map_nil]
    rw [show mN h - 1 + 1 = mN h by omega]
theorem gH.grow {g : mG} {h : mM} {q n : Nat} {s : State} {H H1 : Heap} {locs : List Loc} (hH : gH g h s H) (hba : g.2.1 ≤ s.heap.size) (hS : va_S (gA g) s.heap H locs) (hz : H.size = g.2.1 + (mN h - 1)) (o1 : ∀ q : Nat, q < H.size → H1[q]? = H[q]?) (z1 : H1.size = H.size + 1) (hat : va_at (gD g) mCl (g.2.1 + (mN h - 1), gE g (wN h q n) (mN h)) H1) : gH g (wN h q n) s H1 ∧ va_S (gA g) s.heap H1 locs := by
  have hn := hH.1
  have hS1 : va_S (gA g) s.heap H1 locs := ⟨by have := hS.1; omega, fun x h1 h2 => (o1 x (Nat.lt_of_lt_of_le h1 hS.1)).trans (hS.2.1 x h1 h2), hS.2.2⟩
  refine ⟨hH.put hba hS hS1 (by show 1 ≤ h.1 + 1; omega) ?_ ?_ ?_, hS1⟩
  · rw [gW_wN hn]
    refine (hH.2.1.kept fun k x hx => o1 x.1 ((hH.2.1 k x hx).lt)).app (fun k x hx => ?_)
    have hz : k < 1 := (List.getElem?_eq_some_iff.mp hx).1
    rw [show k = 0 by omega] at hx
    cases hx
    exact hat
  · show (if 0 = h.1 then (q, n) else h.2.2.1 0).2 = _
    unfold mN at hn
    rw [if_neg (by omega)]; rfl
  · funext k
    show (if 0 = h.1 then (0 : Int32) else _) = _
    unfold mN at hn
    rw [if_neg (by omega)]; rfl
theorem nL_cl {a b c : Nat} (hq : (a, b, c) ∈ nL) : Cond.classLink (RN a) b (RN c) ∈ lw_good := nL_ok _ hq _ List.mem_cons_self
theorem nL_in {a b c : Nat} (hq : (a, b, c) ∈ nL) : Cond.instantiable (RN c) (nfN c) ∈ lw_good := nL_ok _ hq _ (List.mem_cons_of_mem _ List.mem_cons_self)
theorem nL_ini {a b c : Nat} (hq : (a, b, c) ∈ nL) : Cond.initialized (RN c) ∈ lw_good := nL_ok _ hq _ (List.mem_cons_of_mem _ (List.mem_cons_of_mem _ List.mem_cons_self))
section GOA
variable {g : mG} {mi pc len : Nat} {L : mLs} {st : List Value} {h : mM}
theorem wN_c {h : mM} {q n c : Nat} : c + 1 = c + (mN (wN h q n) - mN h) := by
  show c + 1 = c + (h.1 + 1 - h.1)
  omega
theorem wN_s {h : mM} {q n c : Nat} : c + n = c + (mZ (wN h q n) - mZ h) := by
  show c + n = c + (h.2.1 + n - h.2.1)
  omega
theorem go_newarray {t : ArrayType} : gGo g mi pc L st h (.newarray t) len := by
  intro pc' L' st' h1 hd hs p l e R s m args below meth c H locs cells slots Q ls hC hH hS hl hcs hfr hlo hce hsl K
  obtain ⟨hx, hb, hml, hown, hts, hE, hba, hlk, hnm⟩ := hC
  simp only [mIns, mNx] at hs
  split at hs
  · rename_i hlen
    subst hlen
    split at hs
    · rename_i n r
      split at hs
      · rename_i hk
        obtain ⟨ht, hn0, hn1⟩ := hk
        cases hs
        have hc1 : cells + 1 ≤ R.cells := by rw [wN_c (h := h) (q := if t = .int then 11 else 12) (n := n.toNatClampNeg)]; exact hce
        have hs1 : slots + n.toNatClampNeg ≤ R.slots := by rw [wN_s (h := h) (q := if t = .int then 11 else 12)]; exact hsl
        refine W.size fun hz0 => ?_
        have hz := gSize hH hS hba hcs hz0
        have hgA : gAd g (mN h) = H.size := by rw [gAd_pos hH.1, hz]
        rcases ht with rfl | rfl
        · refine va_newaK hx hb (hts _ (arr_ok _ (by simp [newarray.typeOf]))) (atype := .int) rfl hd rfl hn0 rfl ?_ hc1 hs1 rfl fun H1 cA e1 z1 o1 hAr hNm => ?_
          · show n.toNatClampNeg * 4 ≤ _
            omega
          have hcA : cA = g.2.2.2.2 11 := Option.some.inj (hNm.symm.trans (hE.1.2 0 _ rfl).2)
          obtain ⟨h2, h3⟩ := hH.grow (q := 11) (n := n.toNatClampNeg) hba hS hz o1 z1 (by
            rw [gE_arr (mK_wN_new hH.1 (by omega)) (by omega)]
            show H1[g.2.1 + (mN h - 1)]? = some (vp_cell _ _)
            rw [← hz, e1, hcA]
            unfold gArr
            rw [if_pos rfl, vp_cell_i]
            have e2 : mL (wN h 11 n.toNatClampNeg) (mN h) = n.toNatClampNeg := by
              show (if h.1 = h.1 then (11, n.toNatClampNeg) else _).2 = _
              rw [if_pos rfl]
            have e3 : (fun j => Value.int (mI (wN h 11 n.toNatClampNeg) (mN h) j)) = fun _ => defaultValue (newarray.typeOf .int) := by
              funext j
              show Value.int (if h.1 = h.1 then (0 : Int32) else _) = _
              rw [if_pos rfl]; rfl
            rw [e2, e3])
          have := K H1 locs ls (cells + 1) (slots + n.toNatClampNeg) wN_c wN_s h2 h3 hl
          rw [show List.map (gV g) (Value.ref (mN h) :: r) = .ref H.size :: r.map (gV g) by rw [← hgA]; rfl] at this
          exact this
        · refine va_newaK hx hb (hts _ (arr_ok _ (by simp [newarray.typeOf]))) (atype := .long) rfl hd rfl hn0 rfl ?_ hc1 hs1 rfl fun H1 cA e1 z1 o1 hAr hNm => ?_
          · show n.toNatClampNeg * 8 ≤ _
            omega
          have hcA : cA = g.2.2.2.2 12 := Option.some.inj (hNm.symm.trans (hE.1.2 1 _ rfl).2)
          obtain ⟨h2, h3⟩ := hH.grow (q := 12) (n := n.toNatClampNeg) hba hS hz o1 z1 (by
            rw [gE_arr (mK_wN_new hH.1 (by omega)) (by omega)]
            show H1[g.2.1 + (mN h - 1)]? = some (vp_cell _ _)
            rw [← hz, e1, hcA]
            unfold gArr
            rw [if_neg (by omega), if_pos rfl, vp_cell_l]
            have e2 : mL (wN h 12 n.toNatClampNeg) (mN h) = n.toNatClampNeg := by
              show (if h.1 = h.1 then (12, n.toNatClampNeg) else _).2 = _
              rw [if_pos rfl]
            have e3 : (fun j => Value.long (mJ (wN h 12 n.toNatClampNeg) (mN h) j)) = fun _ => defaultValue (newarray.typeOf .long) := by
              funext j
              show Value.long (if h.1 = h.1 then (0 : Int64) else _) = _
              rw [if_pos rfl]; rfl
            rw [e2, e3])
          have := K H1 locs ls (cells + 1) (slots + n.toNatClampNeg) wN_c wN_s h2 h3 hl
          rw [show List.map (gV g) (Value.ref (mN h) :: r) = .ref H.size :: r.map (gV g) by rw [← hgA]; rfl] at this
          exact this
      · cases hs
    · cases hs
  · cases hs
theorem go_anewarray {i : Nat} : gGo g mi pc L st h (.anewarray i) len := by
  intro pc' L' st' h1 hd hs p l e R s m args below meth c H locs cells slots Q ls hC hH hS hl hcs hfr hlo hce hsl K
  obtain ⟨hx, hb, hml, hown, hts, hE, hba, hlk, hnm⟩ := hC
  simp only [mIns, mNx] at hs
  split at hs
  · rename_i hlen
    subst hlen
    split at hs
    · rename_i n r
      split at hs
      · rename_i ci hf
        split at hs
        · rename_i hk
          obtain ⟨hao, hn0, hn1⟩ := hk
          cases hs
          have hin := nGet_in hf
          have hc1 : cells + 1 ≤ R.cells := by rw [wN_c (h := h) (q := mAr ci) (n := n.toNatClampNeg)]; exact hce
          have hs1 : slots + n.toNatClampNeg ≤ R.slots := by rw [wN_s (h := h) (q := mAr ci)]; exact hsl
          have hq : 12 < mAr ci ∧ mAr ci < 18 ∧ gTy (mAr ci) = .object (RN ci) := by
            have := hao
            simp only [aoL, List.mem_cons, List.not_mem_nil, or_false] at this
            rcases this with q | q | q | q | q <;> subst q <;> exact ⟨by decide, by decide, rfl⟩
          refine W.size fun hz0 => ?_
          have hz := gSize hH hS hba hcs hz0
          have hgA : gAd g (mN h) = H.size := by rw [gAd_pos hH.1, hz]
          refine W.anew hx hb hown (hts _ (nL_cl hin)) (va_AO.use (hE.2.2.1 ci hao)) rfl hd rfl hn0 (by omega) hc1 hs1 fun cA kA comp f1 f2 f3 f4 => ?_
          generalize hH1 : H.push ({ cls := cA, slots := Array.replicate n.toNatClampNeg .null, vm := .none } : Cell) = H1
          have z1 : H1.size = H.size + 1 := by rw [← hH1, Array.size_push]
          have e1 : H1[H.size]? = some (arrV cA n.toNatClampNeg (fun _ => .null)) := by rw [← hH1, Array.getElem?_push_size, ← arrV_new]
          have o1 : ∀ q : Nat, q < H.size → H1[q]? = H[q]? := fun q hq => by rw [← hH1, Array.getElem?_push, if_neg (Nat.ne_of_lt hq)]
          have hcA : cA = g.2.2.2.2 (mAr ci) := by
            obtain ⟨ht, -⟩ := gT_at (g := g) hq.1 (show mAr ci < 19 by omega)
            rw [hq.2.2] at ht
            obtain ⟨k2, comp2, -, -, -, f5⟩ := (hE.1.2 _ _ ht).2
            exact Option.some.inj (f1.symm.trans f5)
          obtain ⟨h2, h3⟩ := hH.grow (q := mAr ci) (n := n.toNatClampNeg) hba hS hz o1 z1 (by
            rw [gE_arr (mK_wN_new hH.1 (by omega)) (by omega)]
            show H1[g.2.1 + (mN h - 1)]? = some (vp_cell _ _)
            rw [← hz, e1, hcA]
            unfold gArr
            rw [if_neg (by omega), if_neg (by omega), vp_cell_q]
            have e2 : mL (wN h (mAr ci) n.toNatClampNeg) (mN h) = n.toNatClampNeg := by
              show (if h.1 = h.1 then (mAr ci, n.toNatClampNeg) else _).2 = _
              rw [if_pos rfl]
            have e3 : (fun j => va_rf ((mR (wN h (mAr ci) n.toNatClampNeg) (mN h) j).map (gAd g))) = fun _ => Value.null := by
              funext j
              show va_rf ((if h.1 = h.1 then (none : Option Nat) else _).map (gAd g)) = _
              rw [if_pos rfl]; rfl
            rw [e2, e3])
          have := K H1 locs ls (cells + 1) (slots + n.toNatClampNeg) wN_c wN_s h2 h3 hl
          rw [show List.map (gV g) (Value.ref (mN h) :: r) = .ref H.size :: r.map (gV g) by rw [← hgA]; rfl] at this
          exact this
        · cases hs
      · cases hs
    · cases hs
  · cases hs
theorem go_new {i : Nat} : gGo g mi pc L st h (.new i) len := by
  intro pc' L' st' h1 hd hs p l e R s m args below meth c H locs cells slots Q ls hC hH hS hl hcs hfr hlo hce hsl K
  obtain ⟨hx, hb, hml, hown, hts, hE, hba, hlk, hnm⟩ := hC
  simp only [mIns, mNx] at hs
  split at hs
  · rename_i hlen
    subst hlen
    split at hs
    · rename_i ci hf
      cases hs
      have hin := nGet_in hf
      have h11 : ci < 11 := nL_ok1 _ hin
      have hc1 : cells + 1 ≤ R.cells := by rw [wN_c (h := h) (q := ci) (n := nfN ci)]; exact hce
      have hs1 : slots + nfN ci ≤ R.slots := by rw [wN_s (h := h) (q := ci)]; exact hsl
      refine W.size fun hz0 => ?_
      have hz := gSize hH hS hba hcs hz0
      have hgA : gAd g (mN h) = H.size := by rw [gAd_pos hH.1, hz]
      have hKn := hE.1.1 ci _ (mCl_at h11)
      refine W.newcK hx hb hown (hts _ (nL_cl hin)) (hts _ (nL_in hin)) (hts _ (nL_ini hin)) rfl hd hc1 hs1 hKn.2.1 rfl fun H1 kC hkC e1 z1 o1 => ?_
      obtain ⟨h2, h3⟩ := hH.grow (q := ci) (n := nfN ci) hba hS hz o1 z1 (by
        rw [gE_obj (mK_wN_new hH.1 (by omega)) h11]
        refine ⟨_, mCl_at h11, ?_⟩
        show t_OB (g.2.1 + (mN h - 1)) _ _ _ _ _
        rw [← hz]
        refine (u_born (tyN ci) hts (inN ci h11) hKn hkC e1 (tyN_ok ci h11)).to (fun j hj => ?_)
        rw [dfl_ok ci h11 j hj]
        unfold vp_V
        rw [List.getD_eq_getElem?_getD, gFs_at hj]
        unfold gF
        have e3 : mR (wN h ci (nfN ci)) (mN h) j = none := by
          show (if h.1 = h.1 then (none : Option Nat) else _) = _
          rw [if_pos rfl]
        have e4 : mI (wN h ci (nfN ci)) (mN h) j = 0 := by
          show (if h.1 = h.1 then (0 : Int32) else _) = _
          rw [if_pos rfl]
        rw [e3, e4]
        rfl)
      have := K H1 locs ls (cells + 1) (slots + nfN ci) wN_c wN_s h2 h3 hl
      rw [show List.map (gV g) (Value.ref (mN h) :: st) = .ref H.size :: st.map (gV g) by rw [← hgA]; rfl] at this
      exact this
    · cases hs
  · cases hs
end GOA
end
section
-- grids, and the library's calls
theorem outer_eq (c : ClassId) (N h0 : Nat) : ∀ i : Nat, Jvm.Free.Multi.outerC c N h0 i = arrV c N (fun j => va_rf (if j < i then some (h0 + 1 + j) else none))
  | 0 => by
    show ({ cls := c, slots := Array.replicate N .null, vm := .none } : Cell) = _
    rw [arrV_new]
    refine congrArg (arrV c N) (funext fun j => ?_)
    simp [va_rf]
  | i + 1 => by
    show (Jvm.Free.Multi.outerC c N h0 i).setSlot i (.ref (h0 + 1 + i)) = _
    rw [outer_eq c N h0 i, arrV_store]
    refine congrArg (arrV c N) (funext fun j => ?_)
    by_cases e : j = i
    · subst e
      simp [updV, va_rf]
    · by_cases h : j < i
      · simp [updV, e, h, Nat.lt_succ_of_lt h]
      · simp [updV, e, h, show ¬ j < i + 1 by omega]
theorem mK_wGrid {h : mM} {n k a : Nat} (hn : 1 ≤ mN h) : mK (wGrid h n k) a = if a = mN h then 18 else if mN h < a ∧ a < mN h + 1 + n then 11 else mK h a := by
  unfold mK wGrid
  unfold mN at hn ⊢
  simp only
  by_cases h0 : a = 0
  · subst h0
    rw [if_pos rfl, if_neg (by omega), if_neg (by omega), if_pos rfl]
  · rw [if_neg h0, if_neg h0]
    by_cases h1 : a = h.1
    · subst h1
      simp
      omega
    · by_cases h2 : h.1 < a ∧ a < h.1 + 1 + n
      · simp [h1, h2]
      · simp only [h1, h2, if_false]
        by_cases h3 : a < h.1
        · have : a < h.1 + 1 + n := by omega
          simp [h3, this]
        · have : ¬ a < h.1 + 1 + n := by omega
          simp [h3, this]
theorem nfw : nativeFrameWords "java/lang/System" "arraycopy" 5 = 7 := by decide +kernel
section GOL
variable {g : mG} {mi pc len : Nat} {L : mLs} {st : List Value} {h : mM}
theorem gCat {g : mG} (r : List Value) : ((r.map (gV g)).map fun v => v.category).sum = mCat r := by
  unfold mCat
  rw [List.map_map]
  congr 1
  apply List.map_congr_left
  intro v _
  exact gV_cat g v
theorem go_multianewarray {i dm : Nat} : gGo g mi pc L st h (.multianewarray i dm) len := by
  intro pc' L' st' h1 hd hs p l e R s m args below meth c H locs cells slots Q ls hC hH hS hl hcs hfr hlo hce hsl K
  obtain ⟨hx, hb, hml, hown, hts, hE, hba, hlk, hnm⟩ := hC
  simp only [mIns, mNx] at hs
  split at hs
  · rename_i hlen
    obtain ⟨rfl, rfl, hmi, rfl⟩ := hlen
    split at hs
    · rename_i k n r
      split at hs
      · rename_i hk
        obtain ⟨hn0, hn1, hk0, hk1⟩ := hk
        cases hs
        have eN : mN (wGrid h n.toNatClampNeg k.toNatClampNeg) = mN h + 1 + n.toNatClampNeg := rfl
        have eZ : mZ (wGrid h n.toNatClampNeg k.toNatClampNeg) = mZ h + n.toNatClampNeg + n.toNatClampNeg * k.toNatClampNeg := rfl
        rw [eN] at hce
        rw [eZ] at hsl
        refine W.size fun hz0 => ?_
        have hz := gSize hH hS hba hcs hz0
        have hgA : gAd g (mN h) = H.size := by rw [gAd_pos hH.1, hz]
        rw [hmi] at hown
        intro T hT X
        obtain ⟨vm₁, cA, comp, -, fA, fC, hO, -, X', step⟩ := X.multianewarray2F hx (own := RN 5) (index := 9) (ty := .int) hown (hts _ (cl2_in _ List.mem_cons_self)) hE.2.2.2 (hts _ (arr_ok _ List.mem_cons_self)) (g := F0 m pc ls (.int k :: .int n :: r.map (gV g))) rfl (by rw [hb]; exact hd) rfl hn0 hk0 (by omega) (by show k.toNatClampNeg * 4 ≤ _; omega) (by omega) rfl rfl (by omega) (by omega)
        have hTh : (T.setVm vm₁).heap = H := hT
        generalize hF : Jvm.Free.Multi.fill (T.setVm vm₁) cA comp n.toNatClampNeg k.toNatClampNeg (defaultValue .int) n.toNatClampNeg = F at X' step
        obtain ⟨f1, f2, -, -⟩ := Jvm.Free.Multi.fill_facts (T.setVm vm₁) cA comp n.toNatClampNeg k.toNatClampNeg (defaultValue .int) n.toNatClampNeg
        rw [hF, hTh] at f1 f2
        have hold : ∀ x : Nat, x < H.size → F.heap[x]? = H[x]? := fun x hx => by
          have := Jvm.Free.Multi.fill_old (T.setVm vm₁) cA comp n.toNatClampNeg k.toNatClampNeg (defaultValue .int) (a := x) (by rw [hTh]; exact hx) n.toNatClampNeg
          rw [hF, hTh] at this
          exact this
        have hrow : ∀ j : Nat, j < n.toNatClampNeg → F.heap[H.size + 1 + j]? = some (arrV comp k.toNatClampNeg (fun _ => .int 0)) := fun j hj => by
          have := Jvm.Free.Multi.fill_inner (T.setVm vm₁) cA comp n.toNatClampNeg k.toNatClampNeg (defaultValue .int) n.toNatClampNeg j hj
          rw [hF, hTh] at this
          rw [this, ← arrV_new]
          rfl
        rw [outer_eq] at f2
        have hcA : cA = g.2.2.2.2 18 := Option.some.inj (fA.symm.trans (hE.1.2 7 _ rfl).2)
        have hco : comp = g.2.2.2.2 11 := Option.some.inj (fC.symm.trans (hE.1.2 0 _ rfl).2)
        have hn := hH.1
        have hS1 : va_S (gA g) s.heap F.heap locs := ⟨by have := hS.1; omega, fun x h1 h2 => (hold x (Nat.lt_of_lt_of_le h1 hS.1)).trans (hS.2.1 x h1 h2), hS.2.2⟩
        have hP1 : va_P (gD g) mCl (gW g (wGrid h n.toNatClampNeg k.toNatClampNeg)) F.heap := by
          intro i q hq
          obtain ⟨hi, rfl⟩ := gW_get hq
          rw [eN] at hi
          rcases Nat.lt_trichotomy (i + 1) (mN h) with h2 | h2 | h2
          · have h3 : gE g (wGrid h n.toNatClampNeg k.toNatClampNeg) (i + 1) = gE g h (i + 1) := by
              unfold mN at h2
              refine gE_congr (by rw [mK_wGrid hn, if_neg (by unfold mN; omega), if_neg (by unfold mN; omega)]) ?_ ?_ ?_ ?_
              · show (if i + 1 = h.1 then _ else if h.1 < i + 1 ∧ _ then _ else h.2.2.1 (i + 1)).2 = _
                rw [if_neg (by omega), if_neg (by omega)]; rfl
              · funext j
                show (if h.1 ≤ i + 1 then _ else _) = _
                rw [if_neg (by omega)]; rfl
              · funext j
                show (if h.1 ≤ i + 1 then _ else _) = _
                rw [if_neg (by omega)]; rfl
              · funext j
                show (if i + 1 = h.1 then _ else if h.1 < i + 1 then _ else _) = _
                rw [if_neg (by omega), if_neg (by omega)]; rfl
            rw [h3]
            have h4 := gW_at (g := g) (h := h) (a := i + 1) (by omega) h2
            rw [gAd_pos (by omega)] at h4
            have h5 := hH.2.1 _ _ h4
            exact h5.kept (hold _ h5.lt)
          · have e1 : mK (wGrid h n.toNatClampNeg k.toNatClampNeg) (i + 1) = 18 := by rw [mK_wGrid hn, if_pos h2]
            rw [gE_arr e1 (by omega)]
            show F.heap[g.2.1 + i]? = some (vp_cell _ _)
            rw [show g.2.1 + i = H.size by rw [hz]; omega, f2, hcA]
            unfold gArr
            rw [if_neg (by omega), if_neg (by omega), vp_cell_q, h2]
            have e2 : mL (wGrid h n.toNatClampNeg k.toNatClampNeg) (mN h) = n.toNatClampNeg := by
              show (if h.1 = h.1 then (18, n.toNatClampNeg) else _).2 = _
              rw [if_pos rfl]
            rw [e2]
            refine congrArg some (congrArg (arrV _ _) (funext fun j => ?_))
            show _ = va_rf ((if h.1 = h.1 then (if j < n.toNatClampNeg then some (h.1 + 1 + j) else none) else _).map (gAd g))
            rw [if_pos rfl]
            by_cases hj : j < n.toNatClampNeg
            · rw [if_pos hj, if_pos hj, Option.map_some, gAd_pos (by omega), hz]
              congr 2
              unfold mN at hn ⊢
              omega
            · rw [if_neg hj, if_neg hj]
              rfl
          · have e1 : mK (wGrid h n.toNatClampNeg k.toNatClampNeg) (i + 1) = 11 := by rw [mK_wGrid hn, if_neg (by omega), if_pos (by omega)]
            rw [gE_arr e1 (by omega)]
            show F.heap[g.2.1 + i]? = some (vp_cell _ _)
            rw [show g.2.1 + i = H.size + 1 + (i - mN h) by rw [hz]; omega, hrow _ (by omega), hco]
            unfold gArr
            rw [if_pos rfl, vp_cell_i]
            have e2 : mL (wGrid h n.toNatClampNeg k.toNatClampNeg) (i + 1) = k.toNatClampNeg := by
              unfold mN at h2 hi
              show (if i + 1 = h.1 then _ else if h.1 < i + 1 ∧ i + 1 < h.1 + 1 + n.toNatClampNeg then (11, k.toNatClampNeg) else _).2 = _
              rw [if_neg (by omega), if_pos (by omega)]
            rw [e2]
            refine congrArg some (congrArg (arrV _ _) (funext fun j => ?_))
            unfold mN at h2
            show _ = Value.int (if h.1 ≤ i + 1 then 0 else _)
            rw [if_pos (by omega)]
        have hH1 : gH g (wGrid h n.toNatClampNeg k.toNatClampNeg) s F.heap := hH.put hba hS hS1 (by rw [eN]; omega) hP1 (by
          unfold mN at hn
          show (if 0 = h.1 then _ else if h.1 < 0 ∧ _ then _ else h.2.2.1 0).2 = _
          rw [if_neg (by omega), if_neg (by omega)]; rfl) (by
          funext j
          unfold mN at hn
          show (if h.1 ≤ 0 then _ else _) = _
          rw [if_neg (by omega)]; rfl)
        obtain ⟨t, a1, b1⟩ := K F.heap locs ls (cells + 1 + n.toNatClampNeg) (slots + n.toNatClampNeg + n.toNatClampNeg * k.toNatClampNeg) (by rw [eN]; omega) (by rw [eZ]; omega) hH1 hS1 hl F rfl X'
        refine ⟨t, step t ?_, b1⟩
        rw [show T.heap.size = gAd g (mN h) by rw [hT, hgA]]
        exact a1
      · cases hs
    · cases hs
  · cases hs
theorem go_invokevirtual {i : Nat} : gGo g mi pc L st h (.invokevirtual i) len := by
  intro pc' L' st' h1 hd hs p l e R s m args below meth c H locs cells slots Q ls hC hH hS hl hcs hfr hlo hce hsl K
  simp only [mIns, mCallV] at hs
  repeat' split at hs
  all_goals cases hs
theorem go_invokespecial {i : Nat} : gGo g mi pc L st h (.invokespecial i) len := by
  intro pc' L' st' h1 hd hs p l e R s m args below meth c H locs cells slots Q ls hC hH hS hl hcs hfr hlo hce hsl K
  obtain ⟨hx, hb, hml, hown, hts, hE, hba, hlk, hnm⟩ := hC
  simp only [mIns] at hs
  split at hs
  · rename_i hlen
    subst hlen
    unfold mCallI mNx at hs
    split at hs
    · rename_i kd mj hf
      split at hs
      · rename_i hkd
        subst hkd
        split at hs
        · rename_i a r
          split at hs
          · rename_i hr
            cases hs
            have hin := kGet_in hf
            have hm := mLk_ok _ hin
            refine W.objInit hx hb hown (hts _ (hm _ (by simp [mKinds]))) (hts _ (hm _ (by simp [mKinds]))) (hts _ mObj_in) rfl (hl.1.trans hml.symm) rfl hd hfr ?_ (K H locs ls cells slots (eqz rfl) (eqz rfl) hH hS hl)
            show 2 * 0 + _ + 12 ≤ _
            rw [gCat]
            omega
          · cases hs
        · cases hs
      · split at hs
        · split at hs
          · cases hs
          · cases hs
        · cases hs
    · cases hs
  · cases hs
theorem go_invokestatic {i : Nat} : gGo g mi pc L st h (.invokestatic i) len := by
  intro pc' L' st' h1 hd hs p l e R s m args below meth c H locs cells slots Q ls hC hH hS hl hcs hfr hlo hce hsl K
  obtain ⟨hx, hb, hml, hown, hts, hE, hba, hlk, hnm⟩ := hC
  simp only [mIns] at hs
  split at hs
  · rename_i hlen
    subst hlen
    unfold mCallS mNx at hs
    have hml2 : c.maxLocals = ls.size := hml.trans hl.1.symm
    have hc0 : cells ≤ R.cells := by omega
    have hs0 : slots ≤ R.slots := by omega
    split at hs
    · rename_i kd mj hf
      have hin := kGet_in hf
      have hm := mLk_ok _ hin
      split at hs
      · rename_i hkd
        subst hkd
        split at hs
        · rename_i y x r
          split at hs
          · rename_i hr
            cases hs
            exact va_mmax hx hb hml2 hown (hts _ (hm _ (by simp [mKinds]))) (hts _ (hm _ (by simp [mKinds]))) (hts _ (hm _ (by simp [mKinds]))) (hts _ mMath_max) hfr (by rw [gCat]; omega) hc0 hs0 hd (K H locs ls cells slots (eqz rfl) (eqz rfl) hH hS hl)
          · cases hs
        · cases hs
      · split at hs
        · rename_i hkd
          subst hkd
          split at hs
          · rename_i y x r
            split at hs
            · rename_i hr
              cases hs
              exact va_mmin hx hb hml2 hown (hts _ (hm _ (by simp [mKinds]))) (hts _ (hm _ (by simp [mKinds]))) (hts _ (hm _ (by simp [mKinds]))) (hts _ mMath_min) hfr (by rw [gCat]; omega) hc0 hs0 hd (K H locs ls cells slots (eqz rfl) (eqz rfl) hH hS hl)
            · cases hs
          · cases hs
        · split at hs
          · rename_i hkd
            subst hkd
            split at hs
            · rename_i x r
              split at hs
              · rename_i hr
                cases hs
                exact va_mabs hx hb hml2 hown (hts _ (hm _ (by simp [mKinds]))) (hts _ (hm _ (by simp [mKinds]))) (hts _ (hm _ (by simp [mKinds]))) (hts _ mMath_abs) hfr (by rw [gCat]; omega) hc0 hs0 hd (K H locs ls cells slots (eqz rfl) (eqz rfl) hH hS hl)
              · cases hs
            · cases hs
          · split at hs
            · rename_i hkd
              subst hkd
              split at hs
              · rename_i n dp b sp a r
                split at hs
                · rename_i hr
                  obtain ⟨hr, hka, hkb, q1, q2, q3, q4, q5⟩ := hr
                  cases hs
                  have hb0 := mK_in (h := h) (a := b) (by omega)
                  refine va_copyi hx hb hml2 hown (hts _ (hm _ (by simp [mKinds]))) (hts _ (hm _ (by simp [mKinds]))) (hts _ (hm _ (by simp [mKinds]))) (hts _ (hm _ (by simp [mKinds]))) hE.1 hH.2.1 gW_D hS (a - 1) (b - 1) 0 0 (gAt_i hka) (gAt_i hkb) rfl rfl rfl q1 q2 q3 q4 q5 (fun _ _ => rfl) hfr (by rw [gCat]; rw [nfw]; omega) hd (fun H1 locs1 hP1 hD1 hS1 => ?_)
                  rw [gW_copy hkb] at hP1
                  exact K H1 locs1 ls cells slots (eqz rfl) (eqz rfl) (hH.put hba hS hS1 hH.1 hP1 rfl (mI_wC_ne (by omega))) hS1 hl
                · cases hs
              · cases hs
            · split at hs
              · cases hs
              · cases hs
    · cases hs
  · cases hs
end GOL
end
section
-- calls, the whole run, contracts
theorem go_ret {g : mG} {mi pc len : Nat} {L : mLs} {st : List Value} {h : mM} {ins : Instr} (hno : ∀ x, mIns mi pc L st h ins len ≠ some (.inl x)) : gGo g mi pc L st h ins len := by
  intro pc' L' st' h1 hd hs
  exact absurd hs (hno _)
set_option maxHeartbeats 4000000 in
theorem go_all {g : mG} {mi pc len : Nat} {L : mLs} {st : List Value} {h : mM} (ins : Instr) : gGo g mi pc L st h ins len := by
  cases ins with
  | iconst => exact go_iconst
  | bipush => exact go_bipush
  | sipush => exact go_sipush
  | lconst => exact go_lconst
  | ldc => exact go_ldc
  | ldc_w => exact go_ldc_w
  | ldc2_w => exact go_ldc2_w
  | iload_n => exact go_iload_n
  | iload => exact go_iload
  | lload_n => exact go_lload_n
  | lload => exact go_lload
  | aload_n => exact go_aload_n
  | aload => exact go_aload
  | istore_n => exact go_istore_n
  | istore => exact go_istore
  | astore_n => exact go_astore_n
  | astore => exact go_astore
  | lstore_n => exact go_lstore_n
  | lstore => exact go_lstore
  | iinc => exact go_iinc
  | iadd => exact go_iadd
  | isub => exact go_isub
  | imul => exact go_imul
  | iand => exact go_iand
  | ior => exact go_ior
  | ixor => exact go_ixor
  | ishl => exact go_ishl
  | ishr => exact go_ishr
  | iushr => exact go_iushr
  | idiv => exact go_idiv
  | irem => exact go_irem
  | ladd => exact go_ladd
  | lsub => exact go_lsub
  | lcmp => exact go_lcmp
  | ineg => exact go_ineg
  | i2l => exact go_i2l
  | l2i => exact go_l2i
  | dup => exact go_dup
  | dup2 => exact go_dup2
  | ifCond => exact go_ifCond
  | if_icmp => exact go_if_icmp
  | goto => exact go_goto
  | tableswitch => exact go_tableswitch
  | getfield => exact go_getfield
  | putfield => exact go_putfield
  | iaload => exact go_iaload
  | laload => exact go_laload
  | aaload => exact go_aaload
  | iastore => exact go_iastore
  | lastore => exact go_lastore
  | aastore => exact go_aastore
  | arraylength => exact go_arraylength
  | newarray => exact go_newarray
  | anewarray => exact go_anewarray
  | multianewarray => exact go_multianewarray
  | new => exact go_new
  | invokevirtual => exact go_invokevirtual
  | invokespecial => exact go_invokespecial
  | invokestatic => exact go_invokestatic
  | ireturn =>
    refine go_ret fun x hs => ?_
    simp only [mIns] at hs
    repeat' split at hs
    all_goals cases hs
  | lreturn =>
    refine go_ret fun x hs => ?_
    simp only [mIns] at hs
    repeat' split at hs
    all_goals cases hs
  | return_ =>
    refine go_ret fun x hs => ?_
    simp only [mIns] at hs
    repeat' split at hs
    all_goals cases hs
  | _ => exact go_ret fun x hs => by cases hs
theorem mono_nx {pc pc' : Nat} {L L' : mLs} {st st' : List Value} {h h1 h0 : mM} (hs : mNx pc L st h = some (.inl (pc', L', st', h1))) (q : mN h0 ≤ mN h ∧ mZ h0 ≤ mZ h) : mN h0 ≤ mN h1 ∧ mZ h0 ≤ mZ h1 := by
  cases hs
  exact q
theorem mono_tg {pc pc' : Nat} {off : Int} {L L' : mLs} {st st' : List Value} {h h1 h0 : mM} (hs : mTg pc off L st h = some (.inl (pc', L', st', h1))) (q : mN h0 ≤ mN h ∧ mZ h0 ≤ mZ h) : mN h0 ≤ mN h1 ∧ mZ h0 ≤ mZ h1 := by
  unfold mTg at hs
  split at hs
  · exact mono_nx hs q
  · cases hs
theorem le_self2 {h : mM} : mN h ≤ mN h ∧ mZ h ≤ mZ h := ⟨Nat.le_refl _, Nat.le_refl _⟩
theorem le_wN {h : mM} {q n : Nat} : mN h ≤ mN (wN h q n) ∧ mZ h ≤ mZ (wN h q n) := ⟨Nat.le_succ _, Nat.le_add_right _ _⟩
theorem le_wGrid {h : mM} {n m : Nat} : mN h ≤ mN (wGrid h n m) ∧ mZ h ≤ mZ (wGrid h n m) := ⟨by show h.1 ≤ h.1 + 1 + n; omega, by show h.2.1 ≤ h.2.1 + n + n * m; omega⟩
set_option maxHeartbeats 4000000 in
theorem mIns_mono {mi pc pc' len : Nat} {L L' : mLs} {st st' : List Value} {h h1 : mM} {ins : Instr} (hs : mIns mi pc L st h ins len = some (.inl (pc', L', st', h1))) : mN h ≤ mN h1 ∧ mZ h ≤ mZ h1 := by
  cases ins <;> (first | (cases hs; done) | (simp only [mIns, mGetF, mPutF, mCallV, mCallI, mCallS] at hs; (repeat' split at hs) <;> first | (cases hs; done) | exact mono_nx hs le_self2 | exact mono_tg hs le_self2 | exact mono_nx hs le_wN | exact mono_nx hs le_wGrid))
theorem mEx_grow : ∀ (n d mi pc : Nat) (L : mLs) (st : List Value) (h : mM) (r : Option Value) (h' : mM), mEx n d mi pc L st h = some (r, h') → mN h ≤ mN h' ∧ mZ h ≤ mZ h' := by
  intro n
  induction n with
  | zero => intro d mi pc L st h r h' hr; exact absurd hr (by simp [mEx])
  | succ n ih =>
    intro d mi pc L st h r h' hr
    rw [mEx_s] at hr
    cases hs : mStep mi pc L st h with
    | none => rw [hs] at hr; cases hr
    | some x =>
      rw [hs] at hr
      rcases x with x | x | x
      · have h1 := ih _ _ _ _ _ _ _ _ hr
        unfold mStep at hs
        split at hs
        · have h2 := mIns_mono (h1 := x.2.2.2) hs
          exact ⟨Nat.le_trans h2.1 h1.1, Nat.le_trans h2.2 h1.2⟩
        · cases hs
      · cases hr
        exact le_self2
      · cases d with
        | zero => cases hr
        | succ d =>
          simp only at hr
          cases hc : mEx n d x.1 0 (mEnt x.1 x.2.1) [] h with
          | none => rw [hc] at hr; cases hr
          | some y =>
            rw [hc] at hr
            have h1 := ih _ _ _ _ _ _ _ _ hc
            have h2 := ih _ _ _ _ _ _ _ _ hr
            exact ⟨Nat.le_trans h1.1 h2.1, Nat.le_trans h1.2 h2.2⟩
def gRet (mi pc : Nat) (r : Option Value) : Prop := match r with
  | none => mrt mi = none ∧ decode (cd mi) pc = .ok (.return_, 1)
  | some (.int v) => (mrt mi = some .int ∨ (mrt mi = some .boolean ∧ mZO v = true)) ∧ decode (cd mi) pc = .ok (.ireturn, 1)
  | some (.long v) => mrt mi = some .long ∧ decode (cd mi) pc = .ok (.lreturn, 1)
  | _ => False
/-- the run from here on is one of the machine's -/
def gSnd (g : mG) (n : Nat) : Prop := ∀ (d mi pc : Nat) (L : mLs) (st : List Value) (h h' : mM) (r : Option Value), mEx n d mi pc L st h = some (r, h') →
  ∀ (p : Program) (l : Launch) (e : Env) (R : Room) (s : State) (m : MethodId) (args : Array Value) (below : List Frame) (meth : Method) (c : Code) (H : Heap) (locs : List Loc) (cells slots : Nat) (Q : State → Prop) (ls : Array Slot), gC g mi p s m meth c args → gH g h s H → va_S (gA g) s.heap H locs → gLs g (mx mi) ls L → s.heap.size + cells + 1 = g.2.1 + mN h → d + 1 ≤ R.frames → (d + 1) * 64 ≤ R.locals → cells + (mN h' - mN h) ≤ R.cells → slots + (mZ h' - mZ h) ≤ R.slots →
  (∀ (pc' : Nat) (ls' : Array Slot) (H' : Heap) (locs' : List Loc) (c1 s1 : Nat), c1 = cells + (mN h' - mN h) → s1 = slots + (mZ h' - mZ h) → gRet mi pc' r → gH g h' s H' → va_S (gA g) s.heap H' locs' → W p l e R s m args below meth c H' locs' c1 s1 Q (F0 m pc' ls' ((r.map (gV g)).toList))) →
  W p l e R s m args below meth c H locs cells slots Q (F0 m pc ls (st.map (gV g)))
def gRm (d mc ms : Nat) : Room := { frames := d + 1, cells := mc, slots := ms, locals := (d + 1) * 64 }
def gWs (k : Nat) : List Cond := Cond.code (yn k) (cd k) (mx k) (mrt k) :: lw_good
def gPc (g : mG) (as : List Value) (h : mM) : Array Value → State → Prop := va_Pc (as.map (gV g)) (fun U => gH g h U U.heap ∧ gEnv g U ∧ U.heap.size + 1 = g.2.1 + mN h)
def gQc (g : mG) (r : Option Value) (h' : mM) : Array Value → State → Outcome → State → Prop := fun _ st oc t => oc = .returned (r.map (gV g)) ∧ gH g h' t t.heap ∧ st.heap.size ≤ t.heap.size ∧ ∀ q : Nat, q < g.2.1 → t.heap[q]? = st.heap[q]?
theorem gWs_in {k : Nat} (hk : k < 122) : ∀ w ∈ gWs k, w ∈ lw_good := by
  intro w hw
  rcases List.mem_cons.mp hw with h | h
  · subst h
    exact mCode_in k hk
  · exact h
theorem gGood {ws : List Cond} (h : ∀ w ∈ ws, w ∈ lw_good) : GoodIn lw_good ws := fun w hw => ⟨h w hw, good_of_word (lw_good_g (h w hw))⟩
theorem lg_len (vs : List Value) : (lg_sl vs).length = (vs.map fun v => v.category).sum := by
  induction vs with
  | nil => rfl
  | cons v vs ih =>
    have e : lg_sl (v :: vs) = (if v.category = 2 then [.val v, .second] else [.val v]) ++ lg_sl vs := rfl
    rw [e, List.length_append, ih]
    have := lv_cat v
    simp only [List.map_cons, List.sum_cons]
    split
    · rename_i h
      rw [h]
      rfl
    · rename_i h
      have : v.category = 1 := by omega
      rw [this]
      rfl
theorem mSl_args {g : mG} : ∀ (as : List Value) (i j : Nat) (v : Value), (mSl as).getD j none = some v → (i + j, gV g v) ∈ lv_args i (as.map (gV g))
  | [], i, j, v, h => by cases j <;> cases h
  | a :: as, i, j, v, h => by
    have e : mSl (a :: as) = (if a.category = 2 then [some a, none] else [some a]) ++ mSl as := rfl
    rw [e] at h
    show _ ∈ (i, gV g a) :: lv_args (if (gV g a).category = 2 then i + 2 else i + 1) (as.map (gV g))
    rw [gV_cat]
    by_cases hc : a.category = 2
    · rw [if_pos hc] at h ⊢
      match j, h with
      | 0, h => cases h; exact List.mem_cons_self
      | 1, h => cases h
      | j + 2, h =>
        refine List.mem_cons_of_mem _ ?_
        have := mSl_args (g := g) as (i + 2) j v h
        rw [show i + (j + 2) = i + 2 + j by omega]
        exact this
    · rw [if_neg hc] at h ⊢
      match j, h with
      | 0, h => cases h; exact List.mem_cons_self
      | j + 1, h =>
        refine List.mem_cons_of_mem _ ?_
        have := mSl_args (g := g) as (i + 1) j v h
        rw [show i + (j + 1) = i + 1 + j by omega]
        exact this
theorem getD_app {l : mLs} {n j : Nat} {v : Value} (h : (l ++ List.replicate n none).getD j none = some v) : l.getD j none = some v := by
  rw [List.getD_eq_getElem?_getD] at h ⊢
  by_cases hj : j < l.length
  · rw [List.getElem?_append_left hj] at h
    exact h
  · rw [List.getElem?_append_right (by omega), List.getElem?_replicate] at h
    split at h <;> cases h
theorem gLs_ent {g : mG} {k : Nat} {as : List Value} (hf : (as.map fun v => v.category).sum ≤ mx k) : gLs g (mx k) ((lg_sl (as.map (gV g)) ++ List.replicate (mx k - (lg_sl (as.map (gV g))).length) Slot.unset).toArray) (mEnt k as) := by
  have h1 : (lg_sl (as.map (gV g))).length ≤ mx k := by
    rw [lg_len]
    have := gCat (g := g) as
    unfold mCat at this
    rw [this]
    exact hf
  refine gLs_sub (lv_entry (as.map (gV g)) h1) fun q hq => ?_
  obtain ⟨v, h2, h3⟩ := gLv_mem.mp hq
  have h4 := mSl_args (g := g) as 0 q.1 v (getD_app h2)
  rw [Nat.zero_add, ← h3] at h4
  exact h4
/-- a contract out of a run -/
theorem gMet {g : mG} {n d k : Nat} {as : List Value} {h h' : mM} {r : Option Value} {l : Launch} (hk : k < 122) (hP : gSnd g n) (hf : (as.map fun v => v.category).sum ≤ mx k) (hr : mEx n d k 0 (mEnt k as) [] h = some (r, h')) :
    Met l (yn k) (gWs k) (gRm d (mN h' - mN h) (mZ h' - mZ h)) (gPc g as h) (gQc g r h') (mN h' - mN h) (mZ h' - mZ h) (gA g) := by
  have hy := yn_ok k hk
  refine Met.ofW (cc := cd k) (maxL := mx k) (ret := mrt k) hy.1 rfl ?_
  intro p e s m args below meth c s₁ B hml hv
  obtain ⟨rfl, hH, hE, hsz⟩ := hv
  have hts := atoms_spec (ws := gWs k) B.pre
  have hown : s.vm.findClass (RN (ow k)) = some m.cls := by rw [← hy.2.2.2.2.2]; exact findClass_of_methodNamed B.named
  have hnm : meth.name = (yn k).name := (name_of_methodNamed B.named B.method).1
  rw [lg_entry_eq]
  have hba : g.2.1 ≤ s.heap.size := by have := hH.1; omega
  refine hP d k 0 (mEnt k as) [] h h' r hr p l e _ s m _ below meth c s.heap [] 0 0 _ _ ⟨B.exec, B.bytes, hml, hown, fun w hw => hts w (List.mem_cons_of_mem _ hw), hE, hba, B.notSynchronized, fun z => hnm.trans z⟩ hH va_S.rf (gLs_ent hf) (by omega) (Nat.le_refl _) (Nat.le_refl _) (by show 0 + _ ≤ mN h' - mN h; omega) (by show 0 + _ ≤ mZ h' - mZ h; omega) ?_
  intro pc' ls' H' locs' c1 s1 hc1 hs1 hret hH' hS'
  have hc1 : c1 = mN h' - mN h := by omega
  have hs1 : s1 = mZ h' - mZ h := by omega
  subst hc1
  subst hs1
  have hq : ∀ t : State, t.heap = H' → s.WarmedH t.vm → gQc g r h' (as.map (gV g)).toArray s (.returned (r.map (gV g))) t := fun t ht hW => ⟨rfl, by rw [ht]; exact hH'.move hW.alike, by rw [ht]; exact hS'.1, fun q hq => by rw [ht]; exact hS'.2.1 q (by omega) (fun z => by unfold gA at z; omega)⟩
  have hlk := B.notSynchronized
  match r, hret, hq with
  | none, hret, hq => exact W.vret B.exec B.bytes (B.returns.trans hret.1) hq hS'.2.2 hret.2
  | some (.int v), hret, hq =>
    rcases hret.1 with h2 | ⟨h2, hz⟩
    · exact W.iret B.exec B.bytes (B.returns.trans h2) hq hS'.2.2 hret.2
    · refine W.zret B.exec B.bytes (B.returns.trans h2) ?_ hq hS'.2.2 hret.2
      unfold mZO at hz
      simp only [Bool.or_eq_true, beq_iff_eq] at hz
      rcases hz with rfl | rfl <;> decide
  | some (.long v), hret, hq => exact W.lret B.exec B.bytes (B.returns.trans hret.1) hq hS'.2.2 hret.2
theorem gPc_blind {g : mG} {as : List Value} {h : mM} : FrameBlind (gPc g as h) := fun a U f mk q => ⟨q.1, q.2.1.move (u := U) (U := U.calling f mk a) (Vm.Alike.refl U.vm), q.2.2.1.same rfl, q.2.2.2⟩
theorem gPc_at {g : mG} {as : List Value} {h : mM} {s U : State} {H : Heap} (hH : gH g h s H) (hE : gEnv g s) (hz : H.size + 1 = g.2.1 + mN h) (hU : U.heap = H) (hW : s.WarmedH U.vm) : gPc g as h (as.map (gV g)).toArray U := ⟨rfl, by rw [hU]; exact hH.move hW.alike, hE.warm hW, by rw [hU]; exact hz⟩
theorem gCallW {p : Program} {l : Launch} {e : Env} {R : Room} {s : State} {m : MethodId} {args : Array Value} {below : List Frame} {meth : Method} {c : Code} {H : Heap} {locs : List Loc} {cells slots mc ms pc : Nat} {Q : State → Prop} {g : mG} {h1 : mM} {r : Option Value} {ls : Array Slot} {st0 rest : List Value} {a : Array Value}
    (hr : va_Run p l e R s m args below meth c H locs cells slots mc ms (F0 m pc ls st0) rest (gQc g r h1 a) (gA g)) (hS : va_S (gA g) s.heap H locs) (hba : g.2.1 ≤ s.heap.size)
    (kk : ∀ (H1 : Heap) (locs1 : List Loc), gH g h1 s H1 → va_S (gA g) s.heap H1 locs1 → W p l e R s m args below meth c H1 locs1 (cells + mc) (slots + ms) Q (F0 m (pc + 3) ls ((r.map (gV g)).toList ++ rest))) : W p l e R s m args below meth c H locs cells slots Q (F0 m pc ls st0) := by
  intro T hT X
  obtain ⟨v, st₀, t, T', L, h0, X', hL, e1, e2, ⟨hv, hH, hz, hk⟩, st⟩ := hr T hT X
  have hv : v = r.map (gV g) := by injection hv
  subst hv
  rw [h0] at hz hk
  have hS1 : va_S (gA g) s.heap T'.heap (locs ++ L) := ⟨by rw [e1]; exact Nat.le_trans hS.1 hz, fun q h1 h2 => by
      rw [e1, hk q (by unfold gA at h2; omega)]
      exact hS.2.1 q h1 h2, fun q hq => by
      rcases List.mem_append.mp hq with h | h
      · exact hS.2.2 q h
      · exact hL q h⟩
  have hA : s.vm.Alike t.vm := by rw [← e2]; exact X'.warmed.alike
  obtain ⟨t2, a1, b1⟩ := kk T'.heap (locs ++ L) (by rw [e1]; exact hH.move hA.symm) hS1 T' rfl X'
  exact ⟨t2, st t2 a1, b1⟩
theorem map_rev {g : mG} {st : List Value} {n a : Nat} {r : List Value} (hd : st.drop n = .ref a :: r) : st.map (gV g) = (((st.take n).reverse).map (gV g)).reverse ++ .ref (gAd g a) :: r.map (gV g) := by
  have h := List.take_append_drop n st
  rw [hd] at h
  conv => lhs; rw [← h]
  rw [List.map_append, List.map_reverse, List.reverse_reverse]
  rfl
theorem map_revS {g : mG} {st : List Value} {n : Nat} : st.map (gV g) = (((st.take n).reverse).map (gV g)).reverse ++ (st.drop n).map (gV g) := by
  have h := List.take_append_drop n st
  conv => lhs; rw [← h]
  rw [List.map_append, List.map_reverse, List.reverse_reverse]
end
section
-- the run of the small machine is a run of the machine
theorem mStep_ok {mi pc : Nat} {L : mLs} {st : List Value} {h : mM} {x : mX} (hs : mStep mi pc L st h = some x) : ∃ ins len, decode (cd mi) pc = .ok (ins, len) ∧ mIns mi pc L st h ins len = some x := by
  unfold mStep at hs
  split at hs
  · rename_i ins len hd
    exact ⟨ins, len, hd, hs⟩
  · cases hs
theorem ret_ok {mi pc len : Nat} {L : mLs} {st : List Value} {h : mM} {ins : Instr} {r : Option Value} (hd : decode (cd mi) pc = .ok (ins, len)) (hs : mIns mi pc L st h ins len = some (.inr (.inl r))) : gRet mi pc r ∧ st = r.toList := by
  cases ins with
  | ireturn =>
    simp only [mIns] at hs
    split at hs
    · rename_i hlen
      subst hlen
      split at hs
      · split at hs
        · rename_i hq
          cases hs
          exact ⟨⟨hq, hd⟩, rfl⟩
        · cases hs
      · cases hs
    · cases hs
  | lreturn =>
    simp only [mIns] at hs
    split at hs
    · rename_i hlen
      subst hlen
      split at hs
      · split at hs
        · rename_i hq
          cases hs
          exact ⟨⟨hq, hd⟩, rfl⟩
        · cases hs
      · cases hs
    · cases hs
  | return_ =>
    simp only [mIns] at hs
    split at hs
    · rename_i hlen
      subst hlen
      split at hs
      · split at hs
        · rename_i hq
          cases hs
          exact ⟨⟨hq, hd⟩, rfl⟩
        · cases hs
      · cases hs
    · cases hs
  | _ =>
    exfalso
    first
    | (cases hs; done)
    | (simp only [mIns, mNx, mTg, mGetF, mPutF, mCallV, mCallI, mCallS] at hs
       (repeat' split at hs) <;> (cases hs; done))
section SOUND
variable {g : mG} {mi pc d n : Nat} {L : mLs} {st as rest : List Value} {h h1 : mM} {r1 : Option Value} {mj : Nat}
theorem gCallGo {p : Program} {l : Launch} {e : Env} {R : Room} {s : State} {m : MethodId} {args : Array Value} {below : List Frame} {meth : Method} {c : Code} {H : Heap} {locs : List Loc} {cells slots : Nat} {Q : State → Prop} {ls : Array Slot} {ins : Instr} {len : Nat}
    (hd : decode (cd mi) pc = .ok (ins, len)) (hs : mIns mi pc L st h ins len = some (.inr (.inr (mj, as, rest)))) (hP : gSnd g n) (hr : mEx n d mj 0 (mEnt mj as) [] h = some (r1, h1))
    (hC : gC g mi p s m meth c args) (hH : gH g h s H) (hS : va_S (gA g) s.heap H locs) (hl : gLs g (mx mi) ls L) (hcs : s.heap.size + cells + 1 = g.2.1 + mN h) (hfr : d + 2 ≤ R.frames) (hlo : (d + 2) * 64 ≤ R.locals) (hce : cells + (mN h1 - mN h) ≤ R.cells) (hsl : slots + (mZ h1 - mZ h) ≤ R.slots)
    (K : ∀ (H1 : Heap) (locs1 : List Loc), gH g h1 s H1 → va_S (gA g) s.heap H1 locs1 → W p l e R s m args below meth c H1 locs1 (cells + (mN h1 - mN h)) (slots + (mZ h1 - mZ h)) Q (F0 m (pc + 3) ls ((r1.toList ++ rest).map (gV g)))) :
    W p l e R s m args below meth c H locs cells slots Q (F0 m pc ls (st.map (gV g))) := by
  obtain ⟨hx, hb, hml, hown, hts, hE, hba, hlk, hnm⟩ := hC
  have hK2 : ∀ (H1 : Heap) (locs1 : List Loc), gH g h1 s H1 → va_S (gA g) s.heap H1 locs1 → W p l e R s m args below meth c H1 locs1 (cells + (mN h1 - mN h)) (slots + (mZ h1 - mZ h)) Q (F0 m (pc + 3) ls ((r1.map (gV g)).toList ++ rest.map (gV g))) := fun H1 locs1 a1 a2 => by
    have h3 := K H1 locs1 a1 a2
    rw [List.map_append] at h3
    have e1 : r1.toList.map (gV g) = (r1.map (gV g)).toList := by cases r1 <;> rfl
    rw [e1] at h3
    exact h3
  refine W.size fun hz0 => ?_
  have hz := gSize hH hS hba hcs hz0
  have hz1 : H.size + 1 = g.2.1 + mN h := by have := hH.1; omega
  have hR : ∀ k, k < 122 → (gRm d (mN h1 - mN h) (mZ h1 - mZ h)).frames + 1 ≤ R.frames ∧ 8 + (mx k + 11) + (gRm d (mN h1 - mN h) (mZ h1 - mZ h)).locals ≤ R.locals := fun k hk => by
    have := (yn_ok k hk).2.2.2.2.1
    refine ⟨?_, ?_⟩
    · show d + 1 + 1 ≤ _
      omega
    · show 8 + (mx k + 11) + (d + 1) * 64 ≤ _
      omega
  cases ins with
  | invokevirtual i =>
    simp only [mIns] at hs
    split at hs
    · rename_i hlen
      subst hlen
      unfold mCallV at hs
      split at hs
      · rename_i kd mk hf
        split at hs
        · rename_i a r hdr
          split at hs
          · rename_i hq
            obtain ⟨rfl, hka, hnl, hcr, hfit⟩ := hq
            cases hs
            have hin := kGet_in hf
            have hm := mLk_ok _ hin
            have hk := (mLk_name _ hin (Nat.zero_le _)).1
            have hy := yn_ok mj hk
            have hMt := gMet (l := l) hk hP hfit hr
            rw [map_rev hdr]
            refine gCallW (va_runV (As := ((st.take (na mj)).reverse).map (gV g)) (rest := rest.map (gV g)) (C := RN (ow mj)) ⟨hx, hb, hml, hown, hts⟩ hMt (cwV (na mj) hts (gGood fun w hw => ?_) rfl rfl rfl ⟨hy.2.2.2.2.2, hy.2.1, hy.2.2.1, hy.2.2.2.1⟩ (hR mj hk)) ⟨gPc_blind, va_recv hE.1 hH.2.1 (mCl_at (ci := ow mj) ?_) (gAt_obj hka ?_), fun U hU hW => gPc_at hH hE hz1 hU hW⟩ rfl ?_ hl.1 rfl (lv_room (by rw [gCat]; exact hcr)) hd ⟨hce, hsl⟩) hS hba hK2
            · rcases List.mem_append.mp hw with h2 | h2
              · refine hm w ?_
                simp only [List.mem_cons, List.not_mem_nil, or_false] at h2
                simp only [mKinds, if_pos, List.mem_cons, List.not_mem_nil, or_false]
                exact h2
              · exact gWs_in hk w h2
            · have := mLk_own _ hin rfl; exact this
            · have := mLk_own _ hin rfl; exact this
            · rw [List.length_map, List.length_reverse, List.length_take]
              omega
          · cases hs
        · cases hs
      · cases hs
    · cases hs
  | invokespecial i =>
    simp only [mIns] at hs
    split at hs
    · rename_i hlen
      subst hlen
      unfold mCallI mNx at hs
      split at hs
      · rename_i kd mk hf
        split at hs
        · split at hs
          · split at hs
            · cases hs
            · cases hs
          · cases hs
        · split at hs
          · rename_i a r hdr
            split at hs
            · rename_i hq
              obtain ⟨hkd, hnl, hcr, hfit⟩ := hq
              cases hs
              have hin := kGet_in hf
              have hm := mLk_ok _ hin
              have hk := (mLk_name _ hin (by simp only; omega)).1
              have hini := (mLk_name _ hin (by simp only; omega)).2 hkd
              have hy := yn_ok mj hk
              have hMt := gMet (l := l) hk hP hfit hr
              rw [map_rev hdr]
              have hlen : (((st.take (na mj)).reverse).map (gV g)).length = na mj := by
                rw [List.length_map, List.length_reverse, List.length_take]
                omega
              rcases hkd with rfl | rfl
              · refine gCallW (va_runI (bytes := cd mj) (maxL := mx mj) (As := ((st.take (na mj)).reverse).map (gV g)) (rest := rest.map (gV g)) ⟨hx, hb, hml, hown, hts⟩ hMt ?_ ⟨gPc_blind, fun U hU hW => gPc_at hH hE hz1 hU hW⟩ rfl hlen hl.1 rfl (lv_room (by rw [gCat]; exact hcr)) hd ⟨hce, hsl⟩) hS hba hK2
                refine cwI (bytes := cd mj) (maxL := mx mj) (na mj) hts (gGood (gWs_in hk)) (by unfold gWs; rw [hini.2]) rfl rfl (hts _ (hm _ (by rw [hy.2.2.2.2.2]; simp [mKinds]))) (hts _ (hm _ (by simp [mKinds]))) (hts _ (hm _ (by simp [mKinds]))) hini.1 ⟨hy.2.1, hy.2.2.1, hy.2.2.2.1⟩ (hR mj hk)
              · refine gCallW (va_runIN (As := ((st.take (na mj)).reverse).map (gV g)) (rest := rest.map (gV g)) (host := "TideMill") ⟨hx, hb, hml, hown, hts⟩ hMt ⟨va_cnB (bytes := cd mj) (maxL := mx mj) (na mj) hts (gGood (gWs_in hk)) (by unfold gWs; rw [hini.2]) rfl rfl (hE.2.1 _ (mLk_nest _ hin (Or.inr rfl))) (hts _ (hm _ (by rw [hy.2.2.2.2.2]; simp [mKinds]))) ⟨hy.2.1, hy.2.2.1, hy.2.2.2.1⟩ (hR mj hk), hini.1, hts _ (hm _ (by simp [mKinds]))⟩ ⟨gPc_blind, fun U hU hW => gPc_at hH hE hz1 hU hW⟩ rfl hlen hl.1 rfl (lv_room (by rw [gCat]; exact hcr)) hd ⟨hce, hsl⟩) hS hba hK2
            · cases hs
          · cases hs
      · cases hs
    · cases hs
  | invokestatic i =>
    simp only [mIns] at hs
    split at hs
    · rename_i hlen
      subst hlen
      unfold mCallS mNx at hs
      split at hs
      · rename_i kd mk hf
        split at hs
        · (repeat' split at hs) <;> cases hs
        · split at hs
          · (repeat' split at hs) <;> cases hs
          · split at hs
            · (repeat' split at hs) <;> cases hs
            · split at hs
              · (repeat' split at hs) <;> cases hs
              · split at hs
                · rename_i hq
                  obtain ⟨hkd, hnl, hcr, hfit⟩ := hq
                  cases hs
                  have hin := kGet_in hf
                  have hm := mLk_ok _ hin
                  have hk := (mLk_name _ hin (by simp only; omega)).1
                  have hy := yn_ok mj hk
                  have hMt := gMet (l := l) hk hP hfit hr
                  rw [map_revS (g := g) (st := st) (n := na mj)]
                  have hlen : (((st.take (na mj)).reverse).map (gV g)).length = na mj := by
                    rw [List.length_map, List.length_reverse, List.length_take]
                    omega
                  rcases hkd with rfl | rfl
                  · refine gCallW (va_runS (As := ((st.take (na mj)).reverse).map (gV g)) (rest := (st.drop (na mj)).map (gV g)) ⟨hx, hb, hml, hown, hts⟩ hMt (va_cwS (na mj) hts (gGood fun w hw => ?_) rfl rfl rfl ⟨hy.2.1, hy.2.2.1, hy.2.2.2.1⟩ (hR mj hk)) ⟨gPc_blind, fun U hU hW => gPc_at hH hE hz1 hU hW⟩ rfl hlen hl.1 rfl (lv_room (by rw [gCat]; exact hcr)) hd ⟨hce, hsl⟩) hS hba hK2
                    rcases List.mem_append.mp hw with h2 | h2
                    · refine hm w ?_
                      simp only [List.mem_cons, List.not_mem_nil, or_false, hy.2.2.2.2.2] at h2
                      simp [mKinds]
                      exact h2
                    · exact gWs_in hk w h2
                  · exact gCallW (va_runSN (As := ((st.take (na mj)).reverse).map (gV g)) (rest := (st.drop (na mj)).map (gV g)) (host := "TideMill") ⟨hx, hb, hml, hown, hts⟩ hMt ⟨va_cnB (na mj) hts (gGood (gWs_in hk)) rfl rfl rfl (hE.2.1 _ (mLk_nest _ hin (Or.inl rfl))) (hts _ (hm _ (by rw [hy.2.2.2.2.2]; simp [mKinds]))) ⟨hy.2.1, hy.2.2.1, hy.2.2.2.1⟩ (hR mj hk), hts _ (hm _ (by simp [mKinds])), trivial⟩ ⟨gPc_blind, fun U hU hW => gPc_at hH hE hz1 hU hW⟩ rfl hlen hl.1 rfl (lv_room (by rw [gCat]; exact hcr)) hd ⟨hce, hsl⟩) hS hba hK2
                · cases hs
      · cases hs
    · cases hs
  | _ =>
    exfalso
    first
    | (cases hs; done)
    | (simp only [mIns, mNx, mTg, mGetF, mPutF] at hs
       (repeat' split at hs) <;> (cases hs; done))
end SOUND
theorem gSnd_all (g : mG) : ∀ n, gSnd g n := by
  intro n
  induction n with
  | zero =>
    intro d mi pc L st h h' r hr
    exact absurd hr (by simp [mEx])
  | succ n ih =>
    intro d mi pc L st h h' r hr p l e R s m args below meth c H locs cells slots Q ls hC hH hS hl hcs hfr hlo hce hsl K
    rw [mEx_s] at hr
    cases hs : mStep mi pc L st h with
    | none => rw [hs] at hr; cases hr
    | some x =>
      rw [hs] at hr
      obtain ⟨ins, len, hd, hi⟩ := mStep_ok hs
      rcases x with x | x | x
      · obtain ⟨pc', L', st', h1⟩ := x
        have g1 := mIns_mono hi
        have g2 := mEx_grow _ _ _ _ _ _ _ _ _ hr
        simp only at g2
        refine go_all ins pc' L' st' h1 hd hi p l e R s m args below meth c H locs cells slots Q ls hC hH hS hl hcs (by omega) (by omega) (by omega) (by omega) ?_
        intro H1 locs1 ls1 c1 s1 e1 e2 hH1 hS1 hl1
        refine ih d mi pc' L' st' h1 h' r hr p l e R s m args below meth c H1 locs1 c1 s1 Q ls1 hC hH1 hS1 hl1 (by omega) hfr hlo (by omega) (by omega) ?_
        intro pc2 ls2 H2 locs2 c2 s2 e3 e4 hret hH2 hS2
        exact K pc2 ls2 H2 locs2 c2 s2 (by omega) (by omega) hret hH2 hS2
      · cases hr
        obtain ⟨hret, hst⟩ := ret_ok hd hi
        rw [hst]
        have := K pc ls H locs cells slots (eqz rfl) (eqz rfl) hret hH hS
        have e1 : r.toList.map (gV g) = (r.map (gV g)).toList := by cases r <;> rfl
        rw [e1]
        exact this
      · obtain ⟨mj, as, rest⟩ := x
        cases d with
        | zero => cases hr
        | succ d =>
          simp only at hr
          cases hc : mEx n d mj 0 (mEnt mj as) [] h with
          | none => rw [hc] at hr; cases hr
          | some y =>
            rw [hc] at hr
            obtain ⟨r1, h1⟩ := y
            have g1 := mEx_grow _ _ _ _ _ _ _ _ _ hc
            have g2 := mEx_grow _ _ _ _ _ _ _ _ _ hr
            simp only at g2
            refine gCallGo hd hi ih hc hC hH hS hl hcs (by omega) (by omega) (by omega) (by omega) ?_
            intro H1 locs1 hH1 hS1
            refine ih (d + 1) mi (pc + 3) L (r1.toList ++ rest) h1 h' r hr p l e R s m args below meth c H1 locs1 _ _ Q ls hC hH1 hS1 hl (by omega) hfr hlo (by omega) (by omega) ?_
            intro pc2 ls2 H2 locs2 c2 s2 e3 e4 hret hH2 hS2
            exact K pc2 ls2 H2 locs2 c2 s2 (by omega) (by omega) hret hH2 hS2
end
section
-- the law's start, out of an equation of the small machine
theorem inst_ok : ∀ k, k < 11 → ∃ q ∈ nL, q.2.2 = k := by decide +kernel
theorem known_all {s : State} {args : Array Value} (hts : ∀ w ∈ lw_good, w.before args s = true) : ∃ (dC : Nat → ClassId) (dI : Nat → Nat → Nat), ∀ (c : Nat) (q : vw_C), mCl[c]? = some q → u_Kn s q.1 q.2.1 q.2.2 (dC c) (dI c) := by
  have h1 : ∀ k, ∃ x : ClassId × (Nat → Nat), k < 11 → u_Kn s (RN k) (TN k) (nfN k) x.1 x.2 := by
    intro k
    by_cases hk : k < 11
    · obtain ⟨q, hq, e⟩ := inst_ok k hk
      subst e
      obtain ⟨cC, iS, h⟩ := u_known (C := RN q.2.2) (T := TN q.2.2) (N := nfN q.2.2) (n := nfN q.2.2) hts (inN _ hk) (hts _ (nL_in (a := q.1) (b := q.2.1) hq))
      exact ⟨(cC, iS), fun _ => h⟩
    · exact ⟨(0, fun _ => 0), fun h => absurd h hk⟩
  refine ⟨fun k => (Classical.choose (h1 k)).1, fun k => (Classical.choose (h1 k)).2, fun c q hq => ?_⟩
  have hc : c < 11 := by
    have := (List.getElem?_eq_some_iff.mp hq).1
    simpa [mCl] using this
  rw [mCl_at hc] at hq
  cases hq
  exact Classical.choose_spec (h1 c) hc
theorem arr_p {s : State} {args : Array Value} {ty : FieldType} (h : (Cond.arrayClass ty).before args s = true) (hp : ∀ C, ty ≠ .object C) : ∃ cA, ArrOfT s cA ty ∧ va_RA s cA ty := by
  obtain ⟨c, k, comp, h1, h2, h3⟩ := Cond.arrayClass_spec h
  refine ⟨c, fun N z => ⟨(fun k h => by cases h), k, h2, comp, h3⟩, ?_⟩
  cases ty with
  | object C => exact absurd rfl (hp C)
  | _ => exact h1
theorem arr_o {s : State} {args : Array Value} {C : String} (h : (Cond.arrayOver (.object C)).before args s = true) : ∃ cA, ArrOfT s cA (.object C) ∧ va_RA s cA (.object C) := by
  obtain ⟨comp, c, k, h1, -, h3, h4, h5⟩ := Cond.arrayOver_spec h
  exact ⟨c, fun N z => ⟨(fun k h => by cases h), k, h3, comp, h4⟩, k, comp, h3, h4, h1, h5⟩
theorem arr_a {s : State} {args : Array Value} (h : (Cond.arrayOver (.array .int)).before args s = true) : ∃ cA, ArrOfT s cA (.array .int) ∧ va_RA s cA (.array .int) := by
  obtain ⟨comp, c, k, h1, -, h3, h4, h5⟩ := arrayOver_specB h
  exact ⟨c, fun N z => ⟨(fun k h => by cases h), k, h3, comp, h4⟩, h5⟩
theorem kinds_all {s : State} {args : Array Value} (hts : ∀ w ∈ lw_tbl, w.before args s = true) (hg : ∀ w ∈ lw_good, w.before args s = true) (b base : Nat) (dC : Nat → ClassId) (dI : Nat → Nat → Nat) : ∃ kA : Nat → ClassId, ∀ (k : Nat) (q : ClassId × FieldType), (gT (b, base, dC, dI, kA))[k]? = some q → ArrOfT s q.1 q.2 ∧ va_RA s q.1 q.2 := by
  obtain ⟨a0, h0⟩ := arr_p (hg _ (arr_ok (.arrayClass .int) (by simp))) (fun C h => by cases h)
  obtain ⟨a1, h1⟩ := arr_p (hg _ (arr_ok (.arrayClass .long) (by simp))) (fun C h => by cases h)
  obtain ⟨a2, h2⟩ := arr_o (hts _ (aoL_in 3 (by decide)))
  obtain ⟨a3, h3⟩ := arr_o (hts _ (aoL_in 0 (by decide)))
  obtain ⟨a4, h4⟩ := arr_o (hts _ (aoL_in 2 (by decide)))
  obtain ⟨a5, h5⟩ := arr_o (hts _ (aoL_in 6 (by decide)))
  obtain ⟨a6, h6⟩ := arr_o (hts _ (aoL_in 4 (by decide)))
  obtain ⟨a7, h7⟩ := arr_a (hts _ (ao2_in _ List.mem_cons_self))
  refine ⟨fun q => if q = 11 then a0 else if q = 12 then a1 else if q = 13 then a2 else if q = 14 then a3 else if q = 15 then a4 else if q = 16 then a5 else if q = 17 then a6 else a7, fun k q hq => ?_⟩
  match k, hq with
  | 0, hq => cases hq; exact h0
  | 1, hq => cases hq; exact h1
  | 2, hq => cases hq; exact h2
  | 3, hq => cases hq; exact h3
  | 4, hq => cases hq; exact h4
  | 5, hq => cases hq; exact h5
  | 6, hq => cases hq; exact h6
  | 7, hq => cases hq; exact h7
  | k + 8, hq => cases hq
/-- the small machine's memory as the law begins: the script alone -/
def m0 (L : Nat) (xs : Nat → Int32) : mM := (1, 0, fun _ => (19, L), fun _ k => xs k, fun _ _ => 0, fun _ _ => none)
theorem start_of {p : Program} {e : Env} {s : State} {m : MethodId} {below : List Frame} {meth : Method} {c : Code} (l : Launch) {b L : Nat} {xs : Nat → Int32} (C0 : p.tables.exec = Jvm.exec ∧ c.code = code ∧ meth.sig.returnType = ret ∧ c.maxLocals = 4 ∧ s.vm.findClass RL = some m.cls ∧ (∀ w ∈ lw_tbl, w.before #[Value.ref b] s = true) ∧ va_X b L xs s s.heap ∧ b < s.heap.size ∧ meth.locks = false) {h' : mM} (hev : ev 40 122 0 [some (.ref 0), none, none, none] [] (m0 L xs) = some (some (.int 1), h')) {R : Room} (hR : 41 ≤ R.frames ∧ 2624 ≤ R.locals ∧ mN h' - 1 ≤ R.cells ∧ mZ h' ≤ R.slots) {Q : State → Prop}
    (K : ∀ (pc' : Nat) (ls' : Array Slot) (H' : Heap) (locs' : List Loc), decode code pc' = .ok (.ireturn, 1) → (∀ q ∈ locs', s.heap.size ≤ q.base) → W p l e R s m #[Value.ref b] below meth c H' locs' (mN h' - 1) (mZ h') Q (F0 m pc' ls' [.int 1])) : W p l e R s m #[Value.ref b] below meth c s.heap [] 0 0 Q (entryFrame m ([Value.ref b] : List Value).toArray 4) := by
  obtain ⟨hx, hb, hr, hml, hown, hts, hX, hbl, hlocks⟩ := C0
  have hg : ∀ w ∈ lw_good, w.before #[Value.ref b] s = true := fun w hw => hts w (lw_good_in hw)
  obtain ⟨dC, dI, hKc⟩ := known_all hg
  obtain ⟨kA, hKt⟩ := kinds_all hts hg b s.heap.size dC dI
  obtain ⟨n, hn⟩ := ev_iff.mp hev
  have hE : gEnv (b, s.heap.size, dC, dI, kA) s := by
    refine ⟨⟨hKc, hKt⟩, fun w hw => ?_, fun k hk => va_AO.of (hts _ (aoL_in k hk)), ?_⟩
    · obtain ⟨a, i, x, h, rfl⟩ := nestL_form w hw
      exact va_Nw.of rfl (hts _ (nestL_in _ hw))
    · exact arrayOver_alikeB (Vm.Alike.refl _) (hts _ (ao2_in _ List.mem_cons_self))
  have hH : gH (b, s.heap.size, dC, dI, kA) (m0 L xs) s s.heap := ⟨Nat.le_refl 1, (fun k q h => by cases h), hX, hbl⟩
  rw [lg_entry_eq]
  have hl := lv_entry ([.ref b]) (n := 4) (Nat.le_of_ble_eq_true rfl)
  generalize (lg_sl ([.ref b]) ++ List.replicate (4 - (lg_sl ([.ref b])).length) Slot.unset).toArray = ls at hl ⊢
  refine gSnd_all (b, s.heap.size, dC, dI, kA) n 40 122 0 _ [] (m0 L xs) h' _ hn p l e R s m _ below meth c s.heap [] 0 0 Q ls ⟨hx, hb, hml, hown, hg, hE, Nat.le_refl _, hlocks, fun z => absurd z (by decide)⟩ hH va_S.rf (gLs_sub hl fun q hq => ?_) rfl (by omega) (by omega) ?_ ?_ ?_
  · obtain ⟨v, h1, h2⟩ := gLv_mem.mp hq
    obtain ⟨j, w⟩ := q
    simp only at h1 h2
    match j, h1 with
    | 0, h1 => cases h1; subst h2; exact List.mem_cons_self
    | 1, h1 => cases h1
    | 2, h1 => cases h1
    | 3, h1 => cases h1
    | j + 4, h1 => cases h1
  · show 0 + (mN h' - 1) ≤ _
    omega
  · show 0 + (mZ h' - 0) ≤ _
    omega
  · intro pc' ls' H' locs' c1 s1 e1 e2 hret hH' hS'
    have e1 : c1 = mN h' - 1 := by rw [e1]; show 0 + (mN h' - 1) = _; omega
    have e2 : s1 = mZ h' := by rw [e2]; show 0 + (mZ h' - 0) = _; omega
    subst e1
    subst e2
    exact K pc' ls' H' locs' hret.2 hS'.2.2
end
section
-- equations of the run, an instruction each
theorem ev_of {d mi pc pc' len : Nat} {L L' : mLs} {st st' : List Value} {h h' : mM} {ins : Instr} (hd : decode (cd mi) pc = .ok (ins, len)) (hs : mIns mi pc L st h ins len = some (.inl (pc', L', st', h'))) : ev d mi pc L st h = ev d mi pc' L' st' h' := ev_next (by unfold mStep; rw [hd]; exact hs)
theorem ev_no {d mi pc len : Nat} {L : mLs} {st : List Value} {h : mM} {ins : Instr} (hd : decode (cd mi) pc = .ok (ins, len)) (hs : mIns mi pc L st h ins len = none) : ev d mi pc L st h = none := ev_none (by unfold mStep; rw [hd]; exact hs)
theorem ev_rt {d mi pc len : Nat} {L : mLs} {st : List Value} {h : mM} {ins : Instr} {v : Option Value} (hd : decode (cd mi) pc = .ok (ins, len)) (hs : mIns mi pc L st h ins len = some (.inr (.inl v))) : ev d mi pc L st h = some (v, h) := ev_ret (by unfold mStep; rw [hd]; exact hs)
theorem ev_cl {d mi pc mj len : Nat} {L : mLs} {st as rest : List Value} {h : mM} {ins : Instr} (hd : decode (cd mi) pc = .ok (ins, len)) (hs : mIns mi pc L st h ins len = some (.inr (.inr (mj, as, rest)))) : ev (d + 1) mi pc L st h = cV (ev d mj 0 (mEnt mj as) [] h) (fun v h' => ev (d + 1) mi (pc + 3) L (v ++ rest) h') := ev_call (by unfold mStep; rw [hd]; exact hs)
theorem cV_some {r : Option Value} {h : mM} {k : List Value → mM → Option (Option Value × mM)} : cV (some (r, h)) k = k r.toList h := rfl
theorem tl_some {v : Value} : (some v).toList = [v] := rfl
theorem tl_none : (none : Option Value).toList = [] := rfl
theorem mZO_0 : mZO 0 = true := rfl
theorem mZO_1 : mZO 1 = true := rfl
theorem mLong_n : mLong none = false := rfl
theorem mLong_i {x : Int32} : mLong (some (.int x)) = false := rfl
theorem mLong_r {x : Nat} : mLong (some (.ref x)) = false := rfl
theorem mCat_0 : mCat [] = 0 := rfl
theorem mCat_i {x : Int32} {s : List Value} : mCat (.int x :: s) = 1 + mCat s := by simp [mCat, Value.category]
theorem mCat_r {x : Nat} {s : List Value} : mCat (.ref x :: s) = 1 + mCat s := by simp [mCat, Value.category]
theorem mCat_l {x : Int64} {s : List Value} : mCat (.long x :: s) = 2 + mCat s := by simp [mCat, Value.category]
def oB (o : Option Nat) (k : Nat → Option (Option Value × mM)) : Option (Option Value × mM) := match o with
  | some b => k b
  | none => none
theorem oB_some {b : Nat} {k : Nat → Option (Option Value × mM)} : oB (some b) k = k b := rfl
def tsF {α : Type} (f : Nat → α) (x : Int32) : List Nat → Int → α → α
  | [], _, z => z
  | t :: ts, k, z => if x.toInt = k then f t else tsF f x ts (k + 1) z
section EVS
variable {d mi pc tgt : Nat} {L : mLs} {st : List Value} {h : mM}
theorem ev_br {c : ClassFile.Cond} {off : Int} {x y : Int32} {r : List Value} (hq : ∀ L st h, mIns mi pc L (st ++ r) h = mIns mi pc L (st ++ r) h) (P : Prop) : True := trivial
theorem ev_if {c : ClassFile.Cond} {off : Int} {x : Int32} (P : Prop) (dP : Decidable P) (hP : mCmp c x 0 = decide P) (hd : decode (cd mi) pc = .ok (.ifCond c off, 3)) (ht : (pc : Int) + off = (tgt : Int)) : ev d mi pc L (.int x :: st) h = if P then ev d mi tgt L st h else ev d mi (pc + 3) L st h := by
  by_cases hc : P
  · rw [if_pos hc]
    refine ev_of hd ?_
    have : mCmp c x 0 = true := by rw [hP]; exact decide_eq_true hc
    simp only [mIns, this, if_true, mTg]
    rw [if_pos (by omega), ht]
    rfl
  · rw [if_neg hc]
    refine ev_of hd ?_
    have : mCmp c x 0 = false := by rw [hP]; exact decide_eq_false hc
    simp [mIns, this, mNx]
theorem ev_ic {c : ClassFile.Cond} {off : Int} {x y : Int32} (P : Prop) (dP : Decidable P) (hP : mCmp c x y = decide P) (hd : decode (cd mi) pc = .ok (.if_icmp c off, 3)) (ht : (pc : Int) + off = (tgt : Int)) : ev d mi pc L (.int y :: .int x :: st) h = if P then ev d mi tgt L st h else ev d mi (pc + 3) L st h := by
  by_cases hc : P
  · rw [if_pos hc]
    refine ev_of hd ?_
    have : mCmp c x y = true := by rw [hP]; exact decide_eq_true hc
    simp only [mIns, this, if_true, mTg]
    rw [if_pos (by omega), ht]
    rfl
  · rw [if_neg hc]
    refine ev_of hd ?_
    have : mCmp c x y = false := by rw [hP]; exact decide_eq_false hc
    simp [mIns, this, mNx]
theorem ev_go {off : Int} (hd : decode (cd mi) pc = .ok (.goto off, 3)) (ht : (pc : Int) + off = (tgt : Int)) : ev d mi pc L st h = ev d mi tgt L st h := by
  refine ev_of hd ?_
  simp only [mIns, mTg, if_true]
  rw [if_pos (by omega), ht]
  rfl
theorem ev_div {x y : Int32} (hd : decode (cd mi) pc = .ok (.idiv, 1)) : ev d mi pc L (.int y :: .int x :: st) h = if y = 0 then none else ev d mi (pc + 1) L (.int (x / y) :: st) h := by
  by_cases hc : y = 0
  · rw [if_pos hc]
    exact ev_no hd (by simp [mIns, hc])
  · rw [if_neg hc]
    exact ev_of hd (by simp [mIns, hc, mNx])
theorem ev_rem {x y : Int32} (hd : decode (cd mi) pc = .ok (.irem, 1)) : ev d mi pc L (.int y :: .int x :: st) h = if y = 0 then none else ev d mi (pc + 1) L (.int (x - x / y * y) :: st) h := by
  by_cases hc : y = 0
  · rw [if_pos hc]
    exact ev_no hd (by simp [mIns, hc])
  · rw [if_neg hc]
    exact ev_of hd (by simp [mIns, hc, mNx])
theorem ev_gI {i a ci k : Nat} (hd : decode (cd mi) pc = .ok (.getfield i, 3)) (hf : fGet (ow mi) i = some (ci, k)) (ht : mIsR (tyN ci k) = false) : ev d mi pc L (.ref a :: st) h = if mK h a = ci then ev d mi (pc + 3) L (.int (mI h a k) :: st) h else none := by
  by_cases hc : mK h a = ci
  · rw [if_pos hc]
    exact ev_of hd (by simp [mIns, mGetF, hf, hc, ht, mNx])
  · rw [if_neg hc]
    exact ev_no hd (by simp [mIns, mGetF, hf, hc])
theorem ev_gR {i a ci k : Nat} (hd : decode (cd mi) pc = .ok (.getfield i, 3)) (hf : fGet (ow mi) i = some (ci, k)) (ht : mIsR (tyN ci k) = true) : ev d mi pc L (.ref a :: st) h = if mK h a = ci then oB (mR h a k) (fun b => ev d mi (pc + 3) L (.ref b :: st) h) else none := by
  by_cases hc : mK h a = ci
  · rw [if_pos hc]
    cases hb : mR h a k with
    | none => exact ev_no hd (by simp [mIns, mGetF, hf, hc, ht, hb])
    | some b => exact ev_of hd (by simp [mIns, mGetF, hf, hc, ht, hb, mNx])
  · rw [if_neg hc]
    exact ev_no hd (by simp [mIns, mGetF, hf, hc])
theorem ev_pI {i a ci k : Nat} {v : Int32} (hd : decode (cd mi) pc = .ok (.putfield i, 3)) (hf : fGet (ow mi) i = some (ci, k)) (ht : tyN ci k = .int) (hn : (TN ci k).2.2.2 = false) : ev d mi pc L (.int v :: .ref a :: st) h = if mK h a = ci then ev d mi (pc + 3) L st (wI h a k v) else none := by
  by_cases hc : mK h a = ci
  · rw [if_pos hc]
    exact ev_of hd (by simp [mIns, mPutF, hf, hc, ht, hn, mNx])
  · rw [if_neg hc]
    exact ev_no hd (by simp [mIns, mPutF, hf, hc])
theorem ev_pZ {i a ci k : Nat} {v : Int32} (hd : decode (cd mi) pc = .ok (.putfield i, 3)) (hf : fGet (ow mi) i = some (ci, k)) (ht : tyN ci k = .boolean) (hn : (TN ci k).2.2.2 = false) : ev d mi pc L (.int v :: .ref a :: st) h = if mK h a = ci ∧ mZO v = true then ev d mi (pc + 3) L st (wI h a k v) else none := by
  by_cases hc : mK h a = ci ∧ mZO v = true
  · rw [if_pos hc]
    exact ev_of hd (by simp [mIns, mPutF, hf, hc, ht, hn, mNx])
  · rw [if_neg hc]
    refine ev_no hd ?_
    simp only [mIns, mPutF, hf, ht, hn, if_true]
    rw [if_neg]
    intro q
    exact hc ⟨q.1, by have := q.2.1; simpa using this⟩
theorem ev_pR {i a ci k b : Nat} (hd : decode (cd mi) pc = .ok (.putfield i, 3)) (hf : fGet (ow mi) i = some (ci, k)) (ht : mIsR (tyN ci k) = true) (hn : (TN ci k).2.2.2 = false ∨ ((TN ci k).2.2.2 = true ∧ (yn mi).name = "<init>" ∧ (TN ci k).1 = RN (ow mi))) : ev d mi pc L (.ref b :: .ref a :: st) h = if mK h a = ci then ev d mi (pc + 3) L st (wR h a k (some b)) else none := by
  by_cases hc : mK h a = ci
  · rw [if_pos hc]
    refine ev_of hd ?_
    simp only [mIns, mPutF, hf, mNx, if_true]
    rw [if_pos ⟨hc, ht, hn⟩]
  · rw [if_neg hc]
    exact ev_no hd (by simp [mIns, mPutF, hf, hc])
theorem ev_ia {a : Nat} {i : Int32} (hd : decode (cd mi) pc = .ok (.iaload, 1)) : ev d mi pc L (.int i :: .ref a :: st) h = if (mK h a = 11 ∨ mK h a = 19) ∧ ixOK i (mL h a) = true then ev d mi (pc + 1) L (.int (mI h a i.toNatClampNeg) :: st) h else none := by
  by_cases hc : (mK h a = 11 ∨ mK h a = 19) ∧ ixOK i (mL h a) = true
  · rw [if_pos hc]
    exact ev_of hd (by simp only [mIns, mNx, if_true]; rw [if_pos hc])
  · rw [if_neg hc]
    exact ev_no hd (by simp only [mIns, if_true]; rw [if_neg hc])
theorem ev_la {a : Nat} {i : Int32} (hd : decode (cd mi) pc = .ok (.laload, 1)) : ev d mi pc L (.int i :: .ref a :: st) h = if mK h a = 12 ∧ ixOK i (mL h a) = true then ev d mi (pc + 1) L (.long (mJ h a i.toNatClampNeg) :: st) h else none := by
  by_cases hc : mK h a = 12 ∧ ixOK i (mL h a) = true
  · rw [if_pos hc]
    exact ev_of hd (by simp only [mIns, mNx, if_true]; rw [if_pos hc])
  · rw [if_neg hc]
    exact ev_no hd (by simp only [mIns, if_true]; rw [if_neg hc])
theorem ev_aa {a : Nat} {i : Int32} (hd : decode (cd mi) pc = .ok (.aaload, 1)) : ev d mi pc L (.int i :: .ref a :: st) h = if (12 < mK h a ∧ mK h a < 19) ∧ ixOK i (mL h a) = true then oB (mR h a i.toNatClampNeg) (fun b => ev d mi (pc + 1) L (.ref b :: st) h) else none := by
  by_cases hc : (12 < mK h a ∧ mK h a < 19) ∧ ixOK i (mL h a) = true
  · rw [if_pos hc]
    cases hb : mR h a i.toNatClampNeg with
    | none => exact ev_no hd (by simp only [mIns, if_true]; rw [if_pos hc, hb])
    | some b => exact ev_of hd (by simp only [mIns, mNx, if_true]; rw [if_pos hc, hb])
  · rw [if_neg hc]
    exact ev_no hd (by simp only [mIns, if_true]; rw [if_neg hc])
theorem ev_is {a : Nat} {i v : Int32} (hd : decode (cd mi) pc = .ok (.iastore, 1)) : ev d mi pc L (.int v :: .int i :: .ref a :: st) h = if mK h a = 11 ∧ ixOK i (mL h a) = true then ev d mi (pc + 1) L st (wI h a i.toNatClampNeg v) else none := by
  by_cases hc : mK h a = 11 ∧ ixOK i (mL h a) = true
  · rw [if_pos hc]
    exact ev_of hd (by simp only [mIns, mNx, if_true]; rw [if_pos hc])
  · rw [if_neg hc]
    exact ev_no hd (by simp only [mIns, if_true]; rw [if_neg hc])
theorem ev_ls {a : Nat} {i : Int32} {v : Int64} (hd : decode (cd mi) pc = .ok (.lastore, 1)) : ev d mi pc L (.long v :: .int i :: .ref a :: st) h = if mK h a = 12 ∧ ixOK i (mL h a) = true then ev d mi (pc + 1) L st (wJ h a i.toNatClampNeg v) else none := by
  by_cases hc : mK h a = 12 ∧ ixOK i (mL h a) = true
  · rw [if_pos hc]
    exact ev_of hd (by simp only [mIns, mNx, if_true]; rw [if_pos hc])
  · rw [if_neg hc]
    exact ev_no hd (by simp only [mIns, if_true]; rw [if_neg hc])
theorem ev_as {a b : Nat} {i : Int32} (hd : decode (cd mi) pc = .ok (.aastore, 1)) : ev d mi pc L (.ref b :: .int i :: .ref a :: st) h = if (12 < mK h a ∧ mK h a < 18) ∧ mK h b = mEl (mK h a) ∧ ixOK i (mL h a) = true then ev d mi (pc + 1) L st (wR h a i.toNatClampNeg (some b)) else none := by
  by_cases hc : (12 < mK h a ∧ mK h a < 18) ∧ mK h b = mEl (mK h a) ∧ ixOK i (mL h a) = true
  · rw [if_pos hc]
    exact ev_of hd (by simp only [mIns, mNx, if_true]; rw [if_pos hc])
  · rw [if_neg hc]
    exact ev_no hd (by simp only [mIns, if_true]; rw [if_neg hc])
theorem ev_len {a : Nat} (hd : decode (cd mi) pc = .ok (.arraylength, 1)) : ev d mi pc L (.ref a :: st) h = if mK h a = 19 then ev d mi (pc + 1) L (.int (Int32.ofNat (mL h a)) :: st) h else none := by
  by_cases hc : mK h a = 19
  · rw [if_pos hc]
    exact ev_of hd (by simp only [mIns, mNx, if_true]; rw [if_pos hc])
  · rw [if_neg hc]
    exact ev_no hd (by simp only [mIns, if_true]; rw [if_neg hc])
theorem ev_max {i mj : Nat} {x y : Int32} (hd : decode (cd mi) pc = .ok (.invokestatic i, 3)) (hf : kGet (ow mi) i = some (6, mj)) (hc : mCat st ≤ 8) : ev d mi pc L (.int y :: .int x :: st) h = ev d mi (pc + 3) L (.int (if x < y then y else x) :: st) h := ev_of hd (by simp [mIns, mCallS, hf, hc, mNx])
theorem ev_min {i mj : Nat} {x y : Int32} (hd : decode (cd mi) pc = .ok (.invokestatic i, 3)) (hf : kGet (ow mi) i = some (7, mj)) (hc : mCat st ≤ 8) : ev d mi pc L (.int y :: .int x :: st) h = ev d mi (pc + 3) L (.int (if y < x then y else x) :: st) h := ev_of hd (by simp [mIns, mCallS, hf, hc, mNx])
theorem ev_abs {i mj : Nat} {x : Int32} (hd : decode (cd mi) pc = .ok (.invokestatic i, 3)) (hf : kGet (ow mi) i = some (8, mj)) (hc : mCat st ≤ 8) : ev d mi pc L (.int x :: st) h = ev d mi (pc + 3) L (.int (if 0 ≤ x then x else 0 - x) :: st) h := ev_of hd (by simp [mIns, mCallS, hf, hc, mNx])
theorem ev_cpy {i mj a b : Nat} {n dp sp : Int32} (hd : decode (cd mi) pc = .ok (.invokestatic i, 3)) (hf : kGet (ow mi) i = some (9, mj)) (hc : mCat st ≤ 8) : ev d mi pc L (.int n :: .int dp :: .ref b :: .int sp :: .ref a :: st) h = if mK h a = 11 ∧ mK h b = 11 ∧ ¬ sp < 0 ∧ ¬ dp < 0 ∧ ¬ n < 0 ∧ sp.toNatClampNeg + n.toNatClampNeg ≤ mL h a ∧ dp.toNatClampNeg + n.toNatClampNeg ≤ mL h b then ev d mi (pc + 3) L st (wC h a b sp.toNatClampNeg dp.toNatClampNeg n.toNatClampNeg) else none := by
  split
  · rename_i hq
    refine ev_of hd ?_
    simp only [mIns, mCallS, hf, mNx, if_true]
    rw [if_neg (by decide), if_neg (by decide), if_neg (by decide), if_pos ⟨hc, hq⟩]
  · rename_i hq
    refine ev_no hd ?_
    simp only [mIns, mCallS, hf, mNx, if_true]
    rw [if_neg (by decide), if_neg (by decide), if_neg (by decide), if_neg (fun z => hq z.2)]
theorem ev_obj {i mj a : Nat} (hd : decode (cd mi) pc = .ok (.invokespecial i, 3)) (hf : kGet (ow mi) i = some (5, mj)) (hc : mCat st ≤ 8) : ev d mi pc L (.ref a :: st) h = ev d mi (pc + 3) L st h := ev_of hd (by simp [mIns, mCallI, hf, hc, mNx])
theorem ev_cs {i mj kd : Nat} {S as rest : List Value} {E : mLs} (hd : decode (cd mi) pc = .ok (.invokestatic i, 3)) (hf : kGet (ow mi) i = some (kd, mj)) (hk : kd = 1 ∨ kd = 3) (ha : (S.take (na mj)).reverse = as) (hr : S.drop (na mj) = rest) (hl : na mj ≤ S.length) (he : mEnt mj as = E) (hm : (as.map Value.category).sum ≤ mx mj) (hc : mCat rest ≤ 8) : ev (d + 1) mi pc L S h = cV (ev d mj 0 E [] h) (fun v h' => ev (d + 1) mi (pc + 3) L (v ++ rest) h') := by
  subst ha
  subst hr
  subst he
  refine ev_cl hd ?_
  simp only [mIns, mCallS, hf, mNx, if_true]
  rw [if_neg (by omega), if_neg (by omega), if_neg (by omega), if_neg (by omega), if_pos ⟨hk, hl, hc, hm⟩]
theorem ev_cv {i mj a : Nat} {S as rest : List Value} {E : mLs} (hd : decode (cd mi) pc = .ok (.invokevirtual i, 3)) (hf : kGet (ow mi) i = some (0, mj)) (ha : (S.take (na mj)).reverse = as) (hr : S.drop (na mj) = .ref a :: rest) (hl : na mj ≤ S.length) (he : mEnt mj (.ref a :: as) = E) (hm : ((Value.ref a :: as).map Value.category).sum ≤ mx mj) (hc : mCat rest ≤ 8) : ev (d + 1) mi pc L S h = if mK h a = ow mj then cV (ev d mj 0 E [] h) (fun v h' => ev (d + 1) mi (pc + 3) L (v ++ rest) h') else none := by
  subst ha
  subst he
  by_cases hq : mK h a = ow mj
  · rw [if_pos hq]
    refine ev_cl hd ?_
    simp only [mIns, mCallV, hf, hr, if_true]
    rw [if_pos ⟨trivial, hq, hl, hc, hm⟩]
  · rw [if_neg hq]
    refine ev_no hd ?_
    simp only [mIns, mCallV, hf, hr, if_true]
    rw [if_neg (fun z => hq z.2.1)]
theorem ev_ci {i mj kd a : Nat} {S as rest : List Value} {E : mLs} (hd : decode (cd mi) pc = .ok (.invokespecial i, 3)) (hf : kGet (ow mi) i = some (kd, mj)) (hk : kd = 2 ∨ kd = 4) (ha : (S.take (na mj)).reverse = as) (hr : S.drop (na mj) = .ref a :: rest) (hl : na mj ≤ S.length) (he : mEnt mj (.ref a :: as) = E) (hm : ((Value.ref a :: as).map Value.category).sum ≤ mx mj) (hc : mCat rest ≤ 8) : ev (d + 1) mi pc L S h = cV (ev d mj 0 E [] h) (fun v h' => ev (d + 1) mi (pc + 3) L (v ++ rest) h') := by
  subst ha
  subst he
  refine ev_cl hd ?_
  simp only [mIns, mCallI, hf, hr, if_true]
  rw [if_neg (by omega), if_pos ⟨hk, hl, hc, hm⟩]
theorem ev_rz {v : Int32} (hd : decode (cd mi) pc = .ok (.ireturn, 1)) (hr : mrt mi = some .boolean) : ev d mi pc L [.int v] h = if mZO v = true then some (some (.int v), h) else none := by
  by_cases hq : mZO v = true
  · rw [if_pos hq]
    exact ev_rt hd (by simp [mIns, hr, hq])
  · rw [if_neg hq]
    exact ev_no hd (by simp [mIns, hr, hq])
theorem ev_ri {v : Int32} (hd : decode (cd mi) pc = .ok (.ireturn, 1)) (hr : mrt mi = some .int) : ev d mi pc L [.int v] h = some (some (.int v), h) := ev_rt hd (by simp [mIns, hr])
theorem ev_rl {v : Int64} (hd : decode (cd mi) pc = .ok (.lreturn, 1)) (hr : mrt mi = some .long) : ev d mi pc L [.long v] h = some (some (.long v), h) := ev_rt hd (by simp [mIns, hr])
theorem ev_rv (hd : decode (cd mi) pc = .ok (.return_, 1)) (hr : mrt mi = none) : ev d mi pc L [] h = some (none, h) := ev_rt hd (by simp [mIns, hr])
theorem ev_na {t : ArrayType} {n : Int32} (hd : decode (cd mi) pc = .ok (.newarray t, 2)) (ht : t = .int ∨ t = .long) (hn : ¬ n < 0) (h1 : n.toNatClampNeg ≤ 1000) : ev d mi pc L (.int n :: st) h = ev d mi (pc + 2) L (.ref (mN h) :: st) (wN h (if t = .int then 11 else 12) n.toNatClampNeg) := ev_of hd (by simp only [mIns, mNx, if_true]; rw [if_pos ⟨ht, hn, h1⟩])
theorem ev_anew {i ci : Nat} {n : Int32} (hd : decode (cd mi) pc = .ok (.anewarray i, 3)) (hf : nGet (ow mi) i = some ci) (ha : ci ∈ aoL) (hn : ¬ n < 0) (h1 : n.toNatClampNeg ≤ 1000) : ev d mi pc L (.int n :: st) h = ev d mi (pc + 3) L (.ref (mN h) :: st) (wN h (mAr ci) n.toNatClampNeg) := ev_of hd (by simp only [mIns, mNx, hf, if_true]; rw [if_pos ⟨ha, hn, h1⟩])
theorem ev_new {i ci : Nat} (hd : decode (cd mi) pc = .ok (.new i, 3)) (hf : nGet (ow mi) i = some ci) : ev d mi pc L st h = ev d mi (pc + 3) L (.ref (mN h) :: st) (wN h ci (nfN ci)) := ev_of hd (by simp [mIns, mNx, hf])
theorem ev_grid {n k : Int32} (hd : decode (cd mi) pc = .ok (.multianewarray 9 2, 4)) (ho : ow mi = 5) (hn : ¬ n < 0) (h1 : n.toNatClampNeg ≤ 1000) (hk : ¬ k < 0) (h2 : k.toNatClampNeg ≤ 1000) : ev d mi pc L (.int k :: .int n :: st) h = ev d mi (pc + 4) L (.ref (mN h) :: st) (wGrid h n.toNatClampNeg k.toNatClampNeg) := ev_of hd (by simp only [mIns, mNx, ho]; rw [if_pos ⟨rfl, rfl, trivial, rfl⟩, if_pos ⟨hn, h1, hk, h2⟩])
theorem tsF_in {α : Type} {f : Nat → α} {x : Int32} {z : α} : ∀ (ts : List Nat) (lo : Int) (t : Nat), lo ≤ x.toInt → ts[(x.toInt - lo).toNat]? = some t → tsF f x ts lo z = f t
  | [], lo, t, _, h => by simp at h
  | u :: ts, lo, t, h1, h2 => by
    unfold tsF
    by_cases hq : x.toInt = lo
    · rw [if_pos hq]
      rw [hq, Int.sub_self] at h2
      cases h2
      rfl
    · rw [if_neg hq]
      refine tsF_in ts (lo + 1) t (by omega) ?_
      rw [show (x.toInt - lo).toNat = (x.toInt - (lo + 1)).toNat + 1 by omega] at h2
      exact h2
theorem tsF_out {α : Type} {f : Nat → α} {x : Int32} {z : α} : ∀ (ts : List Nat) (lo : Int), (x.toInt < lo ∨ lo + ts.length ≤ x.toInt) → tsF f x ts lo z = z
  | [], lo, _ => rfl
  | u :: ts, lo, h => by
    simp only [List.length_cons] at h
    unfold tsF
    rw [if_neg (by omega)]
    exact tsF_out ts (lo + 1) (by omega)
theorem ev_ts {dflt lo hi : Int} {offs : Array Int} {len tg : Nat} {x : Int32} (ts : List Nat) (hd : decode (cd mi) pc = .ok (.tableswitch dflt lo hi offs, len)) (hts : offs.toList.map (fun o => (pc : Int) + o) = ts.map (fun t => (t : Int))) (hh : hi = lo + ts.length - 1) (hg : (pc : Int) + dflt = (tg : Int)) : ev d mi pc L (.int x :: st) h = tsF (fun t => ev d mi t L st h) x ts lo (ev d mi tg L st h) := by
  by_cases hq : x.toInt < lo ∨ hi < x.toInt
  · rw [tsF_out ts lo (by omega)]
    refine ev_of hd ?_
    simp only [mIns, mTg]
    rw [if_pos hq, if_pos (by omega), hg]
    rfl
  · have hlen : offs.toList.length = ts.length := by
      have := congrArg List.length hts
      simpa using this
    have hlt : (x.toInt - lo).toNat < ts.length := by omega
    obtain ⟨t, ht⟩ : ∃ t, ts[(x.toInt - lo).toNat]? = some t := ⟨_, List.getElem?_eq_getElem hlt⟩
    rw [tsF_in ts lo t (by omega) ht]
    have h3 : (offs.toList.map (fun o => (pc : Int) + o))[(x.toInt - lo).toNat]? = some (t : Int) := by rw [hts, List.getElem?_map, ht]; rfl
    rw [List.getElem?_map] at h3
    cases ho : offs.toList[(x.toInt - lo).toNat]? with
    | none => rw [ho] at h3; cases h3
    | some off =>
      rw [ho] at h3
      simp only [Option.map_some, Option.some.injEq] at h3
      have ho2 : offs[(x.toInt - lo).toNat]? = some off := by rw [← Array.getElem?_toList]; exact ho
      refine ev_of hd ?_
      simp only [mIns, mTg]
      rw [if_neg hq, ho2]
      simp only
      rw [if_pos (by omega), h3]
      rfl
end EVS
end
