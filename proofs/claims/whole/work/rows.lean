section
-- PART A of the skeleton, the names and field tables: printed texts (claim/NAMES.whole, kit/laws/SKELETON); the rest by gen_names.py
/-- a private method of a class that the tables say can be made, by its rows of tables_1 -/
def lw_okq (q : MethodName × Nat) : Prop := (q.1.cls ≠ "java/lang/invoke/MethodHandle" ∧ q.1.cls ≠ "java/lang/invoke/VarHandle") ∧ Cond.instantiable q.1.cls q.2 ∈ tables_1 ∧ Cond.privateMethod q.1 ∈ tables_1 ∧ Cond.instanceMethod q.1 ∈ tables_1
theorem lw_p0 : lw_okq (⟨"TideMill", "finding", "(I)I"⟩, 16) := ⟨⟨by decide +kernel, by decide +kernel⟩, List.mem_of_getElem? (i := 16) (by decide +kernel), List.mem_of_getElem? (i := 392) (by decide +kernel), List.mem_of_getElem? (i := 393) (by decide +kernel)⟩
theorem lw_p1 : lw_okq (⟨"TideMill", "isPond", "(I)Z"⟩, 16) := ⟨⟨by decide +kernel, by decide +kernel⟩, List.mem_of_getElem? (i := 16) (by decide +kernel), List.mem_of_getElem? (i := 420) (by decide +kernel), List.mem_of_getElem? (i := 421) (by decide +kernel)⟩
theorem lw_p2 : lw_okq (⟨"TideMill", "isMill", "(I)Z"⟩, 16) := ⟨⟨by decide +kernel, by decide +kernel⟩, List.mem_of_getElem? (i := 16) (by decide +kernel), List.mem_of_getElem? (i := 476) (by decide +kernel), List.mem_of_getElem? (i := 477) (by decide +kernel)⟩
theorem lw_p3 : lw_okq (⟨"TideMill", "countWater", "()V"⟩, 16) := ⟨⟨by decide +kernel, by decide +kernel⟩, List.mem_of_getElem? (i := 16) (by decide +kernel), List.mem_of_getElem? (i := 570) (by decide +kernel), List.mem_of_getElem? (i := 571) (by decide +kernel)⟩
theorem lw_p4 : lw_okq (⟨"TideMill", "handOutGround", "()I"⟩, 16) := ⟨⟨by decide +kernel, by decide +kernel⟩, List.mem_of_getElem? (i := 16) (by decide +kernel), List.mem_of_getElem? (i := 574) (by decide +kernel), List.mem_of_getElem? (i := 575) (by decide +kernel)⟩
theorem lw_p5 : lw_okq (⟨"TideMill", "startLater", "()V"⟩, 16) := ⟨⟨by decide +kernel, by decide +kernel⟩, List.mem_of_getElem? (i := 16) (by decide +kernel), List.mem_of_getElem? (i := 600) (by decide +kernel), List.mem_of_getElem? (i := 601) (by decide +kernel)⟩
theorem lw_p6 : lw_okq (⟨"TideMill", "waterInPonds", "()I"⟩, 16) := ⟨⟨by decide +kernel, by decide +kernel⟩, List.mem_of_getElem? (i := 16) (by decide +kernel), List.mem_of_getElem? (i := 652) (by decide +kernel), List.mem_of_getElem? (i := 653) (by decide +kernel)⟩
theorem lw_p7 : lw_okq (⟨"TideMillModel", "finding", "(J)J"⟩, 37) := ⟨⟨by decide +kernel, by decide +kernel⟩, List.mem_of_getElem? (i := 676) (by decide +kernel), List.mem_of_getElem? (i := 805) (by decide +kernel), List.mem_of_getElem? (i := 806) (by decide +kernel)⟩
theorem lw_p8 : lw_okq (⟨"TideMillModel", "tideOf", "(I)I"⟩, 37) := ⟨⟨by decide +kernel, by decide +kernel⟩, List.mem_of_getElem? (i := 676) (by decide +kernel), List.mem_of_getElem? (i := 818) (by decide +kernel), List.mem_of_getElem? (i := 819) (by decide +kernel)⟩
theorem lw_p9 : lw_okq (⟨"TideMillModel", "isPond", "(I)Z"⟩, 37) := ⟨⟨by decide +kernel, by decide +kernel⟩, List.mem_of_getElem? (i := 676) (by decide +kernel), List.mem_of_getElem? (i := 831) (by decide +kernel), List.mem_of_getElem? (i := 832) (by decide +kernel)⟩
theorem lw_p10 : lw_okq (⟨"TideMillModel", "isMill", "(I)Z"⟩, 37) := ⟨⟨by decide +kernel, by decide +kernel⟩, List.mem_of_getElem? (i := 676) (by decide +kernel), List.mem_of_getElem? (i := 859) (by decide +kernel), List.mem_of_getElem? (i := 860) (by decide +kernel)⟩
theorem lw_p11 : lw_okq (⟨"TideMillModel", "goes", "([IIIZ)V"⟩, 37) := ⟨⟨by decide +kernel, by decide +kernel⟩, List.mem_of_getElem? (i := 676) (by decide +kernel), List.mem_of_getElem? (i := 894) (by decide +kernel), List.mem_of_getElem? (i := 895) (by decide +kernel)⟩
theorem lw_p12 : lw_okq (⟨"TideMillModel", "gates", "([II)V"⟩, 37) := ⟨⟨by decide +kernel, by decide +kernel⟩, List.mem_of_getElem? (i := 676) (by decide +kernel), List.mem_of_getElem? (i := 898) (by decide +kernel), List.mem_of_getElem? (i := 899) (by decide +kernel)⟩
theorem lw_p13 : lw_okq (⟨"TideMillModel", "flows", "(II)V"⟩, 37) := ⟨⟨by decide +kernel, by decide +kernel⟩, List.mem_of_getElem? (i := 676) (by decide +kernel), List.mem_of_getElem? (i := 903) (by decide +kernel), List.mem_of_getElem? (i := 904) (by decide +kernel)⟩
theorem lw_p14 : lw_okq (⟨"TideMillModel", "evens", "([I)V"⟩, 37) := ⟨⟨by decide +kernel, by decide +kernel⟩, List.mem_of_getElem? (i := 676) (by decide +kernel), List.mem_of_getElem? (i := 907) (by decide +kernel), List.mem_of_getElem? (i := 908) (by decide +kernel)⟩
theorem lw_p15 : lw_okq (⟨"TideMillModel", "turns", "([III)V"⟩, 37) := ⟨⟨by decide +kernel, by decide +kernel⟩, List.mem_of_getElem? (i := 676) (by decide +kernel), List.mem_of_getElem? (i := 911) (by decide +kernel), List.mem_of_getElem? (i := 912) (by decide +kernel)⟩
def lw_privs_1 : List (MethodName × Nat) := [(⟨"TideMill", "finding", "(I)I"⟩, 16), (⟨"TideMill", "isPond", "(I)Z"⟩, 16), (⟨"TideMill", "isMill", "(I)Z"⟩, 16), (⟨"TideMill", "countWater", "()V"⟩, 16), (⟨"TideMill", "handOutGround", "()I"⟩, 16), (⟨"TideMill", "startLater", "()V"⟩, 16), (⟨"TideMill", "waterInPonds", "()I"⟩, 16), (⟨"TideMillModel", "finding", "(J)J"⟩, 37), (⟨"TideMillModel", "tideOf", "(I)I"⟩, 37), (⟨"TideMillModel", "isPond", "(I)Z"⟩, 37), (⟨"TideMillModel", "isMill", "(I)Z"⟩, 37), (⟨"TideMillModel", "goes", "([IIIZ)V"⟩, 37), (⟨"TideMillModel", "gates", "([II)V"⟩, 37), (⟨"TideMillModel", "flows", "(II)V"⟩, 37), (⟨"TideMillModel", "evens", "([I)V"⟩, 37), (⟨"TideMillModel", "turns", "([III)V"⟩, 37)]
theorem lw_r1 : ∀ q ∈ lw_privs_1, lw_okq q := List.forall_mem_cons.mpr ⟨lw_p0, List.forall_mem_cons.mpr ⟨lw_p1, List.forall_mem_cons.mpr ⟨lw_p2, List.forall_mem_cons.mpr ⟨lw_p3, List.forall_mem_cons.mpr ⟨lw_p4, List.forall_mem_cons.mpr ⟨lw_p5, List.forall_mem_cons.mpr ⟨lw_p6, List.forall_mem_cons.mpr ⟨lw_p7, List.forall_mem_cons.mpr ⟨lw_p8, List.forall_mem_cons.mpr ⟨lw_p9, List.forall_mem_cons.mpr ⟨lw_p10, List.forall_mem_cons.mpr ⟨lw_p11, List.forall_mem_cons.mpr ⟨lw_p12, List.forall_mem_cons.mpr ⟨lw_p13, List.forall_mem_cons.mpr ⟨lw_p14, List.forall_mem_cons.mpr ⟨lw_p15, fun _ h => absurd h List.not_mem_nil⟩⟩⟩⟩⟩⟩⟩⟩⟩⟩⟩⟩⟩⟩⟩⟩
theorem lw_p16 : lw_okq (⟨"TideMillModel", "turn", "([IIIII)V"⟩, 37) := ⟨⟨by decide +kernel, by decide +kernel⟩, List.mem_of_getElem? (i := 676) (by decide +kernel), List.mem_of_getElem? (i := 915) (by decide +kernel), List.mem_of_getElem? (i := 916) (by decide +kernel)⟩
theorem lw_p17 : lw_okq (⟨"TideMillModel", "keptFor", "(I)I"⟩, 37) := ⟨⟨by decide +kernel, by decide +kernel⟩, List.mem_of_getElem? (i := 676) (by decide +kernel), List.mem_of_getElem? (i := 919) (by decide +kernel), List.mem_of_getElem? (i := 920) (by decide +kernel)⟩
theorem lw_p18 : lw_okq (⟨"TideMillModel", "gives", "(II)V"⟩, 37) := ⟨⟨by decide +kernel, by decide +kernel⟩, List.mem_of_getElem? (i := 676) (by decide +kernel), List.mem_of_getElem? (i := 923) (by decide +kernel), List.mem_of_getElem? (i := 924) (by decide +kernel)⟩
theorem lw_p19 : lw_okq (⟨"TideMillModel", "done", "(II)V"⟩, 37) := ⟨⟨by decide +kernel, by decide +kernel⟩, List.mem_of_getElem? (i := 676) (by decide +kernel), List.mem_of_getElem? (i := 927) (by decide +kernel), List.mem_of_getElem? (i := 928) (by decide +kernel)⟩
theorem lw_p20 : lw_okq (⟨"TideMillModel", "spills", "([I)V"⟩, 37) := ⟨⟨by decide +kernel, by decide +kernel⟩, List.mem_of_getElem? (i := 676) (by decide +kernel), List.mem_of_getElem? (i := 931) (by decide +kernel), List.mem_of_getElem? (i := 932) (by decide +kernel)⟩
theorem lw_p21 : lw_okq (⟨"TideMillModel", "begin", "()V"⟩, 37) := ⟨⟨by decide +kernel, by decide +kernel⟩, List.mem_of_getElem? (i := 676) (by decide +kernel), List.mem_of_getElem? (i := 939) (by decide +kernel), List.mem_of_getElem? (i := 940) (by decide +kernel)⟩
def lw_privs_2 : List (MethodName × Nat) := [(⟨"TideMillModel", "turn", "([IIIII)V"⟩, 37), (⟨"TideMillModel", "keptFor", "(I)I"⟩, 37), (⟨"TideMillModel", "gives", "(II)V"⟩, 37), (⟨"TideMillModel", "done", "(II)V"⟩, 37), (⟨"TideMillModel", "spills", "([I)V"⟩, 37), (⟨"TideMillModel", "begin", "()V"⟩, 37)]
theorem lw_r2 : ∀ q ∈ lw_privs_2, lw_okq q := List.forall_mem_cons.mpr ⟨lw_p16, List.forall_mem_cons.mpr ⟨lw_p17, List.forall_mem_cons.mpr ⟨lw_p18, List.forall_mem_cons.mpr ⟨lw_p19, List.forall_mem_cons.mpr ⟨lw_p20, List.forall_mem_cons.mpr ⟨lw_p21, fun _ h => absurd h List.not_mem_nil⟩⟩⟩⟩⟩⟩
def lw_privs : List (MethodName × Nat) := lw_privs_1 ++ (lw_privs_2)
def lw_tbl : List Cond := k2_sels lw_privs ++ tables_1
theorem lw_privs_ok : ∀ q ∈ lw_privs, lw_okq q := by
  show ∀ q ∈ lw_privs_1 ++ (lw_privs_2), lw_okq q
  exact List.forall_mem_append.mpr ⟨lw_r1, lw_r2⟩
def RX0 : String := "TideMill$Channel"
def TX0 : u_T := fun k => match k with
  | 0 => ("TideMill$Channel", "a", "I", false)
  | 1 => ("TideMill$Channel", "b", "I", false)
  | _ => ("TideMill$Channel", "width", "I", false)
def tyX0 : Nat → FieldType := fun k => match k with
  | 0 => .int
  | 1 => .int
  | _ => .int
def RX1 : String := "TideMill$Flow"
def TX1 : u_T := fun k => match k with
  | 0 => ("TideMill$Flow", "works", "LTideMill$Works;", true)
  | 1 => ("TideMill$Flow", "ground", "[I", true)
  | 2 => ("TideMill$Flow", "cameIn", "I", false)
  | 3 => ("TideMill$Flow", "wentOut", "I", false)
  | 4 => ("TideMill$Flow", "spilt", "I", false)
  | _ => ("TideMill$Flow", "drawn", "I", false)
def tyX1 : Nat → FieldType := fun k => match k with
  | 0 => .object "TideMill$Works"
  | 1 => .array .int
  | 2 => .int
  | 3 => .int
  | 4 => .int
  | _ => .int
def RX2 : String := "TideMill$Mill"
def TX2 : u_T := fun k => match k with
  | 0 => ("TideMill$Mill", "stones", "[LTideMill$Stone;", true)
  | 1 => ("TideMill$Mill", "sacks", "[LTideMill$Sack;", true)
  | 2 => ("TideMill$Mill", "kind", "I", false)
  | 3 => ("TideMill$Mill", "pond", "I", false)
  | 4 => ("TideMill$Mill", "rank", "I", false)
  | 5 => ("TideMill$Mill", "keeps", "I", false)
  | 6 => ("TideMill$Mill", "customer", "I", false)
  | 7 => ("TideMill$Mill", "stoneCount", "I", false)
  | 8 => ("TideMill$Mill", "sackCount", "I", false)
  | 9 => ("TideMill$Mill", "ground", "I", false)
  | 10 => ("TideMill$Mill", "toll", "I", false)
  | 11 => ("TideMill$Mill", "done", "I", false)
  | 12 => ("TideMill$Mill", "late", "I", false)
  | 13 => ("TideMill$Mill", "idle", "I", false)
  | _ => ("TideMill$Mill", "cloth", "I", false)
def tyX2 : Nat → FieldType := fun k => match k with
  | 0 => .array (.object "TideMill$Stone")
  | 1 => .array (.object "TideMill$Sack")
  | 2 => .int
  | 3 => .int
  | 4 => .int
  | 5 => .int
  | 6 => .int
  | 7 => .int
  | 8 => .int
  | 9 => .int
  | 10 => .int
  | 11 => .int
  | 12 => .int
  | 13 => .int
  | _ => .int
def RX3 : String := "TideMill$Pond"
def TX3 : u_T := fun k => match k with
  | 0 => ("TideMill$Pond", "area", "I", false)
  | 1 => ("TideMill$Pond", "bank", "I", false)
  | 2 => ("TideMill$Pond", "width", "I", false)
  | _ => ("TideMill$Pond", "gate", "I", false)
def tyX3 : Nat → FieldType := fun k => match k with
  | 0 => .int
  | 1 => .int
  | 2 => .int
  | _ => .int
def RX4 : String := "TideMill$Sack"
def TX4 : u_T := fun k => match k with
  | 0 => ("TideMill$Sack", "customer", "I", false)
  | 1 => ("TideMill$Sack", "amount", "I", false)
  | 2 => ("TideMill$Sack", "wants", "I", false)
  | _ => ("TideMill$Sack", "due", "I", false)
def tyX4 : Nat → FieldType := fun k => match k with
  | 0 => .int
  | 1 => .int
  | 2 => .int
  | _ => .int
def RX5 : String := "TideMill$Search"
def TX5 : u_T := fun k => match k with
  | 0 => ("TideMill$Search", "flow", "LTideMill$Flow;", true)
  | 1 => ("TideMill$Search", "tides", "LTideMill$Tides;", true)
  | 2 => ("TideMill$Search", "water", "[[I", true)
  | 3 => ("TideMill$Search", "mill", "I", false)
  | 4 => ("TideMill$Search", "hours", "I", false)
  | 5 => ("TideMill$Search", "firstHour", "I", false)
  | 6 => ("TideMill$Search", "bestSet", "I", false)
  | _ => ("TideMill$Search", "bestGround", "I", false)
def tyX5 : Nat → FieldType := fun k => match k with
  | 0 => .object "TideMill$Flow"
  | 1 => .object "TideMill$Tides"
  | 2 => .array (.array .int)
  | 3 => .int
  | 4 => .int
  | 5 => .int
  | 6 => .int
  | _ => .int
def RX6 : String := "TideMill$Stone"
def TX6 : u_T := fun k => match k with
  | 0 => ("TideMill$Stone", "least", "I", false)
  | 1 => ("TideMill$Stone", "draw", "I", false)
  | 2 => ("TideMill$Stone", "rate", "I", false)
  | 3 => ("TideMill$Stone", "most", "I", false)
  | _ => ("TideMill$Stone", "isOn", "Z", false)
def tyX6 : Nat → FieldType := fun k => match k with
  | 0 => .int
  | 1 => .int
  | 2 => .int
  | 3 => .int
  | _ => .boolean
def RX7 : String := "TideMill$Tides"
def TX7 : u_T := fun k => match k with
  | 0 => ("TideMill$Tides", "heights", "[I", true)
  | _ => ("TideMill$Tides", "round", "I", false)
def tyX7 : Nat → FieldType := fun k => match k with
  | 0 => .array .int
  | _ => .int
def RX8 : String := "TideMill$Works"
def TX8 : u_T := fun k => match k with
  | 0 => ("TideMill$Works", "ponds", "[LTideMill$Pond;", true)
  | 1 => ("TideMill$Works", "channels", "[LTideMill$Channel;", true)
  | 2 => ("TideMill$Works", "mills", "[LTideMill$Mill;", true)
  | 3 => ("TideMill$Works", "order", "[I", true)
  | 4 => ("TideMill$Works", "pondCount", "I", false)
  | 5 => ("TideMill$Works", "channelCount", "I", false)
  | _ => ("TideMill$Works", "millCount", "I", false)
def tyX8 : Nat → FieldType := fun k => match k with
  | 0 => .array (.object "TideMill$Pond")
  | 1 => .array (.object "TideMill$Channel")
  | 2 => .array (.object "TideMill$Mill")
  | 3 => .array .int
  | 4 => .int
  | 5 => .int
  | _ => .int
def RX9 : String := "TideMill"
def TX9 : u_T := fun k => match k with
  | 0 => ("TideMill", "tides", "LTideMill$Tides;", true)
  | 1 => ("TideMill", "works", "LTideMill$Works;", true)
  | 2 => ("TideMill", "flow", "LTideMill$Flow;", true)
  | 3 => ("TideMill", "search", "LTideMill$Search;", true)
  | 4 => ("TideMill", "water", "[I", true)
  | 5 => ("TideMill", "flourOf", "[I", true)
  | 6 => ("TideMill", "numbers", "[I", true)
  | 7 => ("TideMill", "findings", "[I", true)
  | 8 => ("TideMill", "later", "[I", true)
  | 9 => ("TideMill", "hour", "I", false)
  | 10 => ("TideMill", "numbersWaiting", "I", false)
  | 11 => ("TideMill", "cameIn", "I", false)
  | 12 => ("TideMill", "wentOut", "I", false)
  | 13 => ("TideMill", "spilt", "I", false)
  | 14 => ("TideMill", "drawn", "I", false)
  | _ => ("TideMill", "putIn", "I", false)
def tyX9 : Nat → FieldType := fun k => match k with
  | 0 => .object "TideMill$Tides"
  | 1 => .object "TideMill$Works"
  | 2 => .object "TideMill$Flow"
  | 3 => .object "TideMill$Search"
  | 4 => .array .int
  | 5 => .array .int
  | 6 => .array .int
  | 7 => .array .int
  | 8 => .array .int
  | 9 => .int
  | 10 => .int
  | 11 => .int
  | 12 => .int
  | 13 => .int
  | 14 => .int
  | _ => .int
def RX10 : String := "TideMillModel"
def TX10 : u_T := fun k => match k with
  | 0 => ("TideMillModel", "hour", "I", false)
  | 1 => ("TideMillModel", "round", "I", false)
  | 2 => ("TideMillModel", "heights", "[I", true)
  | 3 => ("TideMillModel", "ponds", "I", false)
  | 4 => ("TideMillModel", "areaOf", "[I", true)
  | 5 => ("TideMillModel", "bankOf", "[I", true)
  | 6 => ("TideMillModel", "widthOf", "[I", true)
  | 7 => ("TideMillModel", "gateOf", "[I", true)
  | 8 => ("TideMillModel", "waters", "[I", true)
  | 9 => ("TideMillModel", "channels", "I", false)
  | 10 => ("TideMillModel", "oneEnd", "[I", true)
  | 11 => ("TideMillModel", "otherEnd", "[I", true)
  | 12 => ("TideMillModel", "wideOf", "[I", true)
  | 13 => ("TideMillModel", "mills", "I", false)
  | 14 => ("TideMillModel", "kindOf", "[I", true)
  | 15 => ("TideMillModel", "pondOf", "[I", true)
  | 16 => ("TideMillModel", "rankOf", "[I", true)
  | 17 => ("TideMillModel", "keepsOf", "[I", true)
  | 18 => ("TideMillModel", "customerOf", "[I", true)
  | 19 => ("TideMillModel", "stones", "[I", true)
  | 20 => ("TideMillModel", "least", "[I", true)
  | 21 => ("TideMillModel", "draw", "[I", true)
  | 22 => ("TideMillModel", "rate", "[I", true)
  | 23 => ("TideMillModel", "most", "[I", true)
  | 24 => ("TideMillModel", "on", "I", false)
  | 25 => ("TideMillModel", "sacks", "[I", true)
  | 26 => ("TideMillModel", "row", "[I", true)
  | 27 => ("TideMillModel", "account", "[J", true)
  | 28 => ("TideMillModel", "flour", "[J", true)
  | 29 => ("TideMillModel", "flows", "[J", true)
  | 30 => ("TideMillModel", "tells", "I", false)
  | 31 => ("TideMillModel", "told", "[I", true)
  | 32 => ("TideMillModel", "findings", "[J", true)
  | 33 => ("TideMillModel", "ahead", "[I", true)
  | 34 => ("TideMillModel", "ran", "I", false)
  | 35 => ("TideMillModel", "grinds", "[J", true)
  | _ => ("TideMillModel", "isMeant", "Z", false)
def tyX10 : Nat → FieldType := fun k => match k with
  | 0 => .int
  | 1 => .int
  | 2 => .array .int
  | 3 => .int
  | 4 => .array .int
  | 5 => .array .int
  | 6 => .array .int
  | 7 => .array .int
  | 8 => .array .int
  | 9 => .int
  | 10 => .array .int
  | 11 => .array .int
  | 12 => .array .int
  | 13 => .int
  | 14 => .array .int
  | 15 => .array .int
  | 16 => .array .int
  | 17 => .array .int
  | 18 => .array .int
  | 19 => .array .int
  | 20 => .array .int
  | 21 => .array .int
  | 22 => .array .int
  | 23 => .array .int
  | 24 => .int
  | 25 => .array .int
  | 26 => .array .int
  | 27 => .array .long
  | 28 => .array .long
  | 29 => .array .long
  | 30 => .int
  | 31 => .array .int
  | 32 => .array .long
  | 33 => .array .int
  | 34 => .int
  | 35 => .array .long
  | _ => .boolean
def RJ6 : String := "java/lang/Integer"
def RL : String := "TideMillLaw"
def lw_good : List Cond := lw_tbl.filter goodWord
def RN (k : Nat) : String := [RX0, RX1, RX2, RX3, RX4, RX5, RX6, RX7, RX8, RX9, RX10, RL, RJ6].getD k RX0
def TN (k : Nat) : u_T := [TX0, TX1, TX2, TX3, TX4, TX5, TX6, TX7, TX8, TX9, TX10].getD k TX0
def tyN (k : Nat) : Nat → FieldType := [tyX0, tyX1, tyX2, tyX3, tyX4, tyX5, tyX6, tyX7, tyX8, tyX9, tyX10].getD k tyX0
def nfN (k : Nat) : Nat := [3, 6, 15, 4, 4, 8, 5, 2, 7, 16, 37].getD k 0
def mCl : List vw_C := (List.range 11).map (fun k => (RN k, TN k, nfN k))
/-- the methods: name, bytes, locals, answer, kl number, parameters -/
def mTab : List (MethodName × ByteArray × Nat × Option FieldType × Nat × Nat) := [
  (⟨RX0, "<init>", "()V"⟩, prog_2_method_1_code, 1, none, 0, 0),
  (⟨RX1, "<init>", "(LTideMill$Works;)V"⟩, prog_3_method_1_code, 2, none, 1, 1),
  (⟨RX1, "goBy", "([III)V"⟩, prog_3_method_2_code, 4, none, 1, 3),
  (⟨RX1, "passGates", "([II)V"⟩, prog_3_method_3_code, 6, none, 1, 2),
  (⟨RX1, "passChannels", "([I)V"⟩, prog_3_method_4_code, 6, none, 1, 1),
  (⟨RX1, "lead", "([IIII)V"⟩, prog_3_method_5_code, 9, none, 1, 4),
  (⟨RX1, "runMills", "([III)V"⟩, prog_3_method_6_code, 6, none, 1, 3),
  (⟨RX1, "runStones", "([III)V"⟩, prog_3_method_7_code, 11, none, 1, 3),
  (⟨RX1, "spillBanks", "([I)V"⟩, prog_3_method_8_code, 4, none, 1, 1),
  (⟨RX1, "groundBy", "(I)I"⟩, prog_3_method_9_code, 4, (some .int), 1, 1),
  (⟨RX1, "stonesThatRan", "(I)I"⟩, prog_3_method_10_code, 4, (some .int), 1, 1),
  (⟨RX2, "<init>", "()V"⟩, prog_4_method_1_code, 2, none, 2, 0),
  (⟨RX2, "isOf", "(I)Z"⟩, prog_4_method_2_code, 2, (some .boolean), 2, 1),
  (⟨RX2, "take", "(II[I)V"⟩, prog_4_method_3_code, 8, none, 2, 3),
  (⟨RX2, "finishFirst", "(I[I)V"⟩, prog_4_method_4_code, 6, none, 2, 2),
  (⟨RX3, "<init>", "()V"⟩, prog_5_method_1_code, 1, none, 3, 0),
  (⟨RX3, "level", "(I)I"⟩, prog_5_method_2_code, 2, (some .int), 3, 1),
  (⟨RX3, "brim", "()I"⟩, prog_5_method_3_code, 1, (some .int), 3, 0),
  (⟨RX3, "comesIn", "(II)I"⟩, prog_5_method_4_code, 4, (some .int), 3, 2),
  (⟨RX3, "goesOut", "(II)I"⟩, prog_5_method_5_code, 4, (some .int), 3, 2),
  (⟨RX4, "<init>", "()V"⟩, prog_6_method_1_code, 1, none, 4, 0),
  (⟨RX5, "<init>", "(LTideMill$Works;LTideMill$Tides;)V"⟩, prog_7_method_1_code, 3, none, 5, 2),
  (⟨RX5, "start", "(III[I)V"⟩, prog_7_method_2_code, 5, none, 5, 4),
  (⟨RX5, "goWith", "(I)I"⟩, prog_7_method_3_code, 2, (some .int), 5, 1),
  (⟨RX5, "goWithout", "(I)V"⟩, prog_7_method_4_code, 2, none, 5, 1),
  (⟨RX5, "goOn", "(II)V"⟩, prog_7_method_5_code, 3, none, 5, 2),
  (⟨RX5, "keepIfBetter", "(II)V"⟩, prog_7_method_6_code, 5, none, 5, 2),
  (⟨RX6, "<init>", "()V"⟩, prog_8_method_1_code, 1, none, 6, 0),
  (⟨RX6, "runs", "(III)Z"⟩, prog_8_method_2_code, 4, (some .boolean), 6, 3),
  (⟨RX6, "grinds", "(I)I"⟩, prog_8_method_3_code, 2, (some .int), 6, 1),
  (⟨RX7, "<init>", "()V"⟩, prog_9_method_1_code, 2, none, 7, 0),
  (⟨RX7, "at", "(I)I"⟩, prog_9_method_2_code, 2, (some .int), 7, 1),
  (⟨RX8, "<init>", "()V"⟩, prog_10_method_1_code, 2, none, 8, 0),
  (⟨RX8, "putInOrder", "(I)V"⟩, prog_10_method_2_code, 3, none, 8, 1),
  (⟨RX8, "millsAt", "(I)I"⟩, prog_10_method_3_code, 4, (some .int), 8, 1),
  (⟨RX8, "sacksWaiting", "()I"⟩, prog_10_method_4_code, 3, (some .int), 8, 0),
  (⟨RX8, "keptFrom", "(LTideMill$Mill;)I"⟩, prog_10_method_5_code, 5, (some .int), 8, 1),
  (⟨RX9, "<init>", "()V"⟩, prog_1_method_1_code, 1, none, 9, 0),
  (⟨RX9, "round", "(I)I"⟩, prog_1_method_2_code, 3, (some .int), 9, 1),
  (⟨RX9, "height", "(II)I"⟩, prog_1_method_3_code, 4, (some .int), 9, 2),
  (⟨RX9, "tide", "(I)I"⟩, prog_1_method_4_code, 2, (some .int), 9, 1),
  (⟨RX9, "pond", "(III)I"⟩, prog_1_method_5_code, 6, (some .int), 9, 3),
  (⟨RX9, "gate", "(II)I"⟩, prog_1_method_6_code, 4, (some .int), 9, 2),
  (⟨RX9, "water", "(II)I"⟩, prog_1_method_7_code, 4, (some .int), 9, 2),
  (⟨RX9, "channel", "(III)I"⟩, prog_1_method_8_code, 6, (some .int), 9, 3),
  (⟨RX9, "widen", "(II)I"⟩, prog_1_method_9_code, 4, (some .int), 9, 2),
  (⟨RX9, "about", "(II)I"⟩, prog_1_method_10_code, 4, (some .int), 9, 2),
  (⟨RX9, "mill", "(IIIII)I"⟩, prog_1_method_11_code, 8, (some .int), 9, 5),
  (⟨RX9, "as", "(II)I"⟩, prog_1_method_12_code, 3, (some .int), 9, 2),
  (⟨RX9, "stone", "(IIIII)I"⟩, prog_1_method_13_code, 9, (some .int), 9, 5),
  (⟨RX9, "on", "(III)I"⟩, prog_1_method_14_code, 6, (some .int), 9, 3),
  (⟨RX9, "sack", "(IIII)I"⟩, prog_1_method_15_code, 7, (some .int), 9, 4),
  (⟨RX9, "row", "(III)I"⟩, prog_1_method_16_code, 6, (some .int), 9, 3),
  (⟨RX9, "told", "(II)I"⟩, prog_1_method_17_code, 4, (some .int), 9, 2),
  (⟨RX9, "flour", "(I)I"⟩, prog_1_method_18_code, 2, (some .int), 9, 1),
  (⟨RX9, "hours", "(I)I"⟩, prog_1_method_19_code, 4, (some .int), 9, 1),
  (⟨RX9, "running", "()I"⟩, prog_1_method_20_code, 3, (some .int), 9, 0),
  (⟨RX9, "best", "(III)I"⟩, prog_1_method_21_code, 4, (some .int), 9, 3),
  (⟨RX9, "ahead", "(II)I"⟩, prog_1_method_22_code, 4, (some .int), 9, 2),
  (⟨RX9, "all", "(I)I"⟩, prog_1_method_23_code, 2, (some .int), 9, 1),
  (⟨RX9, "tell", "(I)I"⟩, prog_1_method_24_code, 2, (some .int), 9, 1),
  (⟨RX9, "check", "(I)I"⟩, prog_1_method_25_code, 4, (some .int), 9, 1),
  (⟨RX9, "count", "(I)I"⟩, prog_1_method_26_code, 2, (some .int), 9, 1),
  (⟨RX9, "found", "(I)I"⟩, prog_1_method_27_code, 2, (some .int), 9, 1),
  (⟨RX9, "finding", "(I)I"⟩, prog_1_method_28_code, 2, (some .int), 9, 1),
  (⟨RX9, "isWithin", "(III)Z"⟩, prog_1_method_29_code, 3, (some .boolean), 9, 3),
  (⟨RX9, "isWidth", "(I)Z"⟩, prog_1_method_30_code, 1, (some .boolean), 9, 1),
  (⟨RX9, "isKind", "(I)Z"⟩, prog_1_method_31_code, 1, (some .boolean), 9, 1),
  (⟨RX9, "isCustomer", "(I)Z"⟩, prog_1_method_32_code, 1, (some .boolean), 9, 1),
  (⟨RX9, "isCustomerOfKind", "(II)Z"⟩, prog_1_method_33_code, 2, (some .boolean), 9, 2),
  (⟨RX9, "isPond", "(I)Z"⟩, prog_1_method_34_code, 2, (some .boolean), 9, 1),
  (⟨RX9, "isMill", "(I)Z"⟩, prog_1_method_35_code, 2, (some .boolean), 9, 1),
  (⟨RX9, "waterInPonds", "()I"⟩, prog_1_method_36_code, 3, (some .int), 9, 0),
  (⟨RX9, "countWater", "()V"⟩, prog_1_method_37_code, 1, none, 9, 0),
  (⟨RX9, "handOutGround", "()I"⟩, prog_1_method_38_code, 5, (some .int), 9, 0),
  (⟨RX9, "startLater", "()V"⟩, prog_1_method_39_code, 1, none, 9, 0),
  (⟨RX9, "searchFrom", "(LTideMill$Search;III)V"⟩, prog_1_method_40_code, 5, none, 9, 4),
  (⟨RX9, "cut", "(II)I"⟩, prog_1_method_41_code, 2, (some .int), 9, 2),
  (⟨RX10, "<init>", "()V"⟩, prog_12_method_1_code, 2, none, 10, 0),
  (⟨RX10, "finding", "(J)J"⟩, prog_12_method_2_code, 3, (some .long), 10, 1),
  (⟨RX10, "within", "(III)Z"⟩, prog_12_method_3_code, 3, (some .boolean), 10, 3),
  (⟨RX10, "isPond", "(I)Z"⟩, prog_12_method_4_code, 2, (some .boolean), 10, 1),
  (⟨RX10, "isMill", "(I)Z"⟩, prog_12_method_5_code, 2, (some .boolean), 10, 1),
  (⟨RX10, "round", "(I)J"⟩, prog_12_method_6_code, 3, (some .long), 10, 1),
  (⟨RX10, "height", "(II)J"⟩, prog_12_method_7_code, 4, (some .long), 10, 2),
  (⟨RX10, "tideOf", "(I)I"⟩, prog_12_method_8_code, 2, (some .int), 10, 1),
  (⟨RX10, "tide", "(I)J"⟩, prog_12_method_9_code, 2, (some .long), 10, 1),
  (⟨RX10, "pond", "(III)J"⟩, prog_12_method_10_code, 4, (some .long), 10, 3),
  (⟨RX10, "gate", "(II)J"⟩, prog_12_method_11_code, 4, (some .long), 10, 2),
  (⟨RX10, "water", "(II)J"⟩, prog_12_method_12_code, 4, (some .long), 10, 2),
  (⟨RX10, "channel", "(III)J"⟩, prog_12_method_13_code, 4, (some .long), 10, 3),
  (⟨RX10, "widen", "(II)J"⟩, prog_12_method_14_code, 4, (some .long), 10, 2),
  (⟨RX10, "about", "(II)J"⟩, prog_12_method_15_code, 5, (some .long), 10, 2),
  (⟨RX10, "mill", "(IIIII)J"⟩, prog_12_method_16_code, 6, (some .long), 10, 5),
  (⟨RX10, "as", "(II)J"⟩, prog_12_method_17_code, 3, (some .long), 10, 2),
  (⟨RX10, "stone", "(IIIII)J"⟩, prog_12_method_18_code, 7, (some .long), 10, 5),
  (⟨RX10, "on", "(III)J"⟩, prog_12_method_19_code, 6, (some .long), 10, 3),
  (⟨RX10, "sack", "(IIII)J"⟩, prog_12_method_20_code, 6, (some .long), 10, 4),
  (⟨RX10, "row", "(III)J"⟩, prog_12_method_21_code, 4, (some .long), 10, 3),
  (⟨RX10, "told", "(II)J"⟩, prog_12_method_22_code, 4, (some .long), 10, 2),
  (⟨RX10, "flour", "(I)J"⟩, prog_12_method_23_code, 2, (some .long), 10, 1),
  (⟨RX10, "flows", "(II)V"⟩, prog_12_method_24_code, 3, none, 10, 2),
  (⟨RX10, "gates", "([II)V"⟩, prog_12_method_25_code, 7, none, 10, 2),
  (⟨RX10, "evens", "([I)V"⟩, prog_12_method_26_code, 10, none, 10, 1),
  (⟨RX10, "keptFor", "(I)I"⟩, prog_12_method_27_code, 4, (some .int), 10, 1),
  (⟨RX10, "turns", "([III)V"⟩, prog_12_method_28_code, 7, none, 10, 3),
  (⟨RX10, "turn", "([IIIII)V"⟩, prog_12_method_29_code, 9, none, 10, 5),
  (⟨RX10, "gives", "(II)V"⟩, prog_12_method_30_code, 7, none, 10, 2),
  (⟨RX10, "done", "(II)V"⟩, prog_12_method_31_code, 5, none, 10, 2),
  (⟨RX10, "spills", "([I)V"⟩, prog_12_method_32_code, 4, none, 10, 1),
  (⟨RX10, "goes", "([IIIZ)V"⟩, prog_12_method_33_code, 6, none, 10, 4),
  (⟨RX10, "begin", "()V"⟩, prog_12_method_34_code, 2, none, 10, 0),
  (⟨RX10, "hours", "(I)J"⟩, prog_12_method_35_code, 6, (some .long), 10, 1),
  (⟨RX10, "running", "()J"⟩, prog_12_method_36_code, 1, (some .long), 10, 0),
  (⟨RX10, "best", "(III)J"⟩, prog_12_method_37_code, 14, (some .long), 10, 3),
  (⟨RX10, "ahead", "(II)J"⟩, prog_12_method_38_code, 4, (some .long), 10, 2),
  (⟨RX10, "all", "(I)J"⟩, prog_12_method_39_code, 5, (some .long), 10, 1),
  (⟨RX10, "tell", "(I)J"⟩, prog_12_method_40_code, 2, (some .long), 10, 1),
  (⟨RX10, "check", "(I)J"⟩, prog_12_method_41_code, 4, (some .long), 10, 1),
  (⟨RX10, "count", "(I)J"⟩, prog_12_method_42_code, 4, (some .long), 10, 1),
  (⟨RX10, "found", "(I)J"⟩, prog_12_method_43_code, 2, (some .long), 10, 1),
  (⟨RJ6, "bitCount", "(I)I"⟩, prog_13_method_49_code, 1, (some .int), 12, 1),
  (⟨RL, "law", "([I)Z"⟩, code, 4, (some .boolean), 11, 1)]
def mDft : MethodName × ByteArray × Nat × Option FieldType × Nat × Nat := (⟨RX0, "", ""⟩, ⟨#[]⟩, 0, none, 0, 0)
def yn (k : Nat) : MethodName := (mTab.getD k mDft).1
def cd (k : Nat) : ByteArray := (mTab.getD k mDft).2.1
def mx (k : Nat) : Nat := (mTab.getD k mDft).2.2.1
def mrt (k : Nat) : Option FieldType := (mTab.getD k mDft).2.2.2.1
def ow (k : Nat) : Nat := (mTab.getD k mDft).2.2.2.2.1
def na (k : Nat) : Nat := (mTab.getD k mDft).2.2.2.2.2
/-- field links: (kl number, pool place, kl number, slot) -/
def fL : List (Nat × Nat × Nat × Nat) := [(7, 9, 7, 0), (9, 90, 7, 0), (7, 15, 7, 1), (9, 87, 7, 1), (3, 9, 3, 0), (1, 91, 3, 0), (8, 64, 3, 0), (9, 107, 3, 0), (3, 15, 3, 1), (9, 112, 3, 1), (3, 18, 3, 2), (9, 115, 3, 2), (3, 21, 3, 3), (9, 121, 3, 3), (0, 7, 0, 0), (1, 72, 0, 0), (9, 135, 0, 0), (0, 13, 0, 1), (1, 81, 0, 1), (9, 140, 0, 1), (0, 16, 0, 2), (1, 84, 0, 2), (9, 143, 0, 2), (6, 7, 6, 0), (9, 198, 6, 0), (6, 13, 6, 1), (1, 137, 6, 1), (9, 203, 6, 1), (6, 16, 6, 2), (9, 206, 6, 2), (6, 19, 6, 3), (9, 209, 6, 3), (6, 22, 6, 4), (9, 212, 6, 4), (4, 7, 4, 0), (2, 84, 4, 0), (9, 226, 4, 0), (4, 13, 4, 1), (2, 78, 4, 1), (9, 229, 4, 1), (4, 16, 4, 2), (2, 65, 4, 2), (9, 232, 4, 2), (4, 19, 4, 3), (2, 81, 4, 3), (9, 235, 4, 3), (2, 11, 2, 0), (1, 127, 2, 0), (9, 194, 2, 0), (2, 19, 2, 1), (9, 222, 2, 1), (2, 23, 2, 2), (9, 164, 2, 2), (2, 27, 2, 3), (8, 49, 2, 3), (1, 115, 2, 3), (9, 169, 2, 3), (2, 30, 2, 4), (8, 46, 2, 4), (9, 172, 2, 4), (2, 33, 2, 5), (8, 55, 2, 5), (9, 175, 2, 5), (2, 36, 2, 6), (9, 178, 2, 6), (2, 39, 2, 7), (1, 124, 2, 7), (9, 191, 2, 7), (2, 42, 2, 8), (8, 52, 2, 8), (9, 219, 2, 8), (2, 45, 2, 9), (9, 238, 2, 9), (2, 48, 2, 10), (9, 241, 2, 10), (2, 51, 2, 11), (9, 244, 2, 11), (2, 54, 2, 12), (9, 247, 2, 12), (2, 57, 2, 13), (9, 250, 2, 13), (2, 60, 2, 14), (9, 253, 2, 14), (8, 11, 8, 0), (1, 52, 8, 0), (9, 103, 8, 0), (8, 19, 8, 1), (1, 68, 8, 1), (9, 131, 8, 1), (8, 25, 8, 2), (1, 111, 8, 2), (9, 160, 8, 2), (8, 29, 8, 3), (1, 105, 8, 3), (8, 33, 8, 4), (1, 47, 8, 4), (9, 100, 8, 4), (8, 37, 8, 5), (1, 65, 8, 5), (9, 128, 8, 5), (8, 40, 8, 6), (1, 102, 8, 6), (9, 157, 8, 6), (1, 28, 1, 0), (1, 9, 1, 1), (9, 269, 1, 1), (1, 15, 1, 2), (9, 292, 1, 2), (1, 19, 1, 3), (9, 293, 1, 3), (1, 22, 1, 4), (9, 294, 1, 4), (1, 25, 1, 5), (9, 295, 1, 5), (5, 37, 5, 0), (5, 41, 5, 1), (5, 11, 5, 2), (5, 16, 5, 3), (5, 20, 5, 4), (9, 312, 5, 4), (5, 23, 5, 5), (5, 26, 5, 6), (9, 279, 5, 6), (5, 29, 5, 7), (9, 282, 5, 7), (9, 10, 9, 0), (9, 19, 9, 1), (9, 28, 9, 2), (9, 37, 9, 3), (9, 41, 9, 4), (9, 45, 9, 5), (9, 48, 9, 6), (9, 51, 9, 7), (9, 54, 9, 8), (9, 57, 9, 9), (9, 61, 9, 10), (9, 64, 9, 11), (9, 67, 9, 12), (9, 70, 9, 13), (9, 73, 9, 14), (9, 76, 9, 15), (10, 147, 10, 0), (10, 9, 10, 1), (10, 13, 10, 2), (10, 111, 10, 3), (10, 17, 10, 4), (10, 20, 10, 5), (10, 23, 10, 6), (10, 26, 10, 7), (10, 29, 10, 8), (10, 136, 10, 9), (10, 32, 10, 10), (10, 35, 10, 11), (10, 38, 10, 12), (10, 118, 10, 13), (10, 41, 10, 14), (10, 44, 10, 15), (10, 47, 10, 16), (10, 50, 10, 17), (10, 53, 10, 18), (10, 56, 10, 19), (10, 59, 10, 20), (10, 62, 10, 21), (10, 65, 10, 22), (10, 68, 10, 23), (10, 144, 10, 24), (10, 71, 10, 25), (10, 74, 10, 26), (10, 77, 10, 27), (10, 81, 10, 28), (10, 84, 10, 29), (10, 204, 10, 30), (10, 87, 10, 31), (10, 90, 10, 32), (10, 93, 10, 33), (10, 164, 10, 34), (10, 96, 10, 35), (10, 154, 10, 36)]
/-- method links: (kl number, pool place, kind, method) -/
def mLk : List (Nat × Nat × Nat × Nat) := [(11, 9, 2, 37), (9, 1, 5, 0), (9, 9, 2, 30), (7, 3, 5, 0), (7, 19, 8, 0), (7, 25, 6, 0), (9, 18, 2, 32), (8, 3, 5, 0), (8, 43, 4, 15), (3, 3, 5, 0), (8, 44, 4, 0), (0, 1, 5, 0), (8, 45, 2, 11), (2, 3, 5, 0), (2, 63, 4, 27), (6, 1, 5, 0), (2, 64, 4, 20), (4, 1, 5, 0), (9, 25, 2, 1), (1, 3, 5, 0), (9, 34, 2, 21), (5, 3, 5, 0), (5, 34, 2, 1), (11, 13, 0, 38), (9, 79, 1, 65), (9, 83, 0, 64), (11, 20, 0, 39), (11, 27, 0, 40), (9, 93, 0, 31), (11, 32, 0, 41), (9, 96, 1, 66), (11, 39, 0, 42), (9, 118, 0, 70), (11, 44, 0, 43), (9, 124, 0, 17), (11, 49, 0, 44), (11, 54, 0, 45), (11, 59, 0, 46), (9, 144, 0, 16), (3, 24, 3, 77), (9, 147, 0, 34), (11, 64, 0, 47), (9, 150, 1, 67), (9, 153, 1, 69), (9, 216, 1, 68), (9, 181, 0, 33), (11, 71, 0, 48), (9, 185, 0, 71), (9, 188, 0, 12), (11, 76, 0, 49), (11, 81, 0, 50), (11, 86, 0, 51), (11, 93, 0, 52), (11, 98, 0, 53), (11, 103, 0, 54), (11, 108, 0, 55), (9, 256, 0, 2), (1, 32, 0, 3), (1, 56, 0, 18), (3, 28, 0, 16), (3, 32, 7, 0), (1, 62, 0, 19), (1, 36, 0, 4), (1, 77, 0, 16), (1, 87, 0, 5), (1, 94, 3, 77), (1, 97, 7, 0), (1, 40, 0, 6), (1, 108, 0, 7), (1, 120, 0, 36), (8, 58, 6, 0), (1, 131, 0, 28), (1, 140, 0, 29), (6, 26, 7, 0), (1, 44, 0, 8), (1, 143, 0, 17), (9, 260, 0, 73), (9, 263, 0, 74), (9, 296, 0, 10), (9, 299, 0, 9), (9, 302, 0, 13), (2, 68, 7, 0), (2, 74, 0, 14), (2, 85, 3, 68), (11, 113, 0, 56), (9, 266, 0, 75), (9, 306, 9, 0), (11, 120, 0, 57), (9, 271, 0, 22), (5, 45, 9, 0), (9, 275, 1, 76), (9, 315, 0, 26), (5, 68, 1, 121), (9, 319, 0, 23), (5, 51, 0, 25), (5, 59, 0, 31), (5, 64, 0, 2), (5, 55, 0, 9), (9, 322, 0, 24), (11, 125, 0, 58), (11, 130, 0, 59), (9, 285, 0, 72), (11, 135, 0, 60), (11, 140, 0, 61), (11, 145, 0, 62), (9, 288, 0, 35), (11, 150, 0, 63), (11, 12, 2, 78), (10, 3, 5, 0), (10, 99, 8, 0), (10, 105, 6, 0), (11, 17, 0, 83), (10, 114, 1, 80), (10, 123, 0, 79), (11, 24, 0, 84), (11, 30, 0, 86), (10, 127, 0, 85), (11, 36, 0, 87), (11, 42, 0, 88), (10, 132, 0, 81), (11, 47, 0, 89), (11, 52, 0, 90), (11, 57, 0, 91), (11, 62, 0, 92), (11, 68, 0, 93), (11, 74, 0, 94), (10, 139, 0, 82), (11, 79, 0, 95), (11, 84, 0, 96), (11, 90, 0, 97), (11, 96, 0, 98), (11, 101, 0, 99), (11, 106, 0, 100), (11, 111, 0, 112), (10, 195, 0, 110), (10, 180, 0, 102), (10, 158, 7, 0), (10, 161, 0, 101), (10, 184, 0, 103), (10, 188, 0, 105), (10, 167, 0, 106), (10, 171, 0, 104), (10, 174, 0, 107), (10, 177, 0, 108), (10, 192, 0, 109), (11, 117, 0, 113), (10, 199, 0, 111), (11, 123, 0, 114), (11, 128, 0, 115), (11, 133, 0, 116), (11, 138, 0, 117), (11, 143, 0, 118), (11, 148, 0, 119), (11, 153, 0, 120)]
def cL : List (Nat × Nat × Int32) := [(9, 291, -1000000000), (12, 265, 1431655765), (12, 266, 858993459), (12, 267, 252645135)]
def cJ : List (Nat × Nat × Int64) := [(10, 121, -1000000001), (10, 109, -1000000000), (10, 130, -1000000004), (10, 142, -1000000005), (10, 150, -1000000003), (10, 152, -1000000002), (10, 202, -1)]
/-- kl links of new and anewarray: (kl number, pool place, kl number) -/
def nL : List (Nat × Nat × Nat) := [(11, 7, 9), (9, 7, 7), (9, 16, 8), (8, 9, 3), (8, 17, 0), (8, 23, 2), (2, 9, 6), (2, 17, 4), (9, 23, 1), (9, 32, 5), (5, 32, 1), (11, 10, 10)]
def nestL : List Cond := [.methodLinkNest (RN 8) 43 (yn 15) "TideMill", .methodLinkNest (RN 8) 44 (yn 0) "TideMill", .methodLinkNest (RN 2) 63 (yn 27) "TideMill", .methodLinkNest (RN 2) 64 (yn 20) "TideMill", .methodLinkNest (RN 3) 24 (yn 77) "TideMill", .methodLinkNest (RN 1) 94 (yn 77) "TideMill", .methodLinkNest (RN 2) 85 (yn 68) "TideMill"]
end
section
-- what the tables hold of the names: closed facts, by the kernel (gen_checks.py)
theorem nmN : ∀ ci, ci < 11 → ∀ a, a < nfN ci → ∀ b, b < nfN ci → a ≠ b → (TN ci a).2.1 ≠ (TN ci b).2.1 := by decide +kernel
theorem tyN_ok : ∀ ci, ci < 11 → ∀ k, k < nfN ci → parseFieldDescriptor (TN ci k).2.2.1 = some (tyN ci k) := by decide +kernel
theorem lw_inP {ws : List Cond} (ps : List Nat) (h : ws = ps.filterMap (fun i => lw_tbl[i]?)) : ∀ w ∈ ws, w ∈ lw_tbl := by
  intro w hw
  rw [h] at hw
  obtain ⟨i, -, hi⟩ := List.mem_filterMap.mp hw
  exact List.mem_of_getElem? hi
theorem lw_goodP {ws : List Cond} (ps : List Nat) (h : ws = ps.filterMap (fun i => lw_tbl[i]?)) (g : ws.all goodWord = true) : ∀ w ∈ ws, w ∈ lw_good := fun w hw => List.mem_filter.mpr ⟨lw_inP ps h w hw, List.all_eq_true.mp g w hw⟩
theorem lw_good_in {w : Cond} (h : w ∈ lw_good) : w ∈ lw_tbl := (List.mem_filter.mp h).1
theorem lw_good_g {w : Cond} (h : w ∈ lw_good) : goodWord w = true := (List.mem_filter.mp h).2
theorem inN : ∀ ci, ci < 11 → ∀ w ∈ u_ws (RN ci) (TN ci) (nfN ci), w ∈ lw_good := fun ci hc w hw => lw_goodP (ws := (List.range 11).flatMap (fun ci => u_ws (RN ci) (TN ci) (nfN ci))) [117, 119, 121, 306, 308, 310, 312, 314, 316, 223, 225, 227, 229, 231, 233, 235, 237, 239, 241, 243, 245, 247, 249, 251, 94, 96, 98, 100, 177, 179, 181, 183, 340, 342, 344, 346, 348, 350, 352, 354, 149, 151, 153, 155, 157, 61, 63, 274, 276, 278, 280, 282, 284, 286, 373, 375, 377, 379, 381, 383, 385, 387, 389, 391, 393, 395, 397, 399, 401, 403, 742, 744, 746, 748, 750, 752, 754, 756, 758, 760, 762, 764, 766, 768, 770, 772, 774, 776, 778, 780, 782, 784, 786, 788, 790, 792, 794, 796, 798, 800, 802, 804, 806, 808, 810, 812, 814] (by decide +kernel) (by decide +kernel) w (List.mem_flatMap.mpr ⟨ci, List.mem_range.mpr hc, hw⟩)
def fCond (q : Nat × Nat × Nat × Nat) : Cond := .fieldLink (RN q.1) q.2.1 (TN q.2.2.1 q.2.2.2).1 (TN q.2.2.1 q.2.2.2).2.1 (TN q.2.2.1 q.2.2.2).2.2.1
theorem fL_ok1 : ∀ q ∈ fL, q.2.2.1 < 11 ∧ q.2.2.2 < nfN q.2.2.1 := by decide +kernel
theorem fL_ok : ∀ q ∈ fL, fCond q ∈ lw_good := fun q hq => lw_goodP (ws := fL.map fCond) [57, 58, 59, 60, 84, 85, 86, 87, 88, 89, 90, 91, 92, 93, 108, 109, 110, 111, 112, 113, 114, 115, 116, 138, 139, 140, 141, 142, 143, 144, 145, 146, 147, 148, 165, 166, 167, 168, 169, 170, 171, 172, 173, 174, 175, 176, 186, 187, 188, 189, 190, 191, 192, 193, 194, 195, 196, 197, 198, 199, 200, 201, 202, 203, 204, 205, 206, 207, 208, 209, 210, 211, 212, 213, 214, 215, 216, 217, 218, 219, 220, 221, 222, 254, 255, 256, 257, 258, 259, 260, 261, 262, 263, 264, 265, 266, 267, 268, 269, 270, 271, 272, 273, 295, 296, 297, 298, 299, 300, 301, 302, 303, 304, 305, 329, 330, 331, 332, 333, 334, 335, 336, 337, 338, 339, 357, 358, 359, 360, 361, 362, 363, 364, 365, 366, 367, 368, 369, 370, 371, 372, 705, 706, 707, 708, 709, 710, 711, 712, 713, 714, 715, 716, 717, 718, 719, 720, 721, 722, 723, 724, 725, 726, 727, 728, 729, 730, 731, 732, 733, 734, 735, 736, 737, 738, 739, 740, 741] (by decide +kernel) (by decide +kernel) _ (List.mem_map.mpr ⟨q, hq, rfl⟩)
def mKinds (q : Nat × Nat × Nat × Nat) : List Cond :=
  if q.2.2.1 = 0 then [.methodLink (RN q.1) q.2.1 (yn q.2.2.2), .instanceMethod (yn q.2.2.2), .selects (RN (ow q.2.2.2)) (yn q.2.2.2) (yn q.2.2.2), .initialized (RN (ow q.2.2.2))]
  else if q.2.2.1 = 1 then [.methodLink (RN q.1) q.2.1 (yn q.2.2.2), .static (yn q.2.2.2), .initialized (RN (ow q.2.2.2))]
  else if q.2.2.1 = 2 then [.methodLink (RN q.1) q.2.1 (yn q.2.2.2), .instanceMethod (yn q.2.2.2), .initialized (RN (ow q.2.2.2))]
  else if q.2.2.1 = 3 then [.static (yn q.2.2.2), .initialized (RN (ow q.2.2.2))]
  else if q.2.2.1 = 4 then [.instanceMethod (yn q.2.2.2), .initialized (RN (ow q.2.2.2))]
  else if q.2.2.1 = 5 then [.methodLink (RN q.1) q.2.1 Lib.objectInit, .instanceMethod Lib.objectInit]
  else if q.2.2.1 = 6 then [.methodLink (RN q.1) q.2.1 Lib.Math.max.name, .static Lib.Math.max.name, .initialized "java/lang/Math"]
  else if q.2.2.1 = 7 then [.methodLink (RN q.1) q.2.1 Lib.Math.min.name, .static Lib.Math.min.name, .initialized "java/lang/Math"]
  else if q.2.2.1 = 8 then [.methodLink (RN q.1) q.2.1 Lib.Math.abs.name, .static Lib.Math.abs.name, .initialized "java/lang/Math"]
  else if q.2.2.1 = 9 then [.methodLink (RN q.1) q.2.1 arraycopyName, .native arraycopyName, .static arraycopyName, .initialized "java/lang/System"]
  else []
theorem mLk_ok : ∀ q ∈ mLk, ∀ w ∈ mKinds q, w ∈ lw_good := fun q hq w hw => lw_goodP (ws := mLk.flatMap mKinds) [39, 40, 23, 42, 43, 47, 48, 24, 50, 43, 51, 52, 25, 54, 55, 25, 69, 70, 26, 72, 43, 81, 27, 83, 43, 105, 28, 107, 43, 125, 126, 29, 128, 43, 135, 30, 137, 43, 162, 31, 164, 43, 291, 292, 32, 294, 43, 321, 322, 33, 324, 43, 328, 292, 32, 406, 407, 408, 23, 410, 411, 23, 413, 415, 0, 23, 418, 419, 420, 23, 422, 423, 424, 23, 426, 427, 428, 24, 430, 431, 432, 23, 434, 435, 23, 437, 438, 439, 23, 441, 443, 1, 23, 445, 446, 447, 23, 449, 450, 451, 27, 453, 454, 455, 23, 457, 458, 459, 23, 461, 462, 463, 23, 465, 466, 467, 27, 470, 23, 472, 473, 474, 26, 476, 477, 478, 23, 480, 481, 23, 483, 484, 23, 486, 487, 23, 489, 490, 491, 26, 493, 494, 495, 23, 497, 499, 2, 23, 501, 502, 503, 29, 505, 506, 507, 23, 509, 510, 511, 23, 513, 514, 515, 23, 517, 518, 519, 23, 521, 522, 523, 23, 525, 526, 527, 23, 529, 530, 531, 23, 533, 534, 535, 32, 537, 538, 539, 32, 541, 542, 543, 27, 545, 466, 467, 27, 546, 547, 25, 549, 550, 551, 27, 553, 554, 555, 32, 557, 466, 467, 27, 558, 559, 560, 32, 470, 23, 563, 547, 25, 564, 565, 566, 32, 568, 569, 570, 32, 572, 573, 574, 26, 576, 55, 25, 577, 578, 579, 30, 581, 582, 583, 30, 585, 547, 25, 586, 587, 588, 32, 590, 450, 451, 27, 591, 593, 3, 23, 595, 597, 4, 23, 599, 600, 601, 32, 603, 604, 605, 32, 607, 608, 609, 29, 611, 547, 25, 612, 613, 614, 29, 487, 23, 617, 618, 619, 23, 621, 623, 5, 23, 625, 627, 626, 35, 628, 629, 630, 23, 632, 633, 634, 33, 636, 627, 626, 35, 637, 638, 23, 640, 641, 642, 33, 644, 645, 36, 650, 651, 652, 33, 654, 655, 656, 33, 658, 427, 428, 24, 659, 534, 535, 32, 660, 604, 605, 32, 661, 662, 663, 33, 665, 666, 667, 23, 669, 670, 671, 23, 673, 675, 6, 23, 677, 678, 679, 23, 681, 682, 683, 23, 685, 686, 687, 23, 689, 690, 691, 26, 693, 694, 695, 23, 699, 700, 34, 702, 43, 703, 52, 25, 704, 55, 25, 818, 819, 820, 34, 822, 823, 34, 826, 828, 7, 34, 831, 832, 833, 34, 835, 836, 837, 34, 839, 841, 8, 34, 843, 844, 845, 34, 848, 849, 850, 34, 852, 854, 9, 34, 856, 857, 858, 34, 860, 861, 862, 34, 864, 865, 866, 34, 868, 869, 870, 34, 872, 873, 874, 34, 876, 877, 878, 34, 880, 882, 10, 34, 885, 886, 887, 34, 889, 890, 891, 34, 893, 894, 895, 34, 898, 899, 900, 34, 903, 904, 905, 34, 907, 908, 909, 34, 911, 912, 913, 34, 915, 917, 11, 34, 919, 921, 12, 34, 923, 547, 25, 924, 926, 13, 34, 928, 930, 14, 34, 932, 934, 15, 34, 936, 938, 16, 34, 940, 942, 17, 34, 944, 946, 18, 34, 948, 950, 19, 34, 952, 954, 20, 34, 956, 957, 958, 34, 960, 962, 21, 34, 964, 965, 966, 34, 969, 970, 971, 34, 973, 974, 975, 34, 977, 978, 979, 34, 981, 982, 983, 34, 985, 986, 987, 34, 989, 990, 991, 34] (by decide +kernel) (by decide +kernel) w (List.mem_flatMap.mpr ⟨q, hq, hw⟩)
theorem mLk_name : ∀ q ∈ mLk, q.2.2.1 ≤ 4 → q.2.2.2 < 122 ∧ ((q.2.2.1 = 2 ∨ q.2.2.1 = 4) → (yn q.2.2.2).name = "<init>" ∧ mrt q.2.2.2 = none) := by decide +kernel
theorem nestL_in : ∀ w ∈ nestL, w ∈ lw_tbl := lw_inP [80, 104, 134, 161, 469, 562, 616] (by decide +kernel)
theorem mLk_nest : ∀ q ∈ mLk, q.2.2.1 = 3 ∨ q.2.2.1 = 4 → Cond.methodLinkNest (RN q.1) q.2.1 (yn q.2.2.2) "TideMill" ∈ nestL := by decide +kernel
theorem yn_ok : ∀ k, k < 122 → plainName (yn k).cls = true ∧ (yn k).cls ≠ "java/lang/invoke/MethodHandle" ∧ (yn k).cls ≠ "java/lang/invoke/VarHandle" ∧ (parseMethodDescriptor (yn k).desc).map (fun d => d.parameters.length) = some (na k) ∧ mx k ≤ 20 ∧ (yn k).cls = RN (ow k) := by decide +kernel
theorem cL_ok : ∀ q ∈ cL, Cond.constant (RN q.1) q.2.1 q.2.2 ∈ lw_good := fun q hq => lw_goodP (ws := cL.map (fun q => Cond.constant (RN q.1) q.2.1 q.2.2)) [417, 647, 648, 649] (by decide +kernel) (by decide +kernel) _ (List.mem_map.mpr ⟨q, hq, rfl⟩)
theorem cJ_ok : ∀ q ∈ cJ, Cond.constantLong (RN q.1) q.2.1 q.2.2 ∈ lw_good := fun q hq => lw_goodP (ws := cJ.map (fun q => Cond.constantLong (RN q.1) q.2.1 q.2.2)) [825, 830, 847, 884, 897, 902, 968] (by decide +kernel) (by decide +kernel) _ (List.mem_map.mpr ⟨q, hq, rfl⟩)
def nCond (q : Nat × Nat × Nat) : List Cond := [Cond.classLink (RN q.1) q.2.1 (RN q.2.2), Cond.instantiable (RN q.2.2) (nfN q.2.2), Cond.initialized (RN q.2.2)]
theorem nL_ok1 : ∀ q ∈ nL, q.2.2 < 11 := by decide +kernel
theorem nL_ok : ∀ q ∈ nL, ∀ w ∈ nCond q, w ∈ lw_good := fun q hq w hw => lw_goodP (ws := nL.flatMap nCond) [37, 38, 23, 45, 46, 24, 67, 68, 26, 73, 79, 27, 75, 103, 28, 77, 124, 29, 129, 133, 30, 131, 160, 31, 289, 290, 32, 319, 320, 33, 327, 290, 32, 697, 698, 34] (by decide +kernel) (by decide +kernel) w (List.mem_flatMap.mpr ⟨q, hq, hw⟩)
theorem arr_ok : ∀ w ∈ [Cond.arrayClass .int, Cond.arrayClass .long], w ∈ lw_good := lw_goodP [66, 817] (by decide +kernel) (by decide +kernel)
def aoL : List Nat := [3, 0, 2, 6, 4]
theorem aoL_in : ∀ k ∈ aoL, Cond.arrayOver (.object (RN k)) ∈ lw_tbl := fun k hk => lw_inP (ws := aoL.map (fun k => Cond.arrayOver (.object (RN k)))) [74, 76, 78, 130, 132] (by decide +kernel) _ (List.mem_map.mpr ⟨k, hk, rfl⟩)
theorem ao2_in : ∀ w ∈ [Cond.arrayOver (.array .int)], w ∈ lw_tbl := lw_inP [326] (by decide +kernel)
theorem cl2_in : ∀ w ∈ [Cond.classLink (RN 5) 9 "[[I"], w ∈ lw_good := lw_goodP [325] (by decide +kernel) (by decide +kernel)
def mCode (k : Nat) : Cond := .code (yn k) (cd k) (mx k) (mrt k)
set_option maxRecDepth 100000 in
theorem mCode_0 : lw_tbl[106]? = some (mCode 0) := rfl
set_option maxRecDepth 100000 in
theorem mCode_1 : lw_tbl[293]? = some (mCode 1) := rfl
set_option maxRecDepth 100000 in
theorem mCode_2 : lw_tbl[536]? = some (mCode 2) := rfl
set_option maxRecDepth 100000 in
theorem mCode_3 : lw_tbl[540]? = some (mCode 3) := rfl
set_option maxRecDepth 100000 in
theorem mCode_4 : lw_tbl[556]? = some (mCode 4) := rfl
set_option maxRecDepth 100000 in
theorem mCode_5 : lw_tbl[561]? = some (mCode 5) := rfl
set_option maxRecDepth 100000 in
theorem mCode_6 : lw_tbl[567]? = some (mCode 6) := rfl
set_option maxRecDepth 100000 in
theorem mCode_7 : lw_tbl[571]? = some (mCode 7) := rfl
set_option maxRecDepth 100000 in
theorem mCode_8 : lw_tbl[589]? = some (mCode 8) := rfl
set_option maxRecDepth 100000 in
theorem mCode_9 : lw_tbl[606]? = some (mCode 9) := rfl
set_option maxRecDepth 100000 in
theorem mCode_10 : lw_tbl[602]? = some (mCode 10) := rfl
set_option maxRecDepth 100000 in
theorem mCode_11 : lw_tbl[127]? = some (mCode 11) := rfl
set_option maxRecDepth 100000 in
theorem mCode_12 : lw_tbl[504]? = some (mCode 12) := rfl
set_option maxRecDepth 100000 in
theorem mCode_13 : lw_tbl[610]? = some (mCode 13) := rfl
set_option maxRecDepth 100000 in
theorem mCode_14 : lw_tbl[615]? = some (mCode 14) := rfl
set_option maxRecDepth 100000 in
theorem mCode_15 : lw_tbl[82]? = some (mCode 15) := rfl
set_option maxRecDepth 100000 in
theorem mCode_16 : lw_tbl[468]? = some (mCode 16) := rfl
set_option maxRecDepth 100000 in
theorem mCode_17 : lw_tbl[452]? = some (mCode 17) := rfl
set_option maxRecDepth 100000 in
theorem mCode_18 : lw_tbl[544]? = some (mCode 18) := rfl
set_option maxRecDepth 100000 in
theorem mCode_19 : lw_tbl[552]? = some (mCode 19) := rfl
set_option maxRecDepth 100000 in
theorem mCode_20 : lw_tbl[163]? = some (mCode 20) := rfl
set_option maxRecDepth 100000 in
theorem mCode_21 : lw_tbl[323]? = some (mCode 21) := rfl
set_option maxRecDepth 100000 in
theorem mCode_22 : lw_tbl[635]? = some (mCode 22) := rfl
set_option maxRecDepth 100000 in
theorem mCode_23 : lw_tbl[653]? = some (mCode 23) := rfl
set_option maxRecDepth 100000 in
theorem mCode_24 : lw_tbl[664]? = some (mCode 24) := rfl
set_option maxRecDepth 100000 in
theorem mCode_25 : lw_tbl[657]? = some (mCode 25) := rfl
set_option maxRecDepth 100000 in
theorem mCode_26 : lw_tbl[643]? = some (mCode 26) := rfl
set_option maxRecDepth 100000 in
theorem mCode_27 : lw_tbl[136]? = some (mCode 27) := rfl
set_option maxRecDepth 100000 in
theorem mCode_28 : lw_tbl[580]? = some (mCode 28) := rfl
set_option maxRecDepth 100000 in
theorem mCode_29 : lw_tbl[584]? = some (mCode 29) := rfl
set_option maxRecDepth 100000 in
theorem mCode_30 : lw_tbl[49]? = some (mCode 30) := rfl
set_option maxRecDepth 100000 in
theorem mCode_31 : lw_tbl[429]? = some (mCode 31) := rfl
set_option maxRecDepth 100000 in
theorem mCode_32 : lw_tbl[71]? = some (mCode 32) := rfl
set_option maxRecDepth 100000 in
theorem mCode_33 : lw_tbl[492]? = some (mCode 33) := rfl
set_option maxRecDepth 100000 in
theorem mCode_34 : lw_tbl[475]? = some (mCode 34) := rfl
set_option maxRecDepth 100000 in
theorem mCode_35 : lw_tbl[692]? = some (mCode 35) := rfl
set_option maxRecDepth 100000 in
theorem mCode_36 : lw_tbl[575]? = some (mCode 36) := rfl
set_option maxRecDepth 100000 in
theorem mCode_37 : lw_tbl[41]? = some (mCode 37) := rfl
set_option maxRecDepth 100000 in
theorem mCode_38 : lw_tbl[409]? = some (mCode 38) := rfl
set_option maxRecDepth 100000 in
theorem mCode_39 : lw_tbl[421]? = some (mCode 39) := rfl
set_option maxRecDepth 100000 in
theorem mCode_40 : lw_tbl[425]? = some (mCode 40) := rfl
set_option maxRecDepth 100000 in
theorem mCode_41 : lw_tbl[433]? = some (mCode 41) := rfl
set_option maxRecDepth 100000 in
theorem mCode_42 : lw_tbl[440]? = some (mCode 42) := rfl
set_option maxRecDepth 100000 in
theorem mCode_43 : lw_tbl[448]? = some (mCode 43) := rfl
set_option maxRecDepth 100000 in
theorem mCode_44 : lw_tbl[456]? = some (mCode 44) := rfl
set_option maxRecDepth 100000 in
theorem mCode_45 : lw_tbl[460]? = some (mCode 45) := rfl
set_option maxRecDepth 100000 in
theorem mCode_46 : lw_tbl[464]? = some (mCode 46) := rfl
set_option maxRecDepth 100000 in
theorem mCode_47 : lw_tbl[479]? = some (mCode 47) := rfl
set_option maxRecDepth 100000 in
theorem mCode_48 : lw_tbl[496]? = some (mCode 48) := rfl
set_option maxRecDepth 100000 in
theorem mCode_49 : lw_tbl[508]? = some (mCode 49) := rfl
set_option maxRecDepth 100000 in
theorem mCode_50 : lw_tbl[512]? = some (mCode 50) := rfl
set_option maxRecDepth 100000 in
theorem mCode_51 : lw_tbl[516]? = some (mCode 51) := rfl
set_option maxRecDepth 100000 in
theorem mCode_52 : lw_tbl[520]? = some (mCode 52) := rfl
set_option maxRecDepth 100000 in
theorem mCode_53 : lw_tbl[524]? = some (mCode 53) := rfl
set_option maxRecDepth 100000 in
theorem mCode_54 : lw_tbl[528]? = some (mCode 54) := rfl
set_option maxRecDepth 100000 in
theorem mCode_55 : lw_tbl[532]? = some (mCode 55) := rfl
set_option maxRecDepth 100000 in
theorem mCode_56 : lw_tbl[620]? = some (mCode 56) := rfl
set_option maxRecDepth 100000 in
theorem mCode_57 : lw_tbl[631]? = some (mCode 57) := rfl
set_option maxRecDepth 100000 in
theorem mCode_58 : lw_tbl[668]? = some (mCode 58) := rfl
set_option maxRecDepth 100000 in
theorem mCode_59 : lw_tbl[672]? = some (mCode 59) := rfl
set_option maxRecDepth 100000 in
theorem mCode_60 : lw_tbl[680]? = some (mCode 60) := rfl
set_option maxRecDepth 100000 in
theorem mCode_61 : lw_tbl[684]? = some (mCode 61) := rfl
set_option maxRecDepth 100000 in
theorem mCode_62 : lw_tbl[688]? = some (mCode 62) := rfl
set_option maxRecDepth 100000 in
theorem mCode_63 : lw_tbl[696]? = some (mCode 63) := rfl
set_option maxRecDepth 100000 in
theorem mCode_64 : lw_tbl[416]? = some (mCode 64) := rfl
set_option maxRecDepth 100000 in
theorem mCode_65 : lw_tbl[412]? = some (mCode 65) := rfl
set_option maxRecDepth 100000 in
theorem mCode_66 : lw_tbl[436]? = some (mCode 66) := rfl
set_option maxRecDepth 100000 in
theorem mCode_67 : lw_tbl[482]? = some (mCode 67) := rfl
set_option maxRecDepth 100000 in
theorem mCode_68 : lw_tbl[488]? = some (mCode 68) := rfl
set_option maxRecDepth 100000 in
theorem mCode_69 : lw_tbl[485]? = some (mCode 69) := rfl
set_option maxRecDepth 100000 in
theorem mCode_70 : lw_tbl[444]? = some (mCode 70) := rfl
set_option maxRecDepth 100000 in
theorem mCode_71 : lw_tbl[500]? = some (mCode 71) := rfl
set_option maxRecDepth 100000 in
theorem mCode_72 : lw_tbl[676]? = some (mCode 72) := rfl
set_option maxRecDepth 100000 in
theorem mCode_73 : lw_tbl[594]? = some (mCode 73) := rfl
set_option maxRecDepth 100000 in
theorem mCode_74 : lw_tbl[598]? = some (mCode 74) := rfl
set_option maxRecDepth 100000 in
theorem mCode_75 : lw_tbl[624]? = some (mCode 75) := rfl
set_option maxRecDepth 100000 in
theorem mCode_76 : lw_tbl[639]? = some (mCode 76) := rfl
set_option maxRecDepth 100000 in
theorem mCode_77 : lw_tbl[471]? = some (mCode 77) := rfl
set_option maxRecDepth 100000 in
theorem mCode_78 : lw_tbl[701]? = some (mCode 78) := rfl
set_option maxRecDepth 100000 in
theorem mCode_79 : lw_tbl[829]? = some (mCode 79) := rfl
set_option maxRecDepth 100000 in
theorem mCode_80 : lw_tbl[824]? = some (mCode 80) := rfl
set_option maxRecDepth 100000 in
theorem mCode_81 : lw_tbl[855]? = some (mCode 81) := rfl
set_option maxRecDepth 100000 in
theorem mCode_82 : lw_tbl[883]? = some (mCode 82) := rfl
set_option maxRecDepth 100000 in
theorem mCode_83 : lw_tbl[821]? = some (mCode 83) := rfl
set_option maxRecDepth 100000 in
theorem mCode_84 : lw_tbl[834]? = some (mCode 84) := rfl
set_option maxRecDepth 100000 in
theorem mCode_85 : lw_tbl[842]? = some (mCode 85) := rfl
set_option maxRecDepth 100000 in
theorem mCode_86 : lw_tbl[838]? = some (mCode 86) := rfl
set_option maxRecDepth 100000 in
theorem mCode_87 : lw_tbl[846]? = some (mCode 87) := rfl
set_option maxRecDepth 100000 in
theorem mCode_88 : lw_tbl[851]? = some (mCode 88) := rfl
set_option maxRecDepth 100000 in
theorem mCode_89 : lw_tbl[859]? = some (mCode 89) := rfl
set_option maxRecDepth 100000 in
theorem mCode_90 : lw_tbl[863]? = some (mCode 90) := rfl
set_option maxRecDepth 100000 in
theorem mCode_91 : lw_tbl[867]? = some (mCode 91) := rfl
set_option maxRecDepth 100000 in
theorem mCode_92 : lw_tbl[871]? = some (mCode 92) := rfl
set_option maxRecDepth 100000 in
theorem mCode_93 : lw_tbl[875]? = some (mCode 93) := rfl
set_option maxRecDepth 100000 in
theorem mCode_94 : lw_tbl[879]? = some (mCode 94) := rfl
set_option maxRecDepth 100000 in
theorem mCode_95 : lw_tbl[888]? = some (mCode 95) := rfl
set_option maxRecDepth 100000 in
theorem mCode_96 : lw_tbl[892]? = some (mCode 96) := rfl
set_option maxRecDepth 100000 in
theorem mCode_97 : lw_tbl[896]? = some (mCode 97) := rfl
set_option maxRecDepth 100000 in
theorem mCode_98 : lw_tbl[901]? = some (mCode 98) := rfl
set_option maxRecDepth 100000 in
theorem mCode_99 : lw_tbl[906]? = some (mCode 99) := rfl
set_option maxRecDepth 100000 in
theorem mCode_100 : lw_tbl[910]? = some (mCode 100) := rfl
set_option maxRecDepth 100000 in
theorem mCode_101 : lw_tbl[927]? = some (mCode 101) := rfl
set_option maxRecDepth 100000 in
theorem mCode_102 : lw_tbl[922]? = some (mCode 102) := rfl
set_option maxRecDepth 100000 in
theorem mCode_103 : lw_tbl[931]? = some (mCode 103) := rfl
set_option maxRecDepth 100000 in
theorem mCode_104 : lw_tbl[943]? = some (mCode 104) := rfl
set_option maxRecDepth 100000 in
theorem mCode_105 : lw_tbl[935]? = some (mCode 105) := rfl
set_option maxRecDepth 100000 in
theorem mCode_106 : lw_tbl[939]? = some (mCode 106) := rfl
set_option maxRecDepth 100000 in
theorem mCode_107 : lw_tbl[947]? = some (mCode 107) := rfl
set_option maxRecDepth 100000 in
theorem mCode_108 : lw_tbl[951]? = some (mCode 108) := rfl
set_option maxRecDepth 100000 in
theorem mCode_109 : lw_tbl[955]? = some (mCode 109) := rfl
set_option maxRecDepth 100000 in
theorem mCode_110 : lw_tbl[918]? = some (mCode 110) := rfl
set_option maxRecDepth 100000 in
theorem mCode_111 : lw_tbl[963]? = some (mCode 111) := rfl
set_option maxRecDepth 100000 in
theorem mCode_112 : lw_tbl[914]? = some (mCode 112) := rfl
set_option maxRecDepth 100000 in
theorem mCode_113 : lw_tbl[959]? = some (mCode 113) := rfl
set_option maxRecDepth 100000 in
theorem mCode_114 : lw_tbl[967]? = some (mCode 114) := rfl
set_option maxRecDepth 100000 in
theorem mCode_115 : lw_tbl[972]? = some (mCode 115) := rfl
set_option maxRecDepth 100000 in
theorem mCode_116 : lw_tbl[976]? = some (mCode 116) := rfl
set_option maxRecDepth 100000 in
theorem mCode_117 : lw_tbl[980]? = some (mCode 117) := rfl
set_option maxRecDepth 100000 in
theorem mCode_118 : lw_tbl[984]? = some (mCode 118) := rfl
set_option maxRecDepth 100000 in
theorem mCode_119 : lw_tbl[988]? = some (mCode 119) := rfl
set_option maxRecDepth 100000 in
theorem mCode_120 : lw_tbl[992]? = some (mCode 120) := rfl
set_option maxRecDepth 100000 in
theorem mCode_121 : lw_tbl[646]? = some (mCode 121) := rfl
theorem mCode_in : ∀ k, k < 122 → mCode k ∈ lw_good := by
  intro k hk
  refine List.mem_filter.mpr ⟨?_, rfl⟩
  match k, hk with
  | 0, _ => exact List.mem_of_getElem? mCode_0
  | 1, _ => exact List.mem_of_getElem? mCode_1
  | 2, _ => exact List.mem_of_getElem? mCode_2
  | 3, _ => exact List.mem_of_getElem? mCode_3
  | 4, _ => exact List.mem_of_getElem? mCode_4
  | 5, _ => exact List.mem_of_getElem? mCode_5
  | 6, _ => exact List.mem_of_getElem? mCode_6
  | 7, _ => exact List.mem_of_getElem? mCode_7
  | 8, _ => exact List.mem_of_getElem? mCode_8
  | 9, _ => exact List.mem_of_getElem? mCode_9
  | 10, _ => exact List.mem_of_getElem? mCode_10
  | 11, _ => exact List.mem_of_getElem? mCode_11
  | 12, _ => exact List.mem_of_getElem? mCode_12
  | 13, _ => exact List.mem_of_getElem? mCode_13
  | 14, _ => exact List.mem_of_getElem? mCode_14
  | 15, _ => exact List.mem_of_getElem? mCode_15
  | 16, _ => exact List.mem_of_getElem? mCode_16
  | 17, _ => exact List.mem_of_getElem? mCode_17
  | 18, _ => exact List.mem_of_getElem? mCode_18
  | 19, _ => exact List.mem_of_getElem? mCode_19
  | 20, _ => exact List.mem_of_getElem? mCode_20
  | 21, _ => exact List.mem_of_getElem? mCode_21
  | 22, _ => exact List.mem_of_getElem? mCode_22
  | 23, _ => exact List.mem_of_getElem? mCode_23
  | 24, _ => exact List.mem_of_getElem? mCode_24
  | 25, _ => exact List.mem_of_getElem? mCode_25
  | 26, _ => exact List.mem_of_getElem? mCode_26
  | 27, _ => exact List.mem_of_getElem? mCode_27
  | 28, _ => exact List.mem_of_getElem? mCode_28
  | 29, _ => exact List.mem_of_getElem? mCode_29
  | 30, _ => exact List.mem_of_getElem? mCode_30
  | 31, _ => exact List.mem_of_getElem? mCode_31
  | 32, _ => exact List.mem_of_getElem? mCode_32
  | 33, _ => exact List.mem_of_getElem? mCode_33
  | 34, _ => exact List.mem_of_getElem? mCode_34
  | 35, _ => exact List.mem_of_getElem? mCode_35
  | 36, _ => exact List.mem_of_getElem? mCode_36
  | 37, _ => exact List.mem_of_getElem? mCode_37
  | 38, _ => exact List.mem_of_getElem? mCode_38
  | 39, _ => exact List.mem_of_getElem? mCode_39
  | 40, _ => exact List.mem_of_getElem? mCode_40
  | 41, _ => exact List.mem_of_getElem? mCode_41
  | 42, _ => exact List.mem_of_getElem? mCode_42
  | 43, _ => exact List.mem_of_getElem? mCode_43
  | 44, _ => exact List.mem_of_getElem? mCode_44
  | 45, _ => exact List.mem_of_getElem? mCode_45
  | 46, _ => exact List.mem_of_getElem? mCode_46
  | 47, _ => exact List.mem_of_getElem? mCode_47
  | 48, _ => exact List.mem_of_getElem? mCode_48
  | 49, _ => exact List.mem_of_getElem? mCode_49
  | 50, _ => exact List.mem_of_getElem? mCode_50
  | 51, _ => exact List.mem_of_getElem? mCode_51
  | 52, _ => exact List.mem_of_getElem? mCode_52
  | 53, _ => exact List.mem_of_getElem? mCode_53
  | 54, _ => exact List.mem_of_getElem? mCode_54
  | 55, _ => exact List.mem_of_getElem? mCode_55
  | 56, _ => exact List.mem_of_getElem? mCode_56
  | 57, _ => exact List.mem_of_getElem? mCode_57
  | 58, _ => exact List.mem_of_getElem? mCode_58
  | 59, _ => exact List.mem_of_getElem? mCode_59
  | 60, _ => exact List.mem_of_getElem? mCode_60
  | 61, _ => exact List.mem_of_getElem? mCode_61
  | 62, _ => exact List.mem_of_getElem? mCode_62
  | 63, _ => exact List.mem_of_getElem? mCode_63
  | 64, _ => exact List.mem_of_getElem? mCode_64
  | 65, _ => exact List.mem_of_getElem? mCode_65
  | 66, _ => exact List.mem_of_getElem? mCode_66
  | 67, _ => exact List.mem_of_getElem? mCode_67
  | 68, _ => exact List.mem_of_getElem? mCode_68
  | 69, _ => exact List.mem_of_getElem? mCode_69
  | 70, _ => exact List.mem_of_getElem? mCode_70
  | 71, _ => exact List.mem_of_getElem? mCode_71
  | 72, _ => exact List.mem_of_getElem? mCode_72
  | 73, _ => exact List.mem_of_getElem? mCode_73
  | 74, _ => exact List.mem_of_getElem? mCode_74
  | 75, _ => exact List.mem_of_getElem? mCode_75
  | 76, _ => exact List.mem_of_getElem? mCode_76
  | 77, _ => exact List.mem_of_getElem? mCode_77
  | 78, _ => exact List.mem_of_getElem? mCode_78
  | 79, _ => exact List.mem_of_getElem? mCode_79
  | 80, _ => exact List.mem_of_getElem? mCode_80
  | 81, _ => exact List.mem_of_getElem? mCode_81
  | 82, _ => exact List.mem_of_getElem? mCode_82
  | 83, _ => exact List.mem_of_getElem? mCode_83
  | 84, _ => exact List.mem_of_getElem? mCode_84
  | 85, _ => exact List.mem_of_getElem? mCode_85
  | 86, _ => exact List.mem_of_getElem? mCode_86
  | 87, _ => exact List.mem_of_getElem? mCode_87
  | 88, _ => exact List.mem_of_getElem? mCode_88
  | 89, _ => exact List.mem_of_getElem? mCode_89
  | 90, _ => exact List.mem_of_getElem? mCode_90
  | 91, _ => exact List.mem_of_getElem? mCode_91
  | 92, _ => exact List.mem_of_getElem? mCode_92
  | 93, _ => exact List.mem_of_getElem? mCode_93
  | 94, _ => exact List.mem_of_getElem? mCode_94
  | 95, _ => exact List.mem_of_getElem? mCode_95
  | 96, _ => exact List.mem_of_getElem? mCode_96
  | 97, _ => exact List.mem_of_getElem? mCode_97
  | 98, _ => exact List.mem_of_getElem? mCode_98
  | 99, _ => exact List.mem_of_getElem? mCode_99
  | 100, _ => exact List.mem_of_getElem? mCode_100
  | 101, _ => exact List.mem_of_getElem? mCode_101
  | 102, _ => exact List.mem_of_getElem? mCode_102
  | 103, _ => exact List.mem_of_getElem? mCode_103
  | 104, _ => exact List.mem_of_getElem? mCode_104
  | 105, _ => exact List.mem_of_getElem? mCode_105
  | 106, _ => exact List.mem_of_getElem? mCode_106
  | 107, _ => exact List.mem_of_getElem? mCode_107
  | 108, _ => exact List.mem_of_getElem? mCode_108
  | 109, _ => exact List.mem_of_getElem? mCode_109
  | 110, _ => exact List.mem_of_getElem? mCode_110
  | 111, _ => exact List.mem_of_getElem? mCode_111
  | 112, _ => exact List.mem_of_getElem? mCode_112
  | 113, _ => exact List.mem_of_getElem? mCode_113
  | 114, _ => exact List.mem_of_getElem? mCode_114
  | 115, _ => exact List.mem_of_getElem? mCode_115
  | 116, _ => exact List.mem_of_getElem? mCode_116
  | 117, _ => exact List.mem_of_getElem? mCode_117
  | 118, _ => exact List.mem_of_getElem? mCode_118
  | 119, _ => exact List.mem_of_getElem? mCode_119
  | 120, _ => exact List.mem_of_getElem? mCode_120
  | 121, _ => exact List.mem_of_getElem? mCode_121
  | k + 122, h => exact absurd h (by omega)
theorem mObj_in : Cond.code Lib.objectInit ⟨#[0xb1]⟩ 1 none ∈ lw_good := List.mem_filter.mpr ⟨List.mem_of_getElem? (i := 44) (by decide +kernel), rfl⟩
theorem mMath_max : Cond.code Lib.Math.max.name Lib.Math.max.code 2 (some .int) ∈ lw_good := List.mem_filter.mpr ⟨List.mem_of_getElem? (i := 56) (by decide +kernel), rfl⟩
theorem mMath_min : Cond.code Lib.Math.min.name Lib.Math.min.code 2 (some .int) ∈ lw_good := List.mem_filter.mpr ⟨List.mem_of_getElem? (i := 548) (by decide +kernel), rfl⟩
theorem mMath_abs : Cond.code Lib.Math.abs.name Lib.Math.abs.code 1 (some .int) ∈ lw_good := List.mem_filter.mpr ⟨List.mem_of_getElem? (i := 53) (by decide +kernel), rfl⟩
theorem tt_multi : True := by
  have := @Jvm.Free.Multi.fill
  trivial
end
