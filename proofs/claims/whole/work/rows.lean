section
-- PART A of the skeleton, the names and field tables: printed texts (claim/NAMES.whole, kit/laws/SKELETON); the rest by gen_names.py
/-- a private method of a class that the tables say can be made, by its rows of tables_1 -/
def lw_okq (q : MethodName × Nat) : Prop := (q.1.cls ≠ "java/lang/invoke/MethodHandle" ∧ q.1.cls ≠ "java/lang/invoke/VarHandle") ∧ Cond.instantiable q.1.cls q.2 ∈ tables_1 ∧ Cond.privateMethod q.1 ∈ tables_1 ∧ Cond.instanceMethod q.1 ∈ tables_1
theorem lw_p0 : lw_okq (⟨"TideMill", "finding", "(I)I"⟩, 16) := ⟨⟨by decide +kernel, by decide +kernel⟩, List.mem_of_getElem? (i := 16) (by decide +kernel), List.mem_of_getElem? (i := 392) (by decide +kernel), List.mem_of_getElem? (i := 393) (by decide +kernel)⟩
theorem lw_p1 : lw_okq (⟨"TideMill", "isPond", "(I)Z"⟩, 16) := ⟨⟨by decide +kernel, by decide +kernel⟩, List.mem_of_getElem? (i := 16) (by decide +kernel), List.mem_of_getElem? (i := 420) (by decide +kernel), List.mem_of_getElem? (i := 421) (by decide +kernel)⟩
theorem lw_p2 : lw_okq (⟨"TideMill", "isMill", "(I)Z"⟩, 16) := ⟨⟨by decide +kernel, by decide +kernel⟩, List.mem_of_getElem? (i := 16) (by decide +kernel), List.mem_of_getElem? (i := 476) (by decide +kernel), List.mem_of_getElem? (i := 477) (by decide +kernel)⟩
theorem lw_p3 : lw_okq (⟨"TideMill", "countWater", "()V"⟩, 16) := ⟨⟨by decide +kernel, by decide +kernel⟩, List.mem_of_getElem? (i := 16) (by decide +kernel), List.mem_of_getElem? (i := 570) (by decide +kernel), List.mem_of_getElem? (i := 571) (by decide +kernel)⟩
theorem lw_p4 : lw_okq (⟨"TideMill", "handOutGround", "()I"⟩, 16) := ⟨⟨by decide +kernel, by decide +kernel⟩, List.mem_of_getElem? (i := 16) (by decide +kernel), List.mem_of_getElem? (i := 574) (by decide +kernel), List.mem_of_getElem? (i := 575) (by decide +kernel)⟩
theorem lw_p5 : lw_okq (⟨"TideMill", "startLater", "()V"⟩, 16) := ⟨⟨by decide +kernel, by decide +kernel⟩, List.mem_of_getElem? (i := 16) (by decide +kernel), List.mem_of_getElem? (i := 600) (by decide +kernel), List.mem_of_getElem? (i := 601) (by decide +kernel)⟩
theorem lw_p6 : lw_okq (⟨"TideMill", "waterInPonds", "()I"⟩, 16) := ⟨⟨by decide +kernel, by decide +kernel⟩, List.mem_of_getElem? (i := 16) (by decide +kernel), List.mem_of_getElem? (i := 652) (by decide +kernel), List.mem_of_getElem? (i := 653) (by decide +kernel)⟩
theorem lw_p7 : lw_okq (⟨"TideMillModel", "finding", "(J)J"⟩, 37) := ⟨⟨by decide +kernel, by decide +kernel⟩, List.mem_of_getElem? (i := 676) (by decide +kernel), List.mem_of_getElem? (i := 805) (by decide +kernel), List.mem_of_getElem? (i := 806) (by decide +kernel)⟩
theorem lw_p8 : lw_okq (⟨"TideMillModel", "tideOf", "(I)I"⟩, 37) := ⟨⟨by decide +kernel, by decide +kernel⟩, List.mem_of_getElem? (i := 676) (by decide +kernel), List.mem_of_getElem? (i := 818) (by decide +kernel), List.mem_of_getElem? (i := 819) (by decide +kernel)⟩
theorem lw_p9 : lw_okq (⟨"TideMillModel", "isPond", "(I)Z"⟩, 37) := ⟨⟨by decide +kernel, by decide +kernel⟩, List.mem_of_getElem? (i := 676) (by decide +kernel), List.mem_of_getElem? (i := 831) (by decide +kernel), List.mem_of_getElem? (i := 832) (by decide +kernel)⟩
theorem lw_p10 : lw_okq (⟨"TideMillModel", "isMill", "(I)Z"⟩, 37) := ⟨⟨by decide +kernel, by decide +kernel⟩, List.mem_of_getElem? (i := 676) (by decide +kernel), List.mem_of_getElem? (i := 859) (by decide +kernel), List.mem_of_getElem? (i := 860) (by decide +kernel)⟩
theorem lw_p11 : lw_okq (⟨"TideMillModel", "goes", "([IIIZ)V"⟩, 37) := ⟨⟨by decide +kernel, by decide +kernel⟩, List.mem_of_getElem? (i := 676) (by decide +kernel), List.mem_of_getElem? (i := 894) (by decide +kernel), List.mem_of_getElem? (i := 895) (by decide +kernel)⟩
theorem lw_p12 : lw_okq (⟨"TideMillModel", "gates", "([II)V"⟩, 37) := ⟨⟨by decide +kernel, by decide +kernel⟩, List.mem_of_getElem? (i := 676) (by decide +kernel), List.mem_of_getElem? (i := 898) (by decide +kernel), List.mem_of_getElem? (i := 899) (by decide +kernel)⟩
theorem lw_p13 : lw_okq (⟨"TideMillModel", "flows", "(II)V"⟩, 37) := ⟨⟨by decide +kernel, by decide +kernel⟩, List.mem_of_getElem? (i := 676) (by decide +kernel), List.mem_of_getElem? (i := 903) (by decide +kernel), List.mem_of_getElem? (i := 904) (by decide +kernel)⟩
theorem lw_p14 : lw_okq (⟨"TideMillModel", "evens", "([I)V"⟩, 37) := ⟨⟨by decide +kernel, by decide +kernel⟩, List.mem_of_getElem? (i := 676) (by decide +kernel), List.mem_of_getElem? (i := 907) (by decide +kernel), List.mem_of_getElem? (i := 908) (by decide +kernel)⟩
theorem lw_p15 : lw_okq (⟨"TideMillModel", "turns", "([III)V"⟩, 37) := ⟨⟨by decide +kernel, by decide +kernel⟩, List.mem_of_getElem? (i := 676) (by decide +kernel), List.mem_of_getElem? (i := 911) (by decide +kernel), List.mem_of_getElem? (i := 912) (by decide +kernel)⟩
def lw_privs_1 : List (MethodName × Nat) := [(⟨"TideMill", "finding", "(I)I"⟩, 16), (⟨"TideMill", "isPond", "(I)Z"⟩, 16), (⟨"TideMill", "isMill", "(I)Z"⟩, 16), (⟨"TideMill", "countWater", "()V"⟩, 16), (⟨"TideMill", "handOutGround", "()I"⟩, 16), (⟨"TideMill", "startLater", "()V"⟩, 16), (⟨"TideMill", "waterInPonds", "()I"⟩, 16), (⟨"TideMillModel", "finding", "(J)J"⟩, 37), (⟨"TideMillModel", "tideOf", "(I)I"⟩, 37), (⟨"TideMillModel", "isPond", "(I)Z"⟩, 37), (⟨"TideMillModel", "isMill", "(I)Z"⟩, 37), (⟨"TideMillModel", "goes", "([IIIZ)V"⟩, 37), (⟨"TideMillModel", "gates", "([II)V"⟩, 37), (⟨"TideMillModel", "flows", "(II)V"⟩, 37), (⟨"TideMillModel", "evens", "([I)V"⟩, 37), (⟨"TideMillModel", "turns", "([III)V"⟩, 37)]
theorem lw_r1 : ∀ q ∈ lw_privs_1, lw_okq q := List.forall_mem_cons.mpr ⟨lw_p0, List.forall_mem_cons.mpr ⟨lw_p1, List.forall_mem_cons.mpr ⟨lw_p2, List.forall_mem_cons.mpr ⟨lw_p3, List.forall_mem_cons.mpr ⟨lw_p4, List.forall_mem_cons.mpr ⟨lw_p5, List.forall_mem_cons.mpr ⟨lw_p6, List.forall_mem_cons.mpr ⟨lw_p7, List.forall_mem_cons.mpr ⟨lw_p8, List.forall_mem_cons.mpr ⟨lw_p9, List.forall_mem_cons.mpr ⟨lw_p10, List.forall_mem_cons.mpr ⟨lw_p11, List.forall_mem_cons.mpr ⟨lw_p12, List.forall_mem_cons.mpr ⟨lw_p13, List.forall_mem_cons.mpr ⟨lw_p14, List.forall_mem_cons.mpr ⟨lw_p15, fun _ h => absurd h List.not_mem_nil⟩⟩⟩⟩⟩⟩⟩⟩⟩⟩⟩⟩⟩⟩⟩⟩
theorem lw_p16 : lw_okq (⟨"TideMillModel", "turn", "([IIIII)V"⟩, 37) := ⟨⟨by decide +kernel, by decide +kernel⟩, List.mem_of_getElem? (i := 676) (by decide +kernel), List.mem_of_getElem? (i := 915) (by decide +kernel), List.mem_of_getElem? (i := 916) (by decide +kernel)⟩
theorem lw_p17 : lw_okq (⟨"TideMillModel", "keptFor", "(I)I"⟩, 37) := ⟨⟨by decide +kernel, by decide +kernel⟩, List.mem_of_getElem? (i := 676) (by decide +kernel), List.mem_of_getElem? (i := 919) (by decide +kernel), List.mem_of_getElem? (i := 920) (by decide +kernel)⟩
theorem lw_p18 : lw_okq (⟨"TideMillModel", "gives", "(II)V"⟩, 37) := ⟨⟨by decide +kernel, by decide +kernel⟩, List.mem_of_getElem? (i := 676) (by decide +kernel), List.mem_of_getElem? (i := 923) (by decide +kernel), List.mem_of_getElem? (i := 924) (by decide +kernel)⟩
theorem lw_p19 : lw_okq (⟨"TideMillModel", "done", "(II)V"⟩, 37) := ⟨⟨by decide +kernel, by decide +kernel⟩, List.mem_of_getElem? (i := 676) (by decide +kernel), List.mem_of_getElem? (i := 927) (by decide +kernel), List.mem_of_getElem? (i := 928) (by decide +kernel)⟩
theorem lw_p20 : lw_okq (⟨"TideMillModel", "spills", "([I)V"⟩, 37) := ⟨⟨by decide +kernel, by decide +kernel⟩, List.mem_of_getElem? (i := 676) (by decide +kernel), List.mem_of_getElem? (i := 931) (by decide +kernel), List.mem_of_getElem? (i := 932) (by decide +kernel)⟩
theorem lw_p21 : lw_okq (⟨"TideMillModel", "begin", "()V"⟩, 37) := ⟨⟨by decide +kernel, by decide +kernel⟩, List.mem_of_getElem? (i := 676) (by decide +kernel), List.mem_of_getElem? (i := 939) (by decide +kernel), List.mem_of_getElem? (i := 940) (by decide +kernel)⟩
def lw_privs_2 : List (MethodName × Nat) := [(⟨"TideMillModel", "turn", "([IIIII)V"⟩, 37), (⟨"TideMillModel", "keptFor", "(I)I"⟩, 37), (⟨"TideMillModel", "gives", "(II)V"⟩, 37), (⟨"TideMillModel", "done", "(II)V"⟩, 37), (⟨"TideMillModel", "spills", "([I)V"⟩, 37), (⟨"TideMillModel", "begin", "()V"⟩, 37)]
theorem lw_r2 : ∀ q ∈ lw_privs_2, lw_okq q := List.forall_mem_cons.mpr ⟨lw_p16, List.forall_mem_cons.mpr ⟨lw_p17, List.forall_mem_cons.mpr ⟨lw_p18, List.forall_mem_cons.mpr ⟨lw_p19, List.forall_mem_cons.mpr ⟨lw_p20, List.forall_mem_cons.mpr ⟨lw_p21, fun _ h => absurd h List.not_mem_nil⟩⟩⟩⟩⟩⟩
def lw_privs : List (MethodName × Nat) := lw_privs_1 ++ (lw_privs_2)
def lw_tbl : List Cond := k2_sels lw_privs ++ tables_1
theorem lw_privs_ok : ∀ q ∈ lw_privs, lw_okq q := by
  show ∀ q ∈ lw_privs_1 ++ (lw_privs_2), lw_okq q
  exact List.forall_mem_append.mpr ⟨lw_r1, lw_r2⟩
def RX0 : String := "TideMill$Channel"
def TX0 : u_T := fun k => match k with
  | 0 => ("TideMill$Channel", "a", "I", false)
  | 1 => ("TideMill$Channel", "b", "I", false)
  | _ => ("TideMill$Channel", "width", "I", false)
def tyX0 : Nat → FieldType := fun k => match k with
  | 0 => .int
  | 1 => .int
  | _ => .int
def RX1 : String := "TideMill$Flow"
def TX1 : u_T := fun k => match k with
  | 0 => ("TideMill$Flow", "works", "LTideMill$Works;", true)
  | 1 => ("TideMill$Flow", "ground", "[I", true)
  | 2 => ("TideMill$Flow", "cameIn", "I", false)
  | 3 => ("TideMill$Flow", "wentOut", "I", false)
  | 4 => ("TideMill$Flow", "spilt", "I", false)
  | _ => ("TideMill$Flow", "drawn", "I", false)
def tyX1 : Nat → FieldType := fun k => match k with
  | 0 => .object "TideMill$Works"
  | 1 => .array .int
  | 2 => .int
  | 3 => .int
  | 4 => .int
  | _ => .int
def RX2 : String := "TideMill$Mill"
def TX2 : u_T := fun k => match k with
  | 0 => ("TideMill$Mill", "stones", "[LTideMill$Stone;", true)
  | 1 => ("TideMill$Mill", "sacks", "[LTideMill$Sack;", true)
  | 2 => ("TideMill$Mill", "kind", "I", false)
  | 3 => ("TideMill$Mill", "pond", "I", false)
  | 4 => ("TideMill$Mill", "rank", "I", false)
  | 5 => ("TideMill$Mill", "keeps", "I", false)
  | 6 => ("TideMill$Mill", "customer", "I", false)
  | 7 => ("TideMill$Mill", "stoneCount", "I", false)
  | 8 => ("TideMill$Mill", "sackCount", "I", false)
  | 9 => ("TideMill$Mill", "ground", "I", false)
  | 10 => ("TideMill$Mill", "toll", "I", false)
  | 11 => ("TideMill$Mill", "done", "I", false)
  | 12 => ("TideMill$Mill", "late", "I", false)
  | 13 => ("TideMill$Mill", "idle", "I", false)
  | _ => ("TideMill$Mill", "cloth", "I", false)
def tyX2 : Nat → FieldType := fun k => match k with
  | 0 => .array (.object "TideMill$Stone")
  | 1 => .array (.object "TideMill$Sack")
  | 2 => .int
  | 3 => .int
  | 4 => .int
  | 5 => .int
  | 6 => .int
  | 7 => .int
  | 8 => .int
  | 9 => .int
  | 10 => .int
  | 11 => .int
  | 12 => .int
  | 13 => .int
  | _ => .int
def RX3 : String := "TideMill$Pond"
def TX3 : u_T := fun k => match k with
  | 0 => ("TideMill$Pond", "area", "I", false)
  | 1 => ("TideMill$Pond", "bank", "I", false)
  | 2 => ("TideMill$Pond", "width", "I", false)
  | _ => ("TideMill$Pond", "gate", "I", false)
def tyX3 : Nat → FieldType := fun k => match k with
  | 0 => .int
  | 1 => .int
  | 2 => .int
  | _ => .int
def RX4 : String := "TideMill$Sack"
def TX4 : u_T := fun k => match k with
  | 0 => ("TideMill$Sack", "customer", "I", false)
  | 1 => ("TideMill$Sack", "amount", "I", false)
  | 2 => ("TideMill$Sack", "wants", "I", false)
  | _ => ("TideMill$Sack", "due", "I", false)
def tyX4 : Nat → FieldType := fun k => match k with
  | 0 => .int
  | 1 => .int
  | 2 => .int
  | _ => .int
def RX5 : String := "TideMill$Search"
def TX5 : u_T := fun k => match k with
  | 0 => ("TideMill$Search", "flow", "LTideMill$Flow;", true)
  | 1 => ("TideMill$Search", "tides", "LTideMill$Tides;", true)
  | 2 => ("TideMill$Search", "water", "[[I", true)
  | 3 => ("TideMill$Search", "mill", "I", false)
  | 4 => ("TideMill$Search", "hours", "I", false)
  | 5 => ("TideMill$Search", "firstHour", "I", false)
  | 6 => ("TideMill$Search", "bestSet", "I", false)
  | _ => ("TideMill$Search", "bestGround", "I", false)
def tyX5 : Nat → FieldType := fun k => match k with
  | 0 => .object "TideMill$Flow"
  | 1 => .object "TideMill$Tides"
  | 2 => .array (.array .int)
  | 3 => .int
  | 4 => .int
  | 5 => .int
  | 6 => .int
  | _ => .int
def RX6 : String := "TideMill$Stone"
def TX6 : u_T := fun k => match k with
  | 0 => ("TideMill$Stone", "least", "I", false)
  | 1 => ("TideMill$Stone", "draw", "I", false)
  | 2 => ("TideMill$Stone", "rate", "I", false)
  | 3 => ("TideMill$Stone", "most", "I", false)
  | _ => ("TideMill$Stone", "isOn", "Z", false)
def tyX6 : Nat → FieldType := fun k => match k with
  | 0 => .int
  | 1 => .int
  | 2 => .int
  | 3 => .int
  | _ => .boolean
def RX7 : String := "TideMill$Tides"
def TX7 : u_T := fun k => match k with
  | 0 => ("TideMill$Tides", "heights", "[I", true)
  | _ => ("TideMill$Tides", "round", "I", false)
def tyX7 : Nat → FieldType := fun k => match k with
  | 0 => .array .int
  | _ => .int
def RX8 : String := "TideMill$Works"
def TX8 : u_T := fun k => match k with
  | 0 => ("TideMill$Works", "ponds", "[LTideMill$Pond;", true)
  | 1 => ("TideMill$Works", "channels", "[LTideMill$Channel;", true)
  | 2 => ("TideMill$Works", "mills", "[LTideMill$Mill;", true)
  | 3 => ("TideMill$Works", "order", "[I", true)
  | 4 => ("TideMill$Works", "pondCount", "I", false)
  | 5 => ("TideMill$Works", "channelCount", "I", false)
  | _ => ("TideMill$Works", "millCount", "I", false)
def tyX8 : Nat → FieldType := fun k => match k with
  | 0 => .array (.object "TideMill$Pond")
  | 1 => .array (.object "TideMill$Channel")
  | 2 => .array (.object "TideMill$Mill")
  | 3 => .array .int
  | 4 => .int
  | 5 => .int
  | _ => .int
def RX9 : String := "TideMill"
def TX9 : u_T := fun k => match k with
  | 0 => ("TideMill", "tides", "LTideMill$Tides;", true)
  | 1 => ("TideMill", "works", "LTideMill$Works;", true)
  | 2 => ("TideMill", "flow", "LTideMill$Flow;", true)
  | 3 => ("TideMill", "search", "LTideMill$Search;", true)
  | 4 => ("TideMill", "water", "[I", true)
  | 5 => ("TideMill", "flourOf", "[I", true)
  | 6 => ("TideMill", "numbers", "[I", true)
  | 7 => ("TideMill", "findings", "[I", true)
  | 8 => ("TideMill", "later", "[I", true)
  | 9 => ("TideMill", "hour", "I", false)
  | 10 => ("TideMill", "numbersWaiting", "I", false)
  | 11 => ("TideMill", "cameIn", "I", false)
  | 12 => ("TideMill", "wentOut", "I", false)
  | 13 => ("TideMill", "spilt", "I", false)
  | 14 => ("TideMill", "drawn", "I", false)
  | _ => ("TideMill", "putIn", "I", false)
def tyX9 : Nat → FieldType := fun k => match k with
  | 0 => .object "TideMill$Tides"
  | 1 => .object "TideMill$Works"
  | 2 => .object "TideMill$Flow"
  | 3 => .object "TideMill$Search"
  | 4 => .array .int
  | 5 => .array .int
  | 6 => .array .int
  | 7 => .array .int
  | 8 => .array .int
  | 9 => .int
  | 10 => .int
  | 11 => .int
  | 12 => .int
  | 13 => .int
  | 14 => .int
  | _ => .int
def RX10 : String := "TideMillModel"
def TX10 : u_T := fun k => match k with
  | 0 => ("TideMillModel", "hour", "I", false)
  | 1 => ("TideMillModel", "round", "I", false)
  | 2 => ("TideMillModel", "heights", "[I", true)
  | 3 => ("TideMillModel", "ponds", "I", false)
  | 4 => ("TideMillModel", "areaOf", "[I", true)
  | 5 => ("TideMillModel", "bankOf", "[I", true)
  | 6 => ("TideMillModel", "widthOf", "[I", true)
  | 7 => ("TideMillModel", "gateOf", "[I", true)
  | 8 => ("TideMillModel", "waters", "[I", true)
  | 9 => ("TideMillModel", "channels", "I", false)
  | 10 => ("TideMillModel", "oneEnd", "[I", true)
  | 11 => ("TideMillModel", "otherEnd", "[I", true)
  | 12 => ("TideMillModel", "wideOf", "[I", true)
  | 13 => ("TideMillModel", "mills", "I", false)
  | 14 => ("TideMillModel", "kindOf", "[I", true)
  | 15 => ("TideMillModel", "pondOf", "[I", true)
  | 16 => ("TideMillModel", "rankOf", "[I", true)
  | 17 => ("TideMillModel", "keepsOf", "[I", true)
  | 18 => ("TideMillModel", "customerOf", "[I", true)
  | 19 => ("TideMillModel", "stones", "[I", true)
  | 20 => ("TideMillModel", "least", "[I", true)
  | 21 => ("TideMillModel", "draw", "[I", true)
  | 22 => ("TideMillModel", "rate", "[I", true)
  | 23 => ("TideMillModel", "most", "[I", true)
  | 24 => ("TideMillModel", "on", "I", false)
  | 25 => ("TideMillModel", "sacks", "[I", true)
  | 26 => ("TideMillModel", "row", "[I", true)
  | 27 => ("TideMillModel", "account", "[J", true)
  | 28 => ("TideMillModel", "flour", "[J", true)
  | 29 => ("TideMillModel", "flows", "[J", true)
  | 30 => ("TideMillModel", "tells", "I", false)
  | 31 => ("TideMillModel", "told", "[I", true)
  | 32 => ("TideMillModel", "findings", "[J", true)
  | 33 => ("TideMillModel", "ahead", "[I", true)
  | 34 => ("TideMillModel", "ran", "I", false)
  | 35 => ("TideMillModel", "grinds", "[J", true)
  | _ => ("TideMillModel", "isMeant", "Z", false)
def tyX10 : Nat → FieldType := fun k => match k with
  | 0 => .int
  | 1 => .int
  | 2 => .array .int
  | 3 => .int
  | 4 => .array .int
  | 5 => .array .int
  | 6 => .array .int
  | 7 => .array .int
  | 8 => .array .int
  | 9 => .int
  | 10 => .array .int
  | 11 => .array .int
  | 12 => .array .int
  | 13 => .int
  | 14 => .array .int
  | 15 => .array .int
  | 16 => .array .int
  | 17 => .array .int
  | 18 => .array .int
  | 19 => .array .int
  | 20 => .array .int
  | 21 => .array .int
  | 22 => .array .int
  | 23 => .array .int
  | 24 => .int
  | 25 => .array .int
  | 26 => .array .int
  | 27 => .array .long
  | 28 => .array .long
  | 29 => .array .long
  | 30 => .int
  | 31 => .array .int
  | 32 => .array .long
  | 33 => .array .int
  | 34 => .int
  | 35 => .array .long
  | _ => .boolean
def RJ6 : String := "java/lang/Integer"
def RL : String := "TideMillLaw"
def lw_good : List Cond := lw_tbl.filter goodWord
def RN (k : Nat) : String := [RX0, RX1, RX2, RX3, RX4, RX5, RX6, RX7, RX8, RX9, RX10, RL, RJ6].getD k RX0
def TN (k : Nat) : u_T := [TX0, TX1, TX2, TX3, TX4, TX5, TX6, TX7, TX8, TX9, TX10].getD k TX0
def tyN (k : Nat) : Nat → FieldType := [tyX0, tyX1, tyX2, tyX3, tyX4, tyX5, tyX6, tyX7, tyX8, tyX9, tyX10].getD k tyX0
def nfN (k : Nat) : Nat := [3, 6, 15, 4, 4, 8, 5, 2, 7, 16, 37].getD k 0
def mCl : List vw_C := (List.range 11).map (fun k => (RN k, TN k, nfN k))
/-- the methods: name, bytes, locals, answer, kl number, parameters -/
def mTab : List (MethodName × ByteArray × Nat × Option FieldType × Nat × Nat) := [
  (⟨RX0, "<init>", "()V"⟩, prog_2_method_1_code, 1, none, 0, 0),
  (⟨RX1, "<init>", "(LTideMill$Works;)V"⟩, prog_3_method_1_code, 2, none, 1, 1),
  (⟨RX1, "goBy", "([III)V"⟩, prog_3_method_2_code, 4, none, 1, 3),
  (⟨RX1, "passGates", "([II)V"⟩, prog_3_method_3_code, 6, none, 1, 2),
  (⟨RX1, "passChannels", "([I)V"⟩, prog_3_method_4_code, 6, none, 1, 1),
  (⟨RX1, "lead", "([IIII)V"⟩, prog_3_method_5_code, 9, none, 1, 4),
  (⟨RX1, "runMills", "([III)V"⟩, prog_3_method_6_code, 6, none, 1, 3),
  (⟨RX1, "runStones", "([III)V"⟩, prog_3_method_7_code, 11, none, 1, 3),
  (⟨RX1, "spillBanks", "([I)V"⟩, prog_3_method_8_code, 4, none, 1, 1),
  (⟨RX1, "groundBy", "(I)I"⟩, prog_3_method_9_code, 4, (some .int), 1, 1),
  (⟨RX1, "stonesThatRan", "(I)I"⟩, prog_3_method_10_code, 4, (some .int), 1, 1),
  (⟨RX2, "<init>", "()V"⟩, prog_4_method_1_code, 2, none, 2, 0),
  (⟨RX2, "isOf", "(I)Z"⟩, prog_4_method_2_code, 2, (some .boolean), 2, 1),
  (⟨RX2, "take", "(II[I)V"⟩, prog_4_method_3_code, 8, none, 2, 3),
  (⟨RX2, "finishFirst", "(I[I)V"⟩, prog_4_method_4_code, 6, none, 2, 2),
  (⟨RX3, "<init>", "()V"⟩, prog_5_method_1_code, 1, none, 3, 0),
  (⟨RX3, "level", "(I)I"⟩, prog_5_method_2_code, 2, (some .int), 3, 1),
  (⟨RX3, "brim", "()I"⟩, prog_5_method_3_code, 1, (some .int), 3, 0),
  (⟨RX3, "comesIn", "(II)I"⟩, prog_5_method_4_code, 4, (some .int), 3, 2),
  (⟨RX3, "goesOut", "(II)I"⟩, prog_5_method_5_code, 4, (some .int), 3, 2),
  (⟨RX4, "<init>", "()V"⟩, prog_6_method_1_code, 1, none, 4, 0),
  (⟨RX5, "<init>", "(LTideMill$Works;LTideMill$Tides;)V"⟩, prog_7_method_1_code, 3, none, 5, 2),
  (⟨RX5, "start", "(III[I)V"⟩, prog_7_method_2_code, 5, none, 5, 4),
  (⟨RX5, "goWith", "(I)I"⟩, prog_7_method_3_code, 2, (some .int), 5, 1),
  (⟨RX5, "goWithout", "(I)V"⟩, prog_7_method_4_code, 2, none, 5, 1),
  (⟨RX5, "goOn", "(II)V"⟩, prog_7_method_5_code, 3, none, 5, 2),
  (⟨RX5, "keepIfBetter", "(II)V"⟩, prog_7_method_6_code, 5, none, 5, 2),
  (⟨RX6, "<init>", "()V"⟩, prog_8_method_1_code, 1, none, 6, 0),
  (⟨RX6, "runs", "(III)Z"⟩, prog_8_method_2_code, 4, (some .boolean), 6, 3),
  (⟨RX6, "grinds", "(I)I"⟩, prog_8_method_3_code, 2, (some .int), 6, 1),
  (⟨RX7, "<init>", "()V"⟩, prog_9_method_1_code, 2, none, 7, 0),
  (⟨RX7, "at", "(I)I"⟩, prog_9_method_2_code, 2, (some .int), 7, 1),
  (⟨RX8, "<init>", "()V"⟩, prog_10_method_1_code, 2, none, 8, 0),
  (⟨RX8, "putInOrder", "(I)V"⟩, prog_10_method_2_code, 3, none, 8, 1),
  (⟨RX8, "millsAt", "(I)I"⟩, prog_10_method_3_code, 4, (some .int), 8, 1),
  (⟨RX8, "sacksWaiting", "()I"⟩, prog_10_method_4_code, 3, (some .int), 8, 0),
  (⟨RX8, "keptFrom", "(LTideMill$Mill;)I"⟩, prog_10_method_5_code, 5, (some .int), 8, 1),
  (⟨RX9, "<init>", "()V"⟩, prog_1_method_1_code, 1, none, 9, 0),
  (⟨RX9, "round", "(I)I"⟩, prog_1_method_2_code, 3, (some .int), 9, 1),
  (⟨RX9, "height", "(II)I"⟩, prog_1_method_3_code, 4, (some .int), 9, 2),
  (⟨RX9, "tide", "(I)I"⟩, prog_1_method_4_code, 2, (some .int), 9, 1),
  (⟨RX9, "pond", "(III)I"⟩, prog_1_method_5_code, 6, (some .int), 9, 3),
  (⟨RX9, "gate", "(II)I"⟩, prog_1_method_6_code, 4, (some .int), 9, 2),
  (⟨RX9, "water", "(II)I"⟩, prog_1_method_7_code, 4, (some .int), 9, 2),
  (⟨RX9, "channel", "(III)I"⟩, prog_1_method_8_code, 6, (some .int), 9, 3),
  (⟨RX9, "widen", "(II)I"⟩, prog_1_method_9_code, 4, (some .int), 9, 2),
  (⟨RX9, "about", "(II)I"⟩, prog_1_method_10_code, 4, (some .int), 9, 2),
  (⟨RX9, "mill", "(IIIII)I"⟩, prog_1_method_11_code, 8, (some .int), 9, 5),
  (⟨RX9, "as", "(II)I"⟩, prog_1_method_12_code, 3, (some .int), 9, 2),
  (⟨RX9, "stone", "(IIIII)I"⟩, prog_1_method_13_code, 9, (some .int), 9, 5),
  (⟨RX9, "on", "(III)I"⟩, prog_1_method_14_code, 6, (some .int), 9, 3),
  (⟨RX9, "sack", "(IIII)I"⟩, prog_1_method_15_code, 7, (some .int), 9, 4),
  (⟨RX9, "row", "(III)I"⟩, prog_1_method_16_code, 6, (some .int), 9, 3),
  (⟨RX9, "told", "(II)I"⟩, prog_1_method_17_code, 4, (some .int), 9, 2),
  (⟨RX9, "flour", "(I)I"⟩, prog_1_method_18_code, 2, (some .int), 9, 1),
  (⟨RX9, "hours", "(I)I"⟩, prog_1_method_19_code, 4, (some .int), 9, 1),
  (⟨RX9, "running", "()I"⟩, prog_1_method_20_code, 3, (some .int), 9, 0),
  (⟨RX9, "best", "(III)I"⟩, prog_1_method_21_code, 4, (some .int), 9, 3),
  (⟨RX9, "ahead", "(II)I"⟩, prog_1_method_22_code, 4, (some .int), 9, 2),
  (⟨RX9, "all", "(I)I"⟩, prog_1_method_23_code, 2, (some .int), 9, 1),
  (⟨RX9, "tell", "(I)I"⟩, prog_1_method_24_code, 2, (some .int), 9, 1),
  (⟨RX9, "check", "(I)I"⟩, prog_1_method_25_code, 4, (some .int), 9, 1),
  (⟨RX9, "count", "(I)I"⟩, prog_1_method_26_code, 2, (some .int), 9, 1),
  (⟨RX9, "found", "(I)I"⟩, prog_1_method_27_code, 2, (some .int), 9, 1),
  (⟨RX9, "finding", "(I)I"⟩, prog_1_method_28_code, 2, (some .int), 9, 1),
  (⟨RX9, "isWithin", "(III)Z"⟩, prog_1_method_29_code, 3, (some .boolean), 9, 3),
  (⟨RX9, "isWidth", "(I)Z"⟩, prog_1_method_30_code, 1, (some .boolean), 9, 1),
  (⟨RX9, "isKind", "(I)Z"⟩, prog_1_method_31_code, 1, (some .boolean), 9, 1),
  (⟨RX9, "isCustomer", "(I)Z"⟩, prog_1_method_32_code, 1, (some .boolean), 9, 1),
  (⟨RX9, "isCustomerOfKind", "(II)Z"⟩, prog_1_method_33_code, 2, (some .boolean), 9, 2),
  (⟨RX9, "isPond", "(I)Z"⟩, prog_1_method_34_code, 2, (some .boolean), 9, 1),
  (⟨RX9, "isMill", "(I)Z"⟩, prog_1_method_35_code, 2, (some .boolean), 9, 1),
  (⟨RX9, "waterInPonds", "()I"⟩, prog_1_method_36_code, 3, (some .int), 9, 0),
  (⟨RX9, "countWater", "()V"⟩, prog_1_method_37_code, 1, none, 9, 0),
  (⟨RX9, "handOutGround", "()I"⟩, prog_1_method_38_code, 5, (some .int), 9, 0),
  (⟨RX9, "startLater", "()V"⟩, prog_1_method_39_code, 1, none, 9, 0),
  (⟨RX9, "searchFrom", "(LTideMill$Search;III)V"⟩, prog_1_method_40_code, 5, none, 9, 4),
  (⟨RX9, "cut", "(II)I"⟩, prog_1_method_41_code, 2, (some .int), 9, 2),
  (⟨RX10, "<init>", "()V"⟩, prog_12_method_1_code, 2, none, 10, 0),
  (⟨RX10, "finding", "(J)J"⟩, prog_12_method_2_code, 3, (some .long), 10, 1),
  (⟨RX10, "within", "(III)Z"⟩, prog_12_method_3_code, 3, (some .boolean), 10, 3),
  (⟨RX10, "isPond", "(I)Z"⟩, prog_12_method_4_code, 2, (some .boolean), 10, 1),
  (⟨RX10, "isMill", "(I)Z"⟩, prog_12_method_5_code, 2, (some .boolean), 10, 1),
  (⟨RX10, "round", "(I)J"⟩, prog_12_method_6_code, 3, (some .long), 10, 1),
  (⟨RX10, "height", "(II)J"⟩, prog_12_method_7_code, 4, (some .long), 10, 2),
  (⟨RX10, "tideOf", "(I)I"⟩, prog_12_method_8_code, 2, (some .int), 10, 1),
  (⟨RX10, "tide", "(I)J"⟩, prog_12_method_9_code, 2, (some .long), 10, 1),
  (⟨RX10, "pond", "(III)J"⟩, prog_12_method_10_code, 4, (some .long), 10, 3),
  (⟨RX10, "gate", "(II)J"⟩, prog_12_method_11_code, 4, (some .long), 10, 2),
  (⟨RX10, "water", "(II)J"⟩, prog_12_method_12_code, 4, (some .long), 10, 2),
  (⟨RX10, "channel", "(III)J"⟩, prog_12_method_13_code, 4, (some .long), 10, 3),
  (⟨RX10, "widen", "(II)J"⟩, prog_12_method_14_code, 4, (some .long), 10, 2),
  (⟨RX10, "about", "(II)J"⟩, prog_12_method_15_code, 5, (some .long), 10, 2),
  (⟨RX10, "mill", "(IIIII)J"⟩, prog_12_method_16_code, 6, (some .long), 10, 5),
  (⟨RX10, "as", "(II)J"⟩, prog_12_method_17_code, 3, (some .long), 10, 2),
  (⟨RX10, "stone", "(IIIII)J"⟩, prog_12_method_18_code, 7, (some .long), 10, 5),
  (⟨RX10, "on", "(III)J"⟩, prog_12_method_19_code, 6, (some .long), 10, 3),
  (⟨RX10, "sack", "(IIII)J"⟩, prog_12_method_20_code, 6, (some .long), 10, 4),
  (⟨RX10, "row", "(III)J"⟩, prog_12_method_21_code, 4, (some .long), 10, 3),
  (⟨RX10, "told", "(II)J"⟩, prog_12_method_22_code, 4, (some .long), 10, 2),
  (⟨RX10, "flour", "(I)J"⟩, prog_12_method_23_code, 2, (some .long), 10, 1),
  (⟨RX10, "flows", "(II)V"⟩, prog_12_method_24_code, 3, none, 10, 2),
  (⟨RX10, "gates", "([II)V"⟩, prog_12_method_25_code, 7, none, 10, 2),
  (⟨RX10, "evens", "([I)V"⟩, prog_12_method_26_code, 10, none, 10, 1),
  (⟨RX10, "keptFor", "(I)I"⟩, prog_12_method_27_code, 4, (some .int), 10, 1),
  (⟨RX10, "turns", "([III)V"⟩, prog_12_method_28_code, 7, none, 10, 3),
  (⟨RX10, "turn", "([IIIII)V"⟩, prog_12_method_29_code, 9, none, 10, 5),
  (⟨RX10, "gives", "(II)V"⟩, prog_12_method_30_code, 7, none, 10, 2),
  (⟨RX10, "done", "(II)V"⟩, prog_12_method_31_code, 5, none, 10, 2),
  (⟨RX10, "spills", "([I)V"⟩, prog_12_method_32_code, 4, none, 10, 1),
  (⟨RX10, "goes", "([IIIZ)V"⟩, prog_12_method_33_code, 6, none, 10, 4),
  (⟨RX10, "begin", "()V"⟩, prog_12_method_34_code, 2, none, 10, 0),
  (⟨RX10, "hours", "(I)J"⟩, prog_12_method_35_code, 6, (some .long), 10, 1),
  (⟨RX10, "running", "()J"⟩, prog_12_method_36_code, 1, (some .long), 10, 0),
  (⟨RX10, "best", "(III)J"⟩, prog_12_method_37_code, 14, (some .long), 10, 3),
  (⟨RX10, "ahead", "(II)J"⟩, prog_12_method_38_code, 4, (some .long), 10, 2),
  (⟨RX10, "all", "(I)J"⟩, prog_12_method_39_code, 5, (some .long), 10, 1),
  (⟨RX10, "tell", "(I)J"⟩, prog_12_method_40_code, 2, (some .long), 10, 1),
  (⟨RX10, "check", "(I)J"⟩, prog_12_method_41_code, 4, (some .long), 10, 1),
  (⟨RX10, "count", "(I)J"⟩, prog_12_method_42_code, 4, (some .long), 10, 1),
  (⟨RX10, "found", "(I)J"⟩, prog_12_method_43_code, 2, (some .long), 10, 1),
  (⟨RJ6, "bitCount", "(I)I"⟩, prog_13_method_49_code, 1, (some .int), 12, 1),
  (⟨RL, "law", "([I)Z"⟩, code, 4, (some .boolean), 11, 1)]
def mDft : MethodName × ByteArray × Nat × Option FieldType × Nat × Nat := (⟨RX0, "", ""⟩, ⟨#[]⟩, 0, none, 0, 0)
def yn (k : Nat) : MethodName := (mTab.getD k mDft).1
def cd (k : Nat) : ByteArray := (mTab.getD k mDft).2.1
def mx (k : Nat) : Nat := (mTab.getD k mDft).2.2.1
def mrt (k : Nat) : Option FieldType := (mTab.getD k mDft).2.2.2.1
def ow (k : Nat) : Nat := (mTab.getD k mDft).2.2.2.2.1
def na (k : Nat) : Nat := (mTab.getD k mDft).2.2.2.2.2
/-- field links: (kl number, pool place, kl number, slot) -/
def fL : List (Nat × Nat × Nat × Nat) := [(7, 9, 7, 0), (9, 90, 7, 0), (7, 15, 7, 1), (9, 87, 7, 1), (3, 9, 3, 0), (1, 91, 3, 0), (8, 64, 3, 0), (9, 107, 3, 0), (3, 15, 3, 1), (9, 112, 3, 1), (3, 18, 3, 2), (9, 115, 3, 2), (3, 21, 3, 3), (9, 121, 3, 3), (0, 7, 0, 0), (1, 72, 0, 0), (9, 135, 0, 0), (0, 13, 0, 1), (1, 81, 0, 1), (9, 140, 0, 1), (0, 16, 0, 2), (1, 84, 0, 2), (9, 143, 0, 2), (6, 7, 6, 0), (9, 198, 6, 0), (6, 13, 6, 1), (1, 137, 6, 1), (9, 203, 6, 1), (6, 16, 6, 2), (9, 206, 6, 2), (6, 19, 6, 3), (9, 209, 6, 3), (6, 22, 6, 4), (9, 212, 6, 4), (4, 7, 4, 0), (2, 84, 4, 0), (9, 226, 4, 0), (4, 13, 4, 1), (2, 78, 4, 1), (9, 229, 4, 1), (4, 16, 4, 2), (2, 65, 4, 2), (9, 232, 4, 2), (4, 19, 4, 3), (2, 81, 4, 3), (9, 235, 4, 3), (2, 11, 2, 0), (1, 127, 2, 0), (9, 194, 2, 0), (2, 19, 2, 1), (9, 222, 2, 1), (2, 23, 2, 2), (9, 164, 2, 2), (2, 27, 2, 3), (8, 49, 2, 3), (1, 115, 2, 3), (9, 169, 2, 3), (2, 30, 2, 4), (8, 46, 2, 4), (9, 172, 2, 4), (2, 33, 2, 5), (8, 55, 2, 5), (9, 175, 2, 5), (2, 36, 2, 6), (9, 178, 2, 6), (2, 39, 2, 7), (1, 124, 2, 7), (9, 191, 2, 7), (2, 42, 2, 8), (8, 52, 2, 8), (9, 219, 2, 8), (2, 45, 2, 9), (9, 238, 2, 9), (2, 48, 2, 10), (9, 241, 2, 10), (2, 51, 2, 11), (9, 244, 2, 11), (2, 54, 2, 12), (9, 247, 2, 12), (2, 57, 2, 13), (9, 250, 2, 13), (2, 60, 2, 14), (9, 253, 2, 14), (8, 11, 8, 0), (1, 52, 8, 0), (9, 103, 8, 0), (8, 19, 8, 1), (1, 68, 8, 1), (9, 131, 8, 1), (8, 25, 8, 2), (1, 111, 8, 2), (9, 160, 8, 2), (8, 29, 8, 3), (1, 105, 8, 3), (8, 33, 8, 4), (1, 47, 8, 4), (9, 100, 8, 4), (8, 37, 8, 5), (1, 65, 8, 5), (9, 128, 8, 5), (8, 40, 8, 6), (1, 102, 8, 6), (9, 157, 8, 6), (1, 28, 1, 0), (1, 9, 1, 1), (9, 269, 1, 1), (1, 15, 1, 2), (9, 292, 1, 2), (1, 19, 1, 3), (9, 293, 1, 3), (1, 22, 1, 4), (9, 294, 1, 4), (1, 25, 1, 5), (9, 295, 1, 5), (5, 37, 5, 0), (5, 41, 5, 1), (5, 11, 5, 2), (5, 16, 5, 3), (5, 20, 5, 4), (9, 312, 5, 4), (5, 23, 5, 5), (5, 26, 5, 6), (9, 279, 5, 6), (5, 29, 5, 7), (9, 282, 5, 7), (9, 10, 9, 0), (9, 19, 9, 1), (9, 28, 9, 2), (9, 37, 9, 3), (9, 41, 9, 4), (9, 45, 9, 5), (9, 48, 9, 6), (9, 51, 9, 7), (9, 54, 9, 8), (9, 57, 9, 9), (9, 61, 9, 10), (9, 64, 9, 11), (9, 67, 9, 12), (9, 70, 9, 13), (9, 73, 9, 14), (9, 76, 9, 15), (10, 147, 10, 0), (10, 9, 10, 1), (10, 13, 10, 2), (10, 111, 10, 3), (10, 17, 10, 4), (10, 20, 10, 5), (10, 23, 10, 6), (10, 26, 10, 7), (10, 29, 10, 8), (10, 136, 10, 9), (10, 32, 10, 10), (10, 35, 10, 11), (10, 38, 10, 12), (10, 118, 10, 13), (10, 41, 10, 14), (10, 44, 10, 15), (10, 47, 10, 16), (10, 50, 10, 17), (10, 53, 10, 18), (10, 56, 10, 19), (10, 59, 10, 20), (10, 62, 10, 21), (10, 65, 10, 22), (10, 68, 10, 23), (10, 144, 10, 24), (10, 71, 10, 25), (10, 74, 10, 26), (10, 77, 10, 27), (10, 81, 10, 28), (10, 84, 10, 29), (10, 204, 10, 30), (10, 87, 10, 31), (10, 90, 10, 32), (10, 93, 10, 33), (10, 164, 10, 34), (10, 96, 10, 35), (10, 154, 10, 36)]
/-- method links: (kl number, pool place, kind, method) -/
def mLk : List (Nat × Nat × Nat × Nat) := [(11, 9, 2, 37), (9, 1, 5, 0), (9, 9, 2, 30), (7, 3, 5, 0), (7, 19, 8, 0), (7, 25, 6, 0), (9, 18, 2, 32), (8, 3, 5, 0), (8, 43, 4, 15), (3, 3, 5, 0), (8, 44, 4, 0), (0, 1, 5, 0), (8, 45, 2, 11), (2, 3, 5, 0), (2, 63, 4, 27), (6, 1, 5, 0), (2, 64, 4, 20), (4, 1, 5, 0), (9, 25, 2, 1), (1, 3, 5, 0), (9, 34, 2, 21), (5, 3, 5, 0), (5, 34, 2, 1), (11, 13, 0, 38), (9, 79, 1, 65), (9, 83, 0, 64), (11, 20, 0, 39), (11, 27, 0, 40), (9, 93, 0, 31), (11, 32, 0, 41), (9, 96, 1, 66), (11, 39, 0, 42), (9, 118, 0, 70), (11, 44, 0, 43), (9, 124, 0, 17), (11, 49, 0, 44), (11, 54, 0, 45), (11, 59, 0, 46), (9, 144, 0, 16), (3, 24, 3, 77), (9, 147, 0, 34), (11, 64, 0, 47), (9, 150, 1, 67), (9, 153, 1, 69), (9, 216, 1, 68), (9, 181, 0, 33), (11, 71, 0, 48), (9, 185, 0, 71), (9, 188, 0, 12), (11, 76, 0, 49), (11, 81, 0, 50), (11, 86, 0, 51), (11, 93, 0, 52), (11, 98, 0, 53), (11, 103, 0, 54), (11, 108, 0, 55), (9, 256, 0, 2), (1, 32, 0, 3), (1, 56, 0, 18), (3, 28, 0, 16), (3, 32, 7, 0), (1, 62, 0, 19), (1, 36, 0, 4), (1, 77, 0, 16), (1, 87, 0, 5), (1, 94, 3, 77), (1, 97, 7, 0), (1, 40, 0, 6), (1, 108, 0, 7), (1, 120, 0, 36), (8, 58, 6, 0), (1, 131, 0, 28), (1, 140, 0, 29), (6, 26, 7, 0), (1, 44, 0, 8), (1, 143, 0, 17), (9, 260, 0, 73), (9, 263, 0, 74), (9, 296, 0, 10), (9, 299, 0, 9), (9, 302, 0, 13), (2, 68, 7, 0), (2, 74, 0, 14), (2, 85, 3, 68), (11, 113, 0, 56), (9, 266, 0, 75), (9, 306, 9, 0), (11, 120, 0, 57), (9, 271, 0, 22), (5, 45, 9, 0), (9, 275, 1, 76), (9, 315, 0, 26), (5, 68, 1, 121), (9, 319, 0, 23), (5, 51, 0, 25), (5, 59, 0, 31), (5, 64, 0, 2), (5, 55, 0, 9), (9, 322, 0, 24), (11, 125, 0, 58), (11, 130, 0, 59), (9, 285, 0, 72), (11, 135, 0, 60), (11, 140, 0, 61), (11, 145, 0, 62), (9, 288, 0, 35), (11, 150, 0, 63), (11, 12, 2, 78), (10, 3, 5, 0), (10, 99, 8, 0), (10, 105, 6, 0), (11, 17, 0, 83), (10, 114, 1, 80), (10, 123, 0, 79), (11, 24, 0, 84), (11, 30, 0, 86), (10, 127, 0, 85), (11, 36, 0, 87), (11, 42, 0, 88), (10, 132, 0, 81), (11, 47, 0, 89), (11, 52, 0, 90), (11, 57, 0, 91), (11, 62, 0, 92), (11, 68, 0, 93), (11, 74, 0, 94), (10, 139, 0, 82), (11, 79, 0, 95), (11, 84, 0, 96), (11, 90, 0, 97), (11, 96, 0, 98), (11, 101, 0, 99), (11, 106, 0, 100), (11, 111, 0, 112), (10, 195, 0, 110), (10, 180, 0, 102), (10, 158, 7, 0), (10, 161, 0, 101), (10, 184, 0, 103), (10, 188, 0, 105), (10, 167, 0, 106), (10, 171, 0, 104), (10, 174, 0, 107), (10, 177, 0, 108), (10, 192, 0, 109), (11, 117, 0, 113), (10, 199, 0, 111), (11, 123, 0, 114), (11, 128, 0, 115), (11, 133, 0, 116), (11, 138, 0, 117), (11, 143, 0, 118), (11, 148, 0, 119), (11, 153, 0, 120)]
def cL : List (Nat × Nat × Int32) := [(9, 291, -1000000000), (12, 265, 1431655765), (12, 266, 858993459), (12, 267, 252645135)]
def cJ : List (Nat × Nat × Int64) := [(10, 121, -1000000001), (10, 109, -1000000000), (10, 130, -1000000004), (10, 142, -1000000005), (10, 150, -1000000003), (10, 152, -1000000002), (10, 202, -1)]
/-- kl links of new and anewarray: (kl number, pool place, kl number) -/
def nL : List (Nat × Nat × Nat) := [(11, 7, 9), (9, 7, 7), (9, 16, 8), (8, 9, 3), (8, 17, 0), (8, 23, 2), (2, 9, 6), (2, 17, 4), (9, 23, 1), (9, 32, 5), (5, 32, 1), (11, 10, 10)]
def nestL : List Cond := [.methodLinkNest (RN 8) 43 (yn 15) "TideMill", .methodLinkNest (RN 8) 44 (yn 0) "TideMill", .methodLinkNest (RN 2) 63 (yn 27) "TideMill", .methodLinkNest (RN 2) 64 (yn 20) "TideMill", .methodLinkNest (RN 3) 24 (yn 77) "TideMill", .methodLinkNest (RN 1) 94 (yn 77) "TideMill", .methodLinkNest (RN 2) 85 (yn 68) "TideMill"]
end
section
-- what the tables hold of the names: closed facts, by the kernel (gen_checks.py)
theorem nmN : ∀ ci, ci < 11 → ∀ a, a < nfN ci → ∀ b, b < nfN ci → a ≠ b → (TN ci a).2.1 ≠ (TN ci b).2.1 := by decide +kernel
theorem tyN_ok : ∀ ci, ci < 11 → ∀ k, k < nfN ci → parseFieldDescriptor (TN ci k).2.2.1 = some (tyN ci k) := by decide +kernel
theorem lw_inP {ws : List Cond} (ps : List Nat) (h : ws = ps.filterMap (fun i => lw_tbl[i]?)) : ∀ w ∈ ws, w ∈ lw_tbl := by
  intro w hw
  rw [h] at hw
  obtain ⟨i, -, hi⟩ := List.mem_filterMap.mp hw
  exact List.mem_of_getElem? hi
theorem lw_goodP {ws : List Cond} (ps : List Nat) (h : ws = ps.filterMap (fun i => lw_tbl[i]?)) (g : ws.all goodWord = true) : ∀ w ∈ ws, w ∈ lw_good := fun w hw => List.mem_filter.mpr ⟨lw_inP ps h w hw, List.all_eq_true.mp g w hw⟩
theorem lw_good_in {w : Cond} (h : w ∈ lw_good) : w ∈ lw_tbl := (List.mem_filter.mp h).1
theorem lw_good_g {w : Cond} (h : w ∈ lw_good) : goodWord w = true := (List.mem_filter.mp h).2
theorem inN : ∀ ci, ci < 11 → ∀ w ∈ u_ws (RN ci) (TN ci) (nfN ci), w ∈ lw_good := fun ci hc w hw => lw_goodP (ws := (List.range 11).flatMap (fun ci => u_ws (RN ci) (TN ci) (nfN ci))) [117, 119, 121, 306, 308, 310, 312, 314, 316, 223, 225, 227, 229, 231, 233, 235, 237, 239, 241, 243, 245, 247, 249, 251, 94, 96, 98, 100, 177, 179, 181, 183, 340, 342, 344, 346, 348, 350, 352, 354, 149, 151, 153, 155, 157, 61, 63, 274, 276, 278, 280, 282, 284, 286, 373, 375, 377, 379, 381, 383, 385, 387, 389, 391, 393, 395, 397, 399, 401, 403, 742, 744, 746, 748, 750, 752, 754, 756, 758, 760, 762, 764, 766, 768, 770, 772, 774, 776, 778, 780, 782, 784, 786, 788, 790, 792, 794, 796, 798, 800, 802, 804, 806, 808, 810, 812, 814] (by decide +kernel) (by decide +kernel) w (List.mem_flatMap.mpr ⟨ci, List.mem_range.mpr hc, hw⟩)
def fCond (q : Nat × Nat × Nat × Nat) : Cond := .fieldLink (RN q.1) q.2.1 (TN q.2.2.1 q.2.2.2).1 (TN q.2.2.1 q.2.2.2).2.1 (TN q.2.2.1 q.2.2.2).2.2.1
theorem fL_ok1 : ∀ q ∈ fL, q.2.2.1 < 11 ∧ q.2.2.2 < nfN q.2.2.1 := by decide +kernel
theorem fL_ok : ∀ q ∈ fL, fCond q ∈ lw_good := fun q hq => lw_goodP (ws := fL.map fCond) [57, 58, 59, 60, 84, 85, 86, 87, 88, 89, 90, 91, 92, 93, 108, 109, 110, 111, 112, 113, 114, 115, 116, 138, 139, 140, 141, 142, 143, 144, 145, 146, 147, 148, 165, 166, 167, 168, 169, 170, 171, 172, 173, 174, 175, 176, 186, 187, 188, 189, 190, 191, 192, 193, 194, 195, 196, 197, 198, 199, 200, 201, 202, 203, 204, 205, 206, 207, 208, 209, 210, 211, 212, 213, 214, 215, 216, 217, 218, 219, 220, 221, 222, 254, 255, 256, 257, 258, 259, 260, 261, 262, 263, 264, 265, 266, 267, 268, 269, 270, 271, 272, 273, 295, 296, 297, 298, 299, 300, 301, 302, 303, 304, 305, 329, 330, 331, 332, 333, 334, 335, 336, 337, 338, 339, 357, 358, 359, 360, 361, 362, 363, 364, 365, 366, 367, 368, 369, 370, 371, 372, 705, 706, 707, 708, 709, 710, 711, 712, 713, 714, 715, 716, 717, 718, 719, 720, 721, 722, 723, 724, 725, 726, 727, 728, 729, 730, 731, 732, 733, 734, 735, 736, 737, 738, 739, 740, 741] (by decide +kernel) (by decide +kernel) _ (List.mem_map.mpr ⟨q, hq, rfl⟩)
def mKinds (q : Nat × Nat × Nat × Nat) : List Cond :=
  if q.2.2.1 = 0 then [.methodLink (RN q.1) q.2.1 (yn q.2.2.2), .instanceMethod (yn q.2.2.2), .selects (RN (ow q.2.2.2)) (yn q.2.2.2) (yn q.2.2.2), .initialized (RN (ow q.2.2.2))]
  else if q.2.2.1 = 1 then [.methodLink (RN q.1) q.2.1 (yn q.2.2.2), .static (yn q.2.2.2), .initialized (RN (ow q.2.2.2))]
  else if q.2.2.1 = 2 then [.methodLink (RN q.1) q.2.1 (yn q.2.2.2), .instanceMethod (yn q.2.2.2), .initialized (RN (ow q.2.2.2))]
  else if q.2.2.1 = 3 then [.static (yn q.2.2.2), .initialized (RN (ow q.2.2.2))]
  else if q.2.2.1 = 4 then [.instanceMethod (yn q.2.2.2), .initialized (RN (ow q.2.2.2))]
  else if q.2.2.1 = 5 then [.methodLink (RN q.1) q.2.1 Lib.objectInit, .instanceMethod Lib.objectInit]
  else if q.2.2.1 = 6 then [.methodLink (RN q.1) q.2.1 Lib.Math.max.name, .static Lib.Math.max.name, .initialized "java/lang/Math"]
  else if q.2.2.1 = 7 then [.methodLink (RN q.1) q.2.1 Lib.Math.min.name, .static Lib.Math.min.name, .initialized "java/lang/Math"]
  else if q.2.2.1 = 8 then [.methodLink (RN q.1) q.2.1 Lib.Math.abs.name, .static Lib.Math.abs.name, .initialized "java/lang/Math"]
  else if q.2.2.1 = 9 then [.methodLink (RN q.1) q.2.1 arraycopyName, .native arraycopyName, .static arraycopyName, .initialized "java/lang/System"]
  else []
theorem mLk_ok : ∀ q ∈ mLk, ∀ w ∈ mKinds q, w ∈ lw_good := fun q hq w hw => lw_goodP (ws := mLk.flatMap mKinds) [39, 40, 23, 42, 43, 47, 48, 24, 50, 43, 51, 52, 25, 54, 55, 25, 69, 70, 26, 72, 43, 81, 27, 83, 43, 105, 28, 107, 43, 125, 126, 29, 128, 43, 135, 30, 137, 43, 162, 31, 164, 43, 291, 292, 32, 294, 43, 321, 322, 33, 324, 43, 328, 292, 32, 406, 407, 408, 23, 410, 411, 23, 413, 415, 0, 23, 418, 419, 420, 23, 422, 423, 424, 23, 426, 427, 428, 24, 430, 431, 432, 23, 434, 435, 23, 437, 438, 439, 23, 441, 443, 1, 23, 445, 446, 447, 23, 449, 450, 451, 27, 453, 454, 455, 23, 457, 458, 459, 23, 461, 462, 463, 23, 465, 466, 467, 27, 470, 23, 472, 473, 474, 26, 476, 477, 478, 23, 480, 481, 23, 483, 484, 23, 486, 487, 23, 489, 490, 491, 26, 493, 494, 495, 23, 497, 499, 2, 23, 501, 502, 503, 29, 505, 506, 507, 23, 509, 510, 511, 23, 513, 514, 515, 23, 517, 518, 519, 23, 521, 522, 523, 23, 525, 526, 527, 23, 529, 530, 531, 23, 533, 534, 535, 32, 537, 538, 539, 32, 541, 542, 543, 27, 545, 466, 467, 27, 546, 547, 25, 549, 550, 551, 27, 553, 554, 555, 32, 557, 466, 467, 27, 558, 559, 560, 32, 470, 23, 563, 547, 25, 564, 565, 566, 32, 568, 569, 570, 32, 572, 573, 574, 26, 576, 55, 25, 577, 578, 579, 30, 581, 582, 583, 30, 585, 547, 25, 586, 587, 588, 32, 590, 450, 451, 27, 591, 593, 3, 23, 595, 597, 4, 23, 599, 600, 601, 32, 603, 604, 605, 32, 607, 608, 609, 29, 611, 547, 25, 612, 613, 614, 29, 487, 23, 617, 618, 619, 23, 621, 623, 5, 23, 625, 627, 626, 35, 628, 629, 630, 23, 632, 633, 634, 33, 636, 627, 626, 35, 637, 638, 23, 640, 641, 642, 33, 644, 645, 36, 650, 651, 652, 33, 654, 655, 656, 33, 658, 427, 428, 24, 659, 534, 535, 32, 660, 604, 605, 32, 661, 662, 663, 33, 665, 666, 667, 23, 669, 670, 671, 23, 673, 675, 6, 23, 677, 678, 679, 23, 681, 682, 683, 23, 685, 686, 687, 23, 689, 690, 691, 26, 693, 694, 695, 23, 699, 700, 34, 702, 43, 703, 52, 25, 704, 55, 25, 818, 819, 820, 34, 822, 823, 34, 826, 828, 7, 34, 831, 832, 833, 34, 835, 836, 837, 34, 839, 841, 8, 34, 843, 844, 845, 34, 848, 849, 850, 34, 852, 854, 9, 34, 856, 857, 858, 34, 860, 861, 862, 34, 864, 865, 866, 34, 868, 869, 870, 34, 872, 873, 874, 34, 876, 877, 878, 34, 880, 882, 10, 34, 885, 886, 887, 34, 889, 890, 891, 34, 893, 894, 895, 34, 898, 899, 900, 34, 903, 904, 905, 34, 907, 908, 909, 34, 911, 912, 913, 34, 915, 917, 11, 34, 919, 921, 12, 34, 923, 547, 25, 924, 926, 13, 34, 928, 930, 14, 34, 932, 934, 15, 34, 936, 938, 16, 34, 940, 942, 17, 34, 944, 946, 18, 34, 948, 950, 19, 34, 952, 954, 20, 34, 956, 957, 958, 34, 960, 962, 21, 34, 964, 965, 966, 34, 969, 970, 971, 34, 973, 974, 975, 34, 977, 978, 979, 34, 981, 982, 983, 34, 985, 986, 987, 34, 989, 990, 991, 34] (by decide +kernel) (by decide +kernel) w (List.mem_flatMap.mpr ⟨q, hq, hw⟩)
theorem mLk_name : ∀ q ∈ mLk, q.2.2.1 ≤ 4 → q.2.2.2 < 122 ∧ ((q.2.2.1 = 2 ∨ q.2.2.1 = 4) → (yn q.2.2.2).name = "<init>" ∧ mrt q.2.2.2 = none) := by decide +kernel
theorem mLk_own : ∀ q ∈ mLk, q.2.2.1 = 0 → ow q.2.2.2 < 11 := by decide +kernel
theorem nestL_in : ∀ w ∈ nestL, w ∈ lw_tbl := lw_inP [80, 104, 134, 161, 469, 562, 616] (by decide +kernel)
theorem mLk_nest : ∀ q ∈ mLk, q.2.2.1 = 3 ∨ q.2.2.1 = 4 → Cond.methodLinkNest (RN q.1) q.2.1 (yn q.2.2.2) "TideMill" ∈ nestL := by decide +kernel
theorem yn_ok : ∀ k, k < 122 → plainName (yn k).cls = true ∧ (yn k).cls ≠ "java/lang/invoke/MethodHandle" ∧ (yn k).cls ≠ "java/lang/invoke/VarHandle" ∧ (parseMethodDescriptor (yn k).desc).map (fun d => d.parameters.length) = some (na k) ∧ mx k ≤ 20 ∧ (yn k).cls = RN (ow k) := by decide +kernel
theorem cL_ok : ∀ q ∈ cL, Cond.constant (RN q.1) q.2.1 q.2.2 ∈ lw_good := fun q hq => lw_goodP (ws := cL.map (fun q => Cond.constant (RN q.1) q.2.1 q.2.2)) [417, 647, 648, 649] (by decide +kernel) (by decide +kernel) _ (List.mem_map.mpr ⟨q, hq, rfl⟩)
theorem cJ_ok : ∀ q ∈ cJ, Cond.constantLong (RN q.1) q.2.1 q.2.2 ∈ lw_good := fun q hq => lw_goodP (ws := cJ.map (fun q => Cond.constantLong (RN q.1) q.2.1 q.2.2)) [825, 830, 847, 884, 897, 902, 968] (by decide +kernel) (by decide +kernel) _ (List.mem_map.mpr ⟨q, hq, rfl⟩)
def nCond (q : Nat × Nat × Nat) : List Cond := [Cond.classLink (RN q.1) q.2.1 (RN q.2.2), Cond.instantiable (RN q.2.2) (nfN q.2.2), Cond.initialized (RN q.2.2)]
theorem nL_ok1 : ∀ q ∈ nL, q.2.2 < 11 := by decide +kernel
theorem nL_ok : ∀ q ∈ nL, ∀ w ∈ nCond q, w ∈ lw_good := fun q hq w hw => lw_goodP (ws := nL.flatMap nCond) [37, 38, 23, 45, 46, 24, 67, 68, 26, 73, 79, 27, 75, 103, 28, 77, 124, 29, 129, 133, 30, 131, 160, 31, 289, 290, 32, 319, 320, 33, 327, 290, 32, 697, 698, 34] (by decide +kernel) (by decide +kernel) w (List.mem_flatMap.mpr ⟨q, hq, hw⟩)
theorem arr_ok : ∀ w ∈ [Cond.arrayClass .int, Cond.arrayClass .long], w ∈ lw_good := lw_goodP [66, 817] (by decide +kernel) (by decide +kernel)
def aoL : List Nat := [3, 0, 2, 6, 4]
theorem aoL_in : ∀ k ∈ aoL, Cond.arrayOver (.object (RN k)) ∈ lw_tbl := fun k hk => lw_inP (ws := aoL.map (fun k => Cond.arrayOver (.object (RN k)))) [74, 76, 78, 130, 132] (by decide +kernel) _ (List.mem_map.mpr ⟨k, hk, rfl⟩)
theorem ao2_in : ∀ w ∈ [Cond.arrayOver (.array .int)], w ∈ lw_tbl := lw_inP [326] (by decide +kernel)
theorem cl2_in : ∀ w ∈ [Cond.classLink (RN 5) 9 "[[I"], w ∈ lw_good := lw_goodP [325] (by decide +kernel) (by decide +kernel)
def mCode (k : Nat) : Cond := .code (yn k) (cd k) (mx k) (mrt k)
set_option maxRecDepth 100000 in
theorem mCode_0 : lw_tbl[106]? = some (mCode 0) := rfl
set_option maxRecDepth 100000 in
theorem mCode_1 : lw_tbl[293]? = some (mCode 1) := rfl
set_option maxRecDepth 100000 in
theorem mCode_2 : lw_tbl[536]? = some (mCode 2) := rfl
set_option maxRecDepth 100000 in
theorem mCode_3 : lw_tbl[540]? = some (mCode 3) := rfl
set_option maxRecDepth 100000 in
theorem mCode_4 : lw_tbl[556]? = some (mCode 4) := rfl
set_option maxRecDepth 100000 in
theorem mCode_5 : lw_tbl[561]? = some (mCode 5) := rfl
set_option maxRecDepth 100000 in
theorem mCode_6 : lw_tbl[567]? = some (mCode 6) := rfl
set_option maxRecDepth 100000 in
theorem mCode_7 : lw_tbl[571]? = some (mCode 7) := rfl
set_option maxRecDepth 100000 in
theorem mCode_8 : lw_tbl[589]? = some (mCode 8) := rfl
set_option maxRecDepth 100000 in
theorem mCode_9 : lw_tbl[606]? = some (mCode 9) := rfl
set_option maxRecDepth 100000 in
theorem mCode_10 : lw_tbl[602]? = some (mCode 10) := rfl
set_option maxRecDepth 100000 in
theorem mCode_11 : lw_tbl[127]? = some (mCode 11) := rfl
set_option maxRecDepth 100000 in
theorem mCode_12 : lw_tbl[504]? = some (mCode 12) := rfl
set_option maxRecDepth 100000 in
theorem mCode_13 : lw_tbl[610]? = some (mCode 13) := rfl
set_option maxRecDepth 100000 in
theorem mCode_14 : lw_tbl[615]? = some (mCode 14) := rfl
set_option maxRecDepth 100000 in
theorem mCode_15 : lw_tbl[82]? = some (mCode 15) := rfl
set_option maxRecDepth 100000 in
theorem mCode_16 : lw_tbl[468]? = some (mCode 16) := rfl
set_option maxRecDepth 100000 in
theorem mCode_17 : lw_tbl[452]? = some (mCode 17) := rfl
set_option maxRecDepth 100000 in
theorem mCode_18 : lw_tbl[544]? = some (mCode 18) := rfl
set_option maxRecDepth 100000 in
theorem mCode_19 : lw_tbl[552]? = some (mCode 19) := rfl
set_option maxRecDepth 100000 in
theorem mCode_20 : lw_tbl[163]? = some (mCode 20) := rfl
set_option maxRecDepth 100000 in
theorem mCode_21 : lw_tbl[323]? = some (mCode 21) := rfl
set_option maxRecDepth 100000 in
theorem mCode_22 : lw_tbl[635]? = some (mCode 22) := rfl
set_option maxRecDepth 100000 in
theorem mCode_23 : lw_tbl[653]? = some (mCode 23) := rfl
set_option maxRecDepth 100000 in
theorem mCode_24 : lw_tbl[664]? = some (mCode 24) := rfl
set_option maxRecDepth 100000 in
theorem mCode_25 : lw_tbl[657]? = some (mCode 25) := rfl
set_option maxRecDepth 100000 in
theorem mCode_26 : lw_tbl[643]? = some (mCode 26) := rfl
set_option maxRecDepth 100000 in
theorem mCode_27 : lw_tbl[136]? = some (mCode 27) := rfl
set_option maxRecDepth 100000 in
theorem mCode_28 : lw_tbl[580]? = some (mCode 28) := rfl
set_option maxRecDepth 100000 in
theorem mCode_29 : lw_tbl[584]? = some (mCode 29) := rfl
set_option maxRecDepth 100000 in
theorem mCode_30 : lw_tbl[49]? = some (mCode 30) := rfl
set_option maxRecDepth 100000 in
theorem mCode_31 : lw_tbl[429]? = some (mCode 31) := rfl
set_option maxRecDepth 100000 in
theorem mCode_32 : lw_tbl[71]? = some (mCode 32) := rfl
set_option maxRecDepth 100000 in
theorem mCode_33 : lw_tbl[492]? = some (mCode 33) := rfl
set_option maxRecDepth 100000 in
theorem mCode_34 : lw_tbl[475]? = some (mCode 34) := rfl
set_option maxRecDepth 100000 in
theorem mCode_35 : lw_tbl[692]? = some (mCode 35) := rfl
set_option maxRecDepth 100000 in
theorem mCode_36 : lw_tbl[575]? = some (mCode 36) := rfl
set_option maxRecDepth 100000 in
theorem mCode_37 : lw_tbl[41]? = some (mCode 37) := rfl
set_option maxRecDepth 100000 in
theorem mCode_38 : lw_tbl[409]? = some (mCode 38) := rfl
set_option maxRecDepth 100000 in
theorem mCode_39 : lw_tbl[421]? = some (mCode 39) := rfl
set_option maxRecDepth 100000 in
theorem mCode_40 : lw_tbl[425]? = some (mCode 40) := rfl
set_option maxRecDepth 100000 in
theorem mCode_41 : lw_tbl[433]? = some (mCode 41) := rfl
set_option maxRecDepth 100000 in
theorem mCode_42 : lw_tbl[440]? = some (mCode 42) := rfl
set_option maxRecDepth 100000 in
theorem mCode_43 : lw_tbl[448]? = some (mCode 43) := rfl
set_option maxRecDepth 100000 in
theorem mCode_44 : lw_tbl[456]? = some (mCode 44) := rfl
set_option maxRecDepth 100000 in
theorem mCode_45 : lw_tbl[460]? = some (mCode 45) := rfl
set_option maxRecDepth 100000 in
theorem mCode_46 : lw_tbl[464]? = some (mCode 46) := rfl
set_option maxRecDepth 100000 in
theorem mCode_47 : lw_tbl[479]? = some (mCode 47) := rfl
set_option maxRecDepth 100000 in
theorem mCode_48 : lw_tbl[496]? = some (mCode 48) := rfl
set_option maxRecDepth 100000 in
theorem mCode_49 : lw_tbl[508]? = some (mCode 49) := rfl
set_option maxRecDepth 100000 in
theorem mCode_50 : lw_tbl[512]? = some (mCode 50) := rfl
set_option maxRecDepth 100000 in
theorem mCode_51 : lw_tbl[516]? = some (mCode 51) := rfl
set_option maxRecDepth 100000 in
theorem mCode_52 : lw_tbl[520]? = some (mCode 52) := rfl
set_option maxRecDepth 100000 in
theorem mCode_53 : lw_tbl[524]? = some (mCode 53) := rfl
set_option maxRecDepth 100000 in
theorem mCode_54 : lw_tbl[528]? = some (mCode 54) := rfl
set_option maxRecDepth 100000 in
theorem mCode_55 : lw_tbl[532]? = some (mCode 55) := rfl
set_option maxRecDepth 100000 in
theorem mCode_56 : lw_tbl[620]? = some (mCode 56) := rfl
set_option maxRecDepth 100000 in
theorem mCode_57 : lw_tbl[631]? = some (mCode 57) := rfl
set_option maxRecDepth 100000 in
theorem mCode_58 : lw_tbl[668]? = some (mCode 58) := rfl
set_option maxRecDepth 100000 in
theorem mCode_59 : lw_tbl[672]? = some (mCode 59) := rfl
set_option maxRecDepth 100000 in
theorem mCode_60 : lw_tbl[680]? = some (mCode 60) := rfl
set_option maxRecDepth 100000 in
theorem mCode_61 : lw_tbl[684]? = some (mCode 61) := rfl
set_option maxRecDepth 100000 in
theorem mCode_62 : lw_tbl[688]? = some (mCode 62) := rfl
set_option maxRecDepth 100000 in
theorem mCode_63 : lw_tbl[696]? = some (mCode 63) := rfl
set_option maxRecDepth 100000 in
theorem mCode_64 : lw_tbl[416]? = some (mCode 64) := rfl
set_option maxRecDepth 100000 in
theorem mCode_65 : lw_tbl[412]? = some (mCode 65) := rfl
set_option maxRecDepth 100000 in
theorem mCode_66 : lw_tbl[436]? = some (mCode 66) := rfl
set_option maxRecDepth 100000 in
theorem mCode_67 : lw_tbl[482]? = some (mCode 67) := rfl
set_option maxRecDepth 100000 in
theorem mCode_68 : lw_tbl[488]? = some (mCode 68) := rfl
set_option maxRecDepth 100000 in
theorem mCode_69 : lw_tbl[485]? = some (mCode 69) := rfl
set_option maxRecDepth 100000 in
theorem mCode_70 : lw_tbl[444]? = some (mCode 70) := rfl
set_option maxRecDepth 100000 in
theorem mCode_71 : lw_tbl[500]? = some (mCode 71) := rfl
set_option maxRecDepth 100000 in
theorem mCode_72 : lw_tbl[676]? = some (mCode 72) := rfl
set_option maxRecDepth 100000 in
theorem mCode_73 : lw_tbl[594]? = some (mCode 73) := rfl
set_option maxRecDepth 100000 in
theorem mCode_74 : lw_tbl[598]? = some (mCode 74) := rfl
set_option maxRecDepth 100000 in
theorem mCode_75 : lw_tbl[624]? = some (mCode 75) := rfl
set_option maxRecDepth 100000 in
theorem mCode_76 : lw_tbl[639]? = some (mCode 76) := rfl
set_option maxRecDepth 100000 in
theorem mCode_77 : lw_tbl[471]? = some (mCode 77) := rfl
set_option maxRecDepth 100000 in
theorem mCode_78 : lw_tbl[701]? = some (mCode 78) := rfl
set_option maxRecDepth 100000 in
theorem mCode_79 : lw_tbl[829]? = some (mCode 79) := rfl
set_option maxRecDepth 100000 in
theorem mCode_80 : lw_tbl[824]? = some (mCode 80) := rfl
set_option maxRecDepth 100000 in
theorem mCode_81 : lw_tbl[855]? = some (mCode 81) := rfl
set_option maxRecDepth 100000 in
theorem mCode_82 : lw_tbl[883]? = some (mCode 82) := rfl
set_option maxRecDepth 100000 in
theorem mCode_83 : lw_tbl[821]? = some (mCode 83) := rfl
set_option maxRecDepth 100000 in
theorem mCode_84 : lw_tbl[834]? = some (mCode 84) := rfl
set_option maxRecDepth 100000 in
theorem mCode_85 : lw_tbl[842]? = some (mCode 85) := rfl
set_option maxRecDepth 100000 in
theorem mCode_86 : lw_tbl[838]? = some (mCode 86) := rfl
set_option maxRecDepth 100000 in
theorem mCode_87 : lw_tbl[846]? = some (mCode 87) := rfl
set_option maxRecDepth 100000 in
theorem mCode_88 : lw_tbl[851]? = some (mCode 88) := rfl
set_option maxRecDepth 100000 in
theorem mCode_89 : lw_tbl[859]? = some (mCode 89) := rfl
set_option maxRecDepth 100000 in
theorem mCode_90 : lw_tbl[863]? = some (mCode 90) := rfl
set_option maxRecDepth 100000 in
theorem mCode_91 : lw_tbl[867]? = some (mCode 91) := rfl
set_option maxRecDepth 100000 in
theorem mCode_92 : lw_tbl[871]? = some (mCode 92) := rfl
set_option maxRecDepth 100000 in
theorem mCode_93 : lw_tbl[875]? = some (mCode 93) := rfl
set_option maxRecDepth 100000 in
theorem mCode_94 : lw_tbl[879]? = some (mCode 94) := rfl
set_option maxRecDepth 100000 in
theorem mCode_95 : lw_tbl[888]? = some (mCode 95) := rfl
set_option maxRecDepth 100000 in
theorem mCode_96 : lw_tbl[892]? = some (mCode 96) := rfl
set_option maxRecDepth 100000 in
theorem mCode_97 : lw_tbl[896]? = some (mCode 97) := rfl
set_option maxRecDepth 100000 in
theorem mCode_98 : lw_tbl[901]? = some (mCode 98) := rfl
set_option maxRecDepth 100000 in
theorem mCode_99 : lw_tbl[906]? = some (mCode 99) := rfl
set_option maxRecDepth 100000 in
theorem mCode_100 : lw_tbl[910]? = some (mCode 100) := rfl
set_option maxRecDepth 100000 in
theorem mCode_101 : lw_tbl[927]? = some (mCode 101) := rfl
set_option maxRecDepth 100000 in
theorem mCode_102 : lw_tbl[922]? = some (mCode 102) := rfl
set_option maxRecDepth 100000 in
theorem mCode_103 : lw_tbl[931]? = some (mCode 103) := rfl
set_option maxRecDepth 100000 in
theorem mCode_104 : lw_tbl[943]? = some (mCode 104) := rfl
set_option maxRecDepth 100000 in
theorem mCode_105 : lw_tbl[935]? = some (mCode 105) := rfl
set_option maxRecDepth 100000 in
theorem mCode_106 : lw_tbl[939]? = some (mCode 106) := rfl
set_option maxRecDepth 100000 in
theorem mCode_107 : lw_tbl[947]? = some (mCode 107) := rfl
set_option maxRecDepth 100000 in
theorem mCode_108 : lw_tbl[951]? = some (mCode 108) := rfl
set_option maxRecDepth 100000 in
theorem mCode_109 : lw_tbl[955]? = some (mCode 109) := rfl
set_option maxRecDepth 100000 in
theorem mCode_110 : lw_tbl[918]? = some (mCode 110) := rfl
set_option maxRecDepth 100000 in
theorem mCode_111 : lw_tbl[963]? = some (mCode 111) := rfl
set_option maxRecDepth 100000 in
theorem mCode_112 : lw_tbl[914]? = some (mCode 112) := rfl
set_option maxRecDepth 100000 in
theorem mCode_113 : lw_tbl[959]? = some (mCode 113) := rfl
set_option maxRecDepth 100000 in
theorem mCode_114 : lw_tbl[967]? = some (mCode 114) := rfl
set_option maxRecDepth 100000 in
theorem mCode_115 : lw_tbl[972]? = some (mCode 115) := rfl
set_option maxRecDepth 100000 in
theorem mCode_116 : lw_tbl[976]? = some (mCode 116) := rfl
set_option maxRecDepth 100000 in
theorem mCode_117 : lw_tbl[980]? = some (mCode 117) := rfl
set_option maxRecDepth 100000 in
theorem mCode_118 : lw_tbl[984]? = some (mCode 118) := rfl
set_option maxRecDepth 100000 in
theorem mCode_119 : lw_tbl[988]? = some (mCode 119) := rfl
set_option maxRecDepth 100000 in
theorem mCode_120 : lw_tbl[992]? = some (mCode 120) := rfl
set_option maxRecDepth 100000 in
theorem mCode_121 : lw_tbl[646]? = some (mCode 121) := rfl
theorem mCode_in : ∀ k, k < 122 → mCode k ∈ lw_good := by
  intro k hk
  refine List.mem_filter.mpr ⟨?_, rfl⟩
  match k, hk with
  | 0, _ => exact List.mem_of_getElem? mCode_0
  | 1, _ => exact List.mem_of_getElem? mCode_1
  | 2, _ => exact List.mem_of_getElem? mCode_2
  | 3, _ => exact List.mem_of_getElem? mCode_3
  | 4, _ => exact List.mem_of_getElem? mCode_4
  | 5, _ => exact List.mem_of_getElem? mCode_5
  | 6, _ => exact List.mem_of_getElem? mCode_6
  | 7, _ => exact List.mem_of_getElem? mCode_7
  | 8, _ => exact List.mem_of_getElem? mCode_8
  | 9, _ => exact List.mem_of_getElem? mCode_9
  | 10, _ => exact List.mem_of_getElem? mCode_10
  | 11, _ => exact List.mem_of_getElem? mCode_11
  | 12, _ => exact List.mem_of_getElem? mCode_12
  | 13, _ => exact List.mem_of_getElem? mCode_13
  | 14, _ => exact List.mem_of_getElem? mCode_14
  | 15, _ => exact List.mem_of_getElem? mCode_15
  | 16, _ => exact List.mem_of_getElem? mCode_16
  | 17, _ => exact List.mem_of_getElem? mCode_17
  | 18, _ => exact List.mem_of_getElem? mCode_18
  | 19, _ => exact List.mem_of_getElem? mCode_19
  | 20, _ => exact List.mem_of_getElem? mCode_20
  | 21, _ => exact List.mem_of_getElem? mCode_21
  | 22, _ => exact List.mem_of_getElem? mCode_22
  | 23, _ => exact List.mem_of_getElem? mCode_23
  | 24, _ => exact List.mem_of_getElem? mCode_24
  | 25, _ => exact List.mem_of_getElem? mCode_25
  | 26, _ => exact List.mem_of_getElem? mCode_26
  | 27, _ => exact List.mem_of_getElem? mCode_27
  | 28, _ => exact List.mem_of_getElem? mCode_28
  | 29, _ => exact List.mem_of_getElem? mCode_29
  | 30, _ => exact List.mem_of_getElem? mCode_30
  | 31, _ => exact List.mem_of_getElem? mCode_31
  | 32, _ => exact List.mem_of_getElem? mCode_32
  | 33, _ => exact List.mem_of_getElem? mCode_33
  | 34, _ => exact List.mem_of_getElem? mCode_34
  | 35, _ => exact List.mem_of_getElem? mCode_35
  | 36, _ => exact List.mem_of_getElem? mCode_36
  | 37, _ => exact List.mem_of_getElem? mCode_37
  | 38, _ => exact List.mem_of_getElem? mCode_38
  | 39, _ => exact List.mem_of_getElem? mCode_39
  | 40, _ => exact List.mem_of_getElem? mCode_40
  | 41, _ => exact List.mem_of_getElem? mCode_41
  | 42, _ => exact List.mem_of_getElem? mCode_42
  | 43, _ => exact List.mem_of_getElem? mCode_43
  | 44, _ => exact List.mem_of_getElem? mCode_44
  | 45, _ => exact List.mem_of_getElem? mCode_45
  | 46, _ => exact List.mem_of_getElem? mCode_46
  | 47, _ => exact List.mem_of_getElem? mCode_47
  | 48, _ => exact List.mem_of_getElem? mCode_48
  | 49, _ => exact List.mem_of_getElem? mCode_49
  | 50, _ => exact List.mem_of_getElem? mCode_50
  | 51, _ => exact List.mem_of_getElem? mCode_51
  | 52, _ => exact List.mem_of_getElem? mCode_52
  | 53, _ => exact List.mem_of_getElem? mCode_53
  | 54, _ => exact List.mem_of_getElem? mCode_54
  | 55, _ => exact List.mem_of_getElem? mCode_55
  | 56, _ => exact List.mem_of_getElem? mCode_56
  | 57, _ => exact List.mem_of_getElem? mCode_57
  | 58, _ => exact List.mem_of_getElem? mCode_58
  | 59, _ => exact List.mem_of_getElem? mCode_59
  | 60, _ => exact List.mem_of_getElem? mCode_60
  | 61, _ => exact List.mem_of_getElem? mCode_61
  | 62, _ => exact List.mem_of_getElem? mCode_62
  | 63, _ => exact List.mem_of_getElem? mCode_63
  | 64, _ => exact List.mem_of_getElem? mCode_64
  | 65, _ => exact List.mem_of_getElem? mCode_65
  | 66, _ => exact List.mem_of_getElem? mCode_66
  | 67, _ => exact List.mem_of_getElem? mCode_67
  | 68, _ => exact List.mem_of_getElem? mCode_68
  | 69, _ => exact List.mem_of_getElem? mCode_69
  | 70, _ => exact List.mem_of_getElem? mCode_70
  | 71, _ => exact List.mem_of_getElem? mCode_71
  | 72, _ => exact List.mem_of_getElem? mCode_72
  | 73, _ => exact List.mem_of_getElem? mCode_73
  | 74, _ => exact List.mem_of_getElem? mCode_74
  | 75, _ => exact List.mem_of_getElem? mCode_75
  | 76, _ => exact List.mem_of_getElem? mCode_76
  | 77, _ => exact List.mem_of_getElem? mCode_77
  | 78, _ => exact List.mem_of_getElem? mCode_78
  | 79, _ => exact List.mem_of_getElem? mCode_79
  | 80, _ => exact List.mem_of_getElem? mCode_80
  | 81, _ => exact List.mem_of_getElem? mCode_81
  | 82, _ => exact List.mem_of_getElem? mCode_82
  | 83, _ => exact List.mem_of_getElem? mCode_83
  | 84, _ => exact List.mem_of_getElem? mCode_84
  | 85, _ => exact List.mem_of_getElem? mCode_85
  | 86, _ => exact List.mem_of_getElem? mCode_86
  | 87, _ => exact List.mem_of_getElem? mCode_87
  | 88, _ => exact List.mem_of_getElem? mCode_88
  | 89, _ => exact List.mem_of_getElem? mCode_89
  | 90, _ => exact List.mem_of_getElem? mCode_90
  | 91, _ => exact List.mem_of_getElem? mCode_91
  | 92, _ => exact List.mem_of_getElem? mCode_92
  | 93, _ => exact List.mem_of_getElem? mCode_93
  | 94, _ => exact List.mem_of_getElem? mCode_94
  | 95, _ => exact List.mem_of_getElem? mCode_95
  | 96, _ => exact List.mem_of_getElem? mCode_96
  | 97, _ => exact List.mem_of_getElem? mCode_97
  | 98, _ => exact List.mem_of_getElem? mCode_98
  | 99, _ => exact List.mem_of_getElem? mCode_99
  | 100, _ => exact List.mem_of_getElem? mCode_100
  | 101, _ => exact List.mem_of_getElem? mCode_101
  | 102, _ => exact List.mem_of_getElem? mCode_102
  | 103, _ => exact List.mem_of_getElem? mCode_103
  | 104, _ => exact List.mem_of_getElem? mCode_104
  | 105, _ => exact List.mem_of_getElem? mCode_105
  | 106, _ => exact List.mem_of_getElem? mCode_106
  | 107, _ => exact List.mem_of_getElem? mCode_107
  | 108, _ => exact List.mem_of_getElem? mCode_108
  | 109, _ => exact List.mem_of_getElem? mCode_109
  | 110, _ => exact List.mem_of_getElem? mCode_110
  | 111, _ => exact List.mem_of_getElem? mCode_111
  | 112, _ => exact List.mem_of_getElem? mCode_112
  | 113, _ => exact List.mem_of_getElem? mCode_113
  | 114, _ => exact List.mem_of_getElem? mCode_114
  | 115, _ => exact List.mem_of_getElem? mCode_115
  | 116, _ => exact List.mem_of_getElem? mCode_116
  | 117, _ => exact List.mem_of_getElem? mCode_117
  | 118, _ => exact List.mem_of_getElem? mCode_118
  | 119, _ => exact List.mem_of_getElem? mCode_119
  | 120, _ => exact List.mem_of_getElem? mCode_120
  | 121, _ => exact List.mem_of_getElem? mCode_121
  | k + 122, h => exact absurd h (by omega)
theorem mObj_in : Cond.code Lib.objectInit ⟨#[0xb1]⟩ 1 none ∈ lw_good := List.mem_filter.mpr ⟨List.mem_of_getElem? (i := 44) (by decide +kernel), rfl⟩
theorem mMath_max : Cond.code Lib.Math.max.name Lib.Math.max.code 2 (some .int) ∈ lw_good := List.mem_filter.mpr ⟨List.mem_of_getElem? (i := 56) (by decide +kernel), rfl⟩
theorem mMath_min : Cond.code Lib.Math.min.name Lib.Math.min.code 2 (some .int) ∈ lw_good := List.mem_filter.mpr ⟨List.mem_of_getElem? (i := 548) (by decide +kernel), rfl⟩
theorem mMath_abs : Cond.code Lib.Math.abs.name Lib.Math.abs.code 1 (some .int) ∈ lw_good := List.mem_filter.mpr ⟨List.mem_of_getElem? (i := 53) (by decide +kernel), rfl⟩
theorem tt_multi : True := by
  have := @Jvm.Free.Multi.fill
  trivial
end
section
-- A SMALL MACHINE: cells with ints, longs, references; its run is a function. Address 0 is the script, which is only read.
abbrev mM : Type := Nat × Nat × (Nat → Nat × Nat) × (Nat → Nat → Int32) × (Nat → Nat → Int64) × (Nat → Nat → Option Nat)
def mN (h : mM) : Nat := h.1
def mZ (h : mM) : Nat := h.2.1
def mK (h : mM) (a : Nat) : Nat := if a = 0 then 19 else if a < h.1 ∧ (h.2.2.1 a).1 < 19 then (h.2.2.1 a).1 else 99
def mL (h : mM) (a : Nat) : Nat := (h.2.2.1 a).2
def mI (h : mM) (a k : Nat) : Int32 := h.2.2.2.1 a k
def mJ (h : mM) (a k : Nat) : Int64 := h.2.2.2.2.1 a k
def mR (h : mM) (a k : Nat) : Option Nat := h.2.2.2.2.2 a k
def wI (h : mM) (a k : Nat) (v : Int32) : mM := (h.1, h.2.1, h.2.2.1, fun a' k' => if a' = a ∧ k' = k then v else h.2.2.2.1 a' k', h.2.2.2.2.1, h.2.2.2.2.2)
def wJ (h : mM) (a k : Nat) (v : Int64) : mM := (h.1, h.2.1, h.2.2.1, h.2.2.2.1, fun a' k' => if a' = a ∧ k' = k then v else h.2.2.2.2.1 a' k', h.2.2.2.2.2)
def wR (h : mM) (a k : Nat) (v : Option Nat) : mM := (h.1, h.2.1, h.2.2.1, h.2.2.2.1, h.2.2.2.2.1, fun a' k' => if a' = a ∧ k' = k then v else h.2.2.2.2.2 a' k')
/-- ints sp .. sp + n of cell a copied to dp .. of cell b -/
def wC (h : mM) (a b sp dp n : Nat) : mM := (h.1, h.2.1, h.2.2.1, fun a' k' => if a' = b ∧ dp ≤ k' ∧ k' < dp + n then h.2.2.2.1 a (sp + (k' - dp)) else h.2.2.2.1 a' k', h.2.2.2.2.1, h.2.2.2.2.2)
/-- a new cell of kind q, with n slots, all 0 or null -/
def wN (h : mM) (q n : Nat) : mM := (h.1 + 1, h.2.1 + n, fun a => if a = h.1 then (q, n) else h.2.2.1 a, fun a k => if a = h.1 then 0 else h.2.2.2.1 a k, fun a k => if a = h.1 then 0 else h.2.2.2.2.1 a k, fun a k => if a = h.1 then none else h.2.2.2.2.2 a k)
def ixOK (i : Int32) (n : Nat) : Bool := decide (¬ (i < 0 ∨ n ≤ i.toNatClampNeg))
/-- the kind of the things that an array of references of kind q holds -/
def mEl (q : Nat) : Nat := if q = 13 then 3 else if q = 14 then 0 else if q = 15 then 2 else if q = 16 then 6 else if q = 17 then 4 else 98
/-- the kind of an array of things of kind q -/
def mAr (q : Nat) : Nat := if q = 3 then 13 else if q = 0 then 14 else if q = 2 then 15 else if q = 6 then 16 else if q = 4 then 17 else 98
abbrev mLs : Type := List (Option Value)
abbrev mX : Type := (Nat × mLs × List Value × mM) ⊕ (Option Value) ⊕ (Nat × List Value × List Value)
def mNx (pc : Nat) (L : mLs) (st : List Value) (h : mM) : Option mX := some (.inl (pc, L, st, h))
def mLong (o : Option Value) : Bool := match o with
  | some v => v.category == 2
  | none => false
def mClr (L : mLs) (i : Nat) : mLs := match i with
  | 0 => L
  | j + 1 => if mLong (L.getD j none) = true then L.set j none else L
def mS1 (L : mLs) (i : Nat) (v : Value) : mLs := (mClr L i).set i (some v)
def mS2 (L : mLs) (i : Nat) (v : Value) : mLs := ((mClr L i).set (i + 1) none).set i (some v)
def fGet (c i : Nat) : Option (Nat × Nat) := (fL.find? (fun q => q.1 == c && q.2.1 == i)).map (fun q => q.2.2)
def kGet (c i : Nat) : Option (Nat × Nat) := (mLk.find? (fun q => q.1 == c && q.2.1 == i)).map (fun q => q.2.2)
def cGet (c i : Nat) : Option Int32 := (cL.find? (fun q => q.1 == c && q.2.1 == i)).map (fun q => q.2.2)
def jGet (c i : Nat) : Option Int64 := (cJ.find? (fun q => q.1 == c && q.2.1 == i)).map (fun q => q.2.2)
def nGet (c i : Nat) : Option Nat := (nL.find? (fun q => q.1 == c && q.2.1 == i)).map (fun q => q.2.2)
def mCat (st : List Value) : Nat := (st.map fun v => v.category).sum
def mIsR (t : FieldType) : Bool := match t with
  | .object _ => true
  | .array _ => true
  | _ => false
def mZO (v : Int32) : Bool := v == 0 || v == 1
def mTg (pc : Nat) (off : Int) (L : mLs) (st : List Value) (h : mM) : Option mX := if 0 ≤ (pc : Int) + off then mNx ((pc : Int) + off).toNat L st h else none
def mCmp (c : ClassFile.Cond) (x y : Int32) : Bool := match c with
  | .eq => decide (x = y)
  | .ne => decide (¬ x = y)
  | .lt => decide (x < y)
  | .ge => decide (y ≤ x)
  | .gt => decide (y < x)
  | .le => decide (x ≤ y)
def mGetF (mi pc idx : Nat) (L : mLs) (st : List Value) (h : mM) : Option mX := match st with
  | .ref a :: r => match fGet (ow mi) idx with
    | some (ci, k) => if mK h a = ci then (if mIsR (tyN ci k) = true then (match mR h a k with
        | some b => mNx (pc + 3) L (.ref b :: r) h
        | none => none) else mNx (pc + 3) L (.int (mI h a k) :: r) h) else none
    | none => none
  | _ => none
def mPutF (mi pc idx : Nat) (L : mLs) (st : List Value) (h : mM) : Option mX := match st with
  | .int v :: .ref a :: r => match fGet (ow mi) idx with
    | some (ci, k) => if mK h a = ci ∧ (tyN ci k = .int ∨ (tyN ci k = .boolean ∧ mZO v = true)) ∧ (TN ci k).2.2.2 = false then mNx (pc + 3) L r (wI h a k v) else none
    | none => none
  | .ref b :: .ref a :: r => match fGet (ow mi) idx with
    | some (ci, k) => if mK h a = ci ∧ mIsR (tyN ci k) = true ∧ ((TN ci k).2.2.2 = false ∨ ((TN ci k).2.2.2 = true ∧ (yn mi).name = "<init>" ∧ (TN ci k).1 = RN (ow mi))) then mNx (pc + 3) L r (wR h a k (some b)) else none
    | none => none
  | _ => none
def mCallV (mi pc idx : Nat) (st : List Value) (h : mM) : Option mX := match kGet (ow mi) idx with
  | some (kd, mj) => match st.drop (na mj) with
    | .ref a :: r => if kd = 0 ∧ mK h a = ow mj ∧ na mj ≤ st.length ∧ mCat r ≤ 8 ∧ ((Value.ref a :: (st.take (na mj)).reverse).map Value.category).sum ≤ mx mj then some (.inr (.inr (mj, Value.ref a :: (st.take (na mj)).reverse, r))) else none
    | _ => none
  | none => none
def mCallI (mi pc idx : Nat) (L : mLs) (st : List Value) (h : mM) : Option mX := match kGet (ow mi) idx with
  | some (kd, mj) => if kd = 5 then (match st with
      | .ref a :: r => if mCat r ≤ 8 then mNx (pc + 3) L r h else none
      | _ => none) else match st.drop (na mj) with
    | .ref a :: r => if (kd = 2 ∨ kd = 4) ∧ na mj ≤ st.length ∧ mCat r ≤ 8 ∧ ((Value.ref a :: (st.take (na mj)).reverse).map Value.category).sum ≤ mx mj then some (.inr (.inr (mj, Value.ref a :: (st.take (na mj)).reverse, r))) else none
    | _ => none
  | none => none
def mCallS (mi pc idx : Nat) (L : mLs) (st : List Value) (h : mM) : Option mX := match kGet (ow mi) idx with
  | some (kd, mj) => if kd = 6 then (match st with
      | .int y :: .int x :: r => if mCat r ≤ 8 then mNx (pc + 3) L (.int (if x < y then y else x) :: r) h else none
      | _ => none) else if kd = 7 then (match st with
      | .int y :: .int x :: r => if mCat r ≤ 8 then mNx (pc + 3) L (.int (if y < x then y else x) :: r) h else none
      | _ => none) else if kd = 8 then (match st with
      | .int x :: r => if mCat r ≤ 8 then mNx (pc + 3) L (.int (if 0 ≤ x then x else 0 - x) :: r) h else none
      | _ => none) else if kd = 9 then (match st with
      | .int n :: .int dp :: .ref b :: .int sp :: .ref a :: r => if mCat r ≤ 8 ∧ mK h a = 11 ∧ mK h b = 11 ∧ ¬ sp < 0 ∧ ¬ dp < 0 ∧ ¬ n < 0 ∧ sp.toNatClampNeg + n.toNatClampNeg ≤ mL h a ∧ dp.toNatClampNeg + n.toNatClampNeg ≤ mL h b then mNx (pc + 3) L r (wC h a b sp.toNatClampNeg dp.toNatClampNeg n.toNatClampNeg) else none
      | _ => none) else if (kd = 1 ∨ kd = 3) ∧ na mj ≤ st.length ∧ mCat (st.drop (na mj)) ≤ 8 ∧ (((st.take (na mj)).reverse).map Value.category).sum ≤ mx mj then some (.inr (.inr (mj, (st.take (na mj)).reverse, st.drop (na mj)))) else none
  | none => none
/-- rows n1 .. of a grid: n0 places of references to new cells of m ints each -/
def wG (h : mM) : Nat → Nat → mM
  | _, 0 => h
  | m, n + 1 => wN (wG h m n) 11 m
def wGrid (h : mM) (n m : Nat) : mM := (h.1 + 1 + n, h.2.1 + n + n * m, fun a => if a = h.1 then (18, n) else if h.1 < a ∧ a < h.1 + 1 + n then (11, m) else h.2.2.1 a, fun a k => if h.1 ≤ a then 0 else h.2.2.2.1 a k, fun a k => if h.1 ≤ a then 0 else h.2.2.2.2.1 a k, fun a k => if a = h.1 then (if k < n then some (h.1 + 1 + k) else none) else if h.1 < a then none else h.2.2.2.2.2 a k)
def mIns (mi pc : Nat) (L : mLs) (st : List Value) (h : mM) (ins : Instr) (len : Nat) : Option mX :=
  match ins with
  | .iconst n => if len = 1 then mNx (pc + 1) L (.int (Int32.ofInt n) :: st) h else none
  | .bipush n => if len = 2 then mNx (pc + 2) L (.int (Int8.ofInt n).toInt32 :: st) h else none
  | .sipush n => if len = 3 then mNx (pc + 3) L (.int (Int16.ofInt n).toInt32 :: st) h else none
  | .lconst n => if len = 1 then mNx (pc + 1) L (.long (Int64.ofNat n.val) :: st) h else none
  | .ldc i => if len = 2 then (match cGet (ow mi) i with
    | some v => mNx (pc + 2) L (.int v :: st) h
    | none => none) else none
  | .ldc_w i => if len = 3 then (match cGet (ow mi) i with
    | some v => mNx (pc + 3) L (.int v :: st) h
    | none => none) else none
  | .ldc2_w i => if len = 3 then (match jGet (ow mi) i with
    | some v => mNx (pc + 3) L (.long v :: st) h
    | none => none) else none
  | .iload_n i => if len = 1 then (match L.getD i.val none with
    | some (.int x) => mNx (pc + 1) L (.int x :: st) h
    | _ => none) else none
  | .iload i => if len = 2 then (match L.getD i none with
    | some (.int x) => mNx (pc + 2) L (.int x :: st) h
    | _ => none) else none
  | .lload_n i => if len = 1 then (match L.getD i.val none with
    | some (.long x) => mNx (pc + 1) L (.long x :: st) h
    | _ => none) else none
  | .lload i => if len = 2 then (match L.getD i none with
    | some (.long x) => mNx (pc + 2) L (.long x :: st) h
    | _ => none) else none
  | .aload_n i => if len = 1 then (match L.getD i.val none with
    | some (.ref x) => mNx (pc + 1) L (.ref x :: st) h
    | _ => none) else none
  | .aload i => if len = 2 then (match L.getD i none with
    | some (.ref x) => mNx (pc + 2) L (.ref x :: st) h
    | _ => none) else none
  | .istore_n i => if len = 1 ∧ i.val < mx mi then (match st with
    | .int x :: r => mNx (pc + 1) (mS1 L i.val (.int x)) r h
    | _ => none) else none
  | .istore i => if len = 2 ∧ i < mx mi then (match st with
    | .int x :: r => mNx (pc + 2) (mS1 L i (.int x)) r h
    | _ => none) else none
  | .astore_n i => if len = 1 ∧ i.val < mx mi then (match st with
    | .ref x :: r => mNx (pc + 1) (mS1 L i.val (.ref x)) r h
    | _ => none) else none
  | .astore i => if len = 2 ∧ i < mx mi then (match st with
    | .ref x :: r => mNx (pc + 2) (mS1 L i (.ref x)) r h
    | _ => none) else none
  | .lstore_n i => if len = 1 ∧ i.val + 1 < mx mi then (match st with
    | .long x :: r => mNx (pc + 1) (mS2 L i.val (.long x)) r h
    | _ => none) else none
  | .lstore i => if len = 2 ∧ i + 1 < mx mi then (match st with
    | .long x :: r => mNx (pc + 2) (mS2 L i (.long x)) r h
    | _ => none) else none
  | .iinc i n => if len = 3 ∧ i < mx mi then (match L.getD i none with
    | some (.int x) => mNx (pc + 3) (mS1 L i (.int (x + Int32.ofInt n))) st h
    | _ => none) else none
  | .iadd => if len = 1 then (match st with
    | .int y :: .int x :: r => mNx (pc + 1) L (.int (x + y) :: r) h
    | _ => none) else none
  | .isub => if len = 1 then (match st with
    | .int y :: .int x :: r => mNx (pc + 1) L (.int (x - y) :: r) h
    | _ => none) else none
  | .imul => if len = 1 then (match st with
    | .int y :: .int x :: r => mNx (pc + 1) L (.int (x * y) :: r) h
    | _ => none) else none
  | .iand => if len = 1 then (match st with
    | .int y :: .int x :: r => mNx (pc + 1) L (.int (x &&& y) :: r) h
    | _ => none) else none
  | .ior => if len = 1 then (match st with
    | .int y :: .int x :: r => mNx (pc + 1) L (.int (x ||| y) :: r) h
    | _ => none) else none
  | .ixor => if len = 1 then (match st with
    | .int y :: .int x :: r => mNx (pc + 1) L (.int (x ^^^ y) :: r) h
    | _ => none) else none
  | .ishl => if len = 1 then (match st with
    | .int y :: .int x :: r => mNx (pc + 1) L (.int (x <<< (y &&& 31)) :: r) h
    | _ => none) else none
  | .ishr => if len = 1 then (match st with
    | .int y :: .int x :: r => mNx (pc + 1) L (.int (x >>> (y &&& 31)) :: r) h
    | _ => none) else none
  | .iushr => if len = 1 then (match st with
    | .int y :: .int x :: r => mNx (pc + 1) L (.int ((x.toUInt32 >>> (y.toUInt32 &&& Int32.toUInt32 31)).toInt32) :: r) h
    | _ => none) else none
  | .idiv => if len = 1 then (match st with
    | .int y :: .int x :: r => if y = 0 then none else mNx (pc + 1) L (.int (x / y) :: r) h
    | _ => none) else none
  | .irem => if len = 1 then (match st with
    | .int y :: .int x :: r => if y = 0 then none else mNx (pc + 1) L (.int (x - x / y * y) :: r) h
    | _ => none) else none
  | .ladd => if len = 1 then (match st with
    | .long y :: .long x :: r => mNx (pc + 1) L (.long (x + y) :: r) h
    | _ => none) else none
  | .lsub => if len = 1 then (match st with
    | .long y :: .long x :: r => mNx (pc + 1) L (.long (x - y) :: r) h
    | _ => none) else none
  | .lcmp => if len = 1 then (match st with
    | .long y :: .long x :: r => mNx (pc + 1) L (.int (lg_cmp x y) :: r) h
    | _ => none) else none
  | .ineg => if len = 1 then (match st with
    | .int x :: r => mNx (pc + 1) L (.int (-x) :: r) h
    | _ => none) else none
  | .i2l => if len = 1 then (match st with
    | .int x :: r => mNx (pc + 1) L (.long x.toInt64 :: r) h
    | _ => none) else none
  | .l2i => if len = 1 then (match st with
    | .long x :: r => mNx (pc + 1) L (.int x.toInt32 :: r) h
    | _ => none) else none
  | .dup => if len = 1 then (match st with
    | v :: r => if v.category = 1 then mNx (pc + 1) L (v :: v :: r) h else none
    | _ => none) else none
  | .dup2 => if len = 1 then (match st with
    | v :: r => if v.category = 2 then mNx (pc + 1) L (v :: v :: r) h else (match r with
      | w :: r2 => if w.category = 1 ∧ v.category = 1 then mNx (pc + 1) L (v :: w :: v :: w :: r2) h else none
      | _ => none)
    | _ => none) else none
  | .ifCond c off => if len = 3 then (match st with
    | .int x :: r => if mCmp c x 0 = true then mTg pc off L r h else mNx (pc + 3) L r h
    | _ => none) else none
  | .if_icmp c off => if len = 3 then (match st with
    | .int y :: .int x :: r => if mCmp c x y = true then mTg pc off L r h else mNx (pc + 3) L r h
    | _ => none) else none
  | .goto off => if len = 3 then mTg pc off L st h else none
  | .tableswitch dflt lo hi offs => (match st with
    | .int x :: r => if x.toInt < lo ∨ hi < x.toInt then mTg pc dflt L r h else (match offs[(x.toInt - lo).toNat]? with
      | some off => mTg pc off L r h
      | none => none)
    | _ => none)
  | .getfield i => if len = 3 then mGetF mi pc i L st h else none
  | .putfield i => if len = 3 then mPutF mi pc i L st h else none
  | .iaload => if len = 1 then (match st with
    | .int i :: .ref a :: r => if (mK h a = 11 ∨ mK h a = 19) ∧ ixOK i (mL h a) = true then mNx (pc + 1) L (.int (mI h a i.toNatClampNeg) :: r) h else none
    | _ => none) else none
  | .laload => if len = 1 then (match st with
    | .int i :: .ref a :: r => if mK h a = 12 ∧ ixOK i (mL h a) = true then mNx (pc + 1) L (.long (mJ h a i.toNatClampNeg) :: r) h else none
    | _ => none) else none
  | .aaload => if len = 1 then (match st with
    | .int i :: .ref a :: r => if (12 < mK h a ∧ mK h a < 19) ∧ ixOK i (mL h a) = true then (match mR h a i.toNatClampNeg with
      | some b => mNx (pc + 1) L (.ref b :: r) h
      | none => none) else none
    | _ => none) else none
  | .iastore => if len = 1 then (match st with
    | .int v :: .int i :: .ref a :: r => if mK h a = 11 ∧ ixOK i (mL h a) = true then mNx (pc + 1) L r (wI h a i.toNatClampNeg v) else none
    | _ => none) else none
  | .lastore => if len = 1 then (match st with
    | .long v :: .int i :: .ref a :: r => if mK h a = 12 ∧ ixOK i (mL h a) = true then mNx (pc + 1) L r (wJ h a i.toNatClampNeg v) else none
    | _ => none) else none
  | .aastore => if len = 1 then (match st with
    | .ref b :: .int i :: .ref a :: r => if (12 < mK h a ∧ mK h a < 18) ∧ mK h b = mEl (mK h a) ∧ ixOK i (mL h a) = true then mNx (pc + 1) L r (wR h a i.toNatClampNeg (some b)) else none
    | _ => none) else none
  | .arraylength => if len = 1 then (match st with
    | .ref a :: r => if mK h a = 19 then mNx (pc + 1) L (.int (Int32.ofNat (mL h a)) :: r) h else none
    | _ => none) else none
  | .newarray t => if len = 2 then (match st with
    | .int n :: r => if (t = .int ∨ t = .long) ∧ ¬ n < 0 ∧ n.toNatClampNeg ≤ 1000 then mNx (pc + 2) L (.ref (mN h) :: r) (wN h (if t = .int then 11 else 12) n.toNatClampNeg) else none
    | _ => none) else none
  | .anewarray i => if len = 3 then (match st with
    | .int n :: r => (match nGet (ow mi) i with
      | some ci => if ci ∈ aoL ∧ ¬ n < 0 ∧ n.toNatClampNeg ≤ 1000 then mNx (pc + 3) L (.ref (mN h) :: r) (wN h (mAr ci) n.toNatClampNeg) else none
      | none => none)
    | _ => none) else none
  | .multianewarray i dm => if len = 4 ∧ dm = 2 ∧ ow mi = 5 ∧ i = 9 then (match st with
    | .int k :: .int n :: r => if ¬ n < 0 ∧ n.toNatClampNeg ≤ 1000 ∧ ¬ k < 0 ∧ k.toNatClampNeg ≤ 1000 then mNx (pc + 4) L (.ref (mN h) :: r) (wGrid h n.toNatClampNeg k.toNatClampNeg) else none
    | _ => none) else none
  | .new i => if len = 3 then (match nGet (ow mi) i with
    | some ci => mNx (pc + 3) L (.ref (mN h) :: st) (wN h ci (nfN ci))
    | none => none) else none
  | .invokevirtual i => if len = 3 then mCallV mi pc i st h else none
  | .invokespecial i => if len = 3 then mCallI mi pc i L st h else none
  | .invokestatic i => if len = 3 then mCallS mi pc i L st h else none
  | .ireturn => if len = 1 then (match st with
    | [.int v] => if mrt mi = some .int ∨ (mrt mi = some .boolean ∧ mZO v = true) then some (.inr (.inl (some (.int v)))) else none
    | _ => none) else none
  | .lreturn => if len = 1 then (match st with
    | [.long v] => if mrt mi = some .long then some (.inr (.inl (some (.long v)))) else none
    | _ => none) else none
  | .return_ => if len = 1 then (match st with
    | [] => if mrt mi = none then some (.inr (.inl none)) else none
    | _ => none) else none
  | _ => none
def mStep (mi pc : Nat) (L : mLs) (st : List Value) (h : mM) : Option mX := match decode (cd mi) pc with
  | .ok (ins, len) => mIns mi pc L st h ins len
  | .error _ => none
def mSl (as : List Value) : mLs := as.flatMap fun v => if v.category = 2 then [some v, none] else [some v]
def mEnt (mj : Nat) (as : List Value) : mLs := mSl as ++ List.replicate (mx mj - (mSl as).length) none
def mEx : Nat → Nat → Nat → Nat → mLs → List Value → mM → Option (Option Value × mM)
  | 0, _, _, _, _, _, _ => none
  | n + 1, d, mi, pc, L, st, h => match mStep mi pc L st h with
    | none => none
    | some (.inl x) => mEx n d mi x.1 x.2.1 x.2.2.1 x.2.2.2
    | some (.inr (.inl r)) => some (r, h)
    | some (.inr (.inr x)) => match d with
      | 0 => none
      | d' + 1 => match mEx n d' x.1 0 (mEnt x.1 x.2.1) [] h with
        | none => none
        | some y => mEx n (d' + 1) mi (pc + 3) L (y.1.toList ++ x.2.2) y.2
end
section
-- the run without fuel, and its equations
theorem mEx_s {n d mi pc : Nat} {L : mLs} {st : List Value} {h : mM} : mEx (n + 1) d mi pc L st h = (match mStep mi pc L st h with
    | none => none
    | some (.inl x) => mEx n d mi x.1 x.2.1 x.2.2.1 x.2.2.2
    | some (.inr (.inl r)) => some (r, h)
    | some (.inr (.inr x)) => match d with
      | 0 => none
      | d' + 1 => match mEx n d' x.1 0 (mEnt x.1 x.2.1) [] h with
        | none => none
        | some y => mEx n (d' + 1) mi (pc + 3) L (y.1.toList ++ x.2.2) y.2) := by
  cases d <;> rfl
theorem mEx_mono1 : ∀ (n d mi pc : Nat) (L : mLs) (st : List Value) (h : mM) (r : Option Value × mM), mEx n d mi pc L st h = some r → mEx (n + 1) d mi pc L st h = some r := by
  intro n
  induction n with
  | zero => intro d mi pc L st h r hr; exact absurd hr (by simp [mEx])
  | succ n ih =>
    intro d mi pc L st h r hr
    rw [mEx_s] at hr
    rw [mEx_s]
    cases hs : mStep mi pc L st h with
    | none => rw [hs] at hr; exact hr
    | some x =>
      rw [hs] at hr
      rcases x with x | x | x
      · exact ih _ _ _ _ _ _ _ hr
      · exact hr
      · cases d with
        | zero => exact hr
        | succ d =>
          simp only at hr ⊢
          cases hc : mEx n d x.1 0 (mEnt x.1 x.2.1) [] h with
          | none => rw [hc] at hr; exact absurd hr (by simp)
          | some y =>
            rw [hc] at hr
            rw [ih _ _ _ _ _ _ _ hc]
            exact ih _ _ _ _ _ _ _ hr
theorem mEx_mono {n k d mi pc : Nat} {L : mLs} {st : List Value} {h : mM} {r : Option Value × mM} (hk : n ≤ k) (hr : mEx n d mi pc L st h = some r) : mEx k d mi pc L st h = some r := by
  induction k with
  | zero => have : n = 0 := by omega
            subst this; exact hr
  | succ k ih =>
    rcases Nat.lt_or_ge k n with h1 | h1
    · have : n = k + 1 := by omega
      subst this; exact hr
    · exact mEx_mono1 _ _ _ _ _ _ _ _ (ih h1)
def mRuns (d mi pc : Nat) (L : mLs) (st : List Value) (h : mM) (r : Option Value × mM) : Prop := ∃ n, mEx n d mi pc L st h = some r
theorem mRuns.det {d mi pc : Nat} {L : mLs} {st : List Value} {h : mM} {r r' : Option Value × mM} (h1 : mRuns d mi pc L st h r) (h2 : mRuns d mi pc L st h r') : r = r' := by
  obtain ⟨n, h1⟩ := h1
  obtain ⟨k, h2⟩ := h2
  have a := mEx_mono (Nat.le_max_left n k) h1
  have b := mEx_mono (Nat.le_max_right n k) h2
  exact Option.some.inj (a.symm.trans b)
noncomputable def ev (d mi pc : Nat) (L : mLs) (st : List Value) (h : mM) : Option (Option Value × mM) := by
  classical
  exact if hh : ∃ r, mRuns d mi pc L st h r then some (Classical.choose hh) else none
theorem ev_iff {d mi pc : Nat} {L : mLs} {st : List Value} {h : mM} {r : Option Value × mM} : ev d mi pc L st h = some r ↔ mRuns d mi pc L st h r := by
  unfold ev
  constructor
  · intro hr
    split at hr
    · rename_i hh
      have := Option.some.inj hr
      rw [← this]
      exact Classical.choose_spec hh
    · cases hr
  · intro hr
    have hh : ∃ r, mRuns d mi pc L st h r := ⟨r, hr⟩
    rw [dif_pos hh]
    rw [(Classical.choose_spec hh).det hr]
theorem ev_ext {d mi pc d' mi' pc' : Nat} {L L' : mLs} {st st' : List Value} {h h' : mM} (q : ∀ r, mRuns d mi pc L st h r ↔ mRuns d' mi' pc' L' st' h' r) : ev d mi pc L st h = ev d' mi' pc' L' st' h' := by
  apply Option.ext
  intro r
  rw [ev_iff, ev_iff]
  exact q r
theorem ev_next {d mi pc pc' : Nat} {L L' : mLs} {st st' : List Value} {h h' : mM} (hs : mStep mi pc L st h = some (.inl (pc', L', st', h'))) : ev d mi pc L st h = ev d mi pc' L' st' h' := by
  apply ev_ext
  intro r
  constructor
  · rintro ⟨n, hn⟩
    cases n with
    | zero => exact absurd hn (by simp [mEx])
    | succ n => rw [mEx_s, hs] at hn; exact ⟨n, hn⟩
  · rintro ⟨n, hn⟩
    exact ⟨n + 1, by rw [mEx_s, hs]; exact hn⟩
theorem ev_none {d mi pc : Nat} {L : mLs} {st : List Value} {h : mM} (hs : mStep mi pc L st h = none) : ev d mi pc L st h = none := by
  apply Option.eq_none_iff_forall_ne_some.mpr
  intro r hr
  obtain ⟨n, hn⟩ := ev_iff.mp hr
  cases n with
  | zero => exact absurd hn (by simp [mEx])
  | succ n => rw [mEx_s, hs] at hn; cases hn
theorem ev_ret {d mi pc : Nat} {L : mLs} {st : List Value} {h : mM} {v : Option Value} (hs : mStep mi pc L st h = some (.inr (.inl v))) : ev d mi pc L st h = some (v, h) := by
  apply ev_iff.mpr
  exact ⟨1, by rw [mEx_s, hs]⟩
/-- what stands behind a call -/
def cV (o : Option (Option Value × mM)) (k : List Value → mM → Option (Option Value × mM)) : Option (Option Value × mM) := match o with
  | none => none
  | some y => k y.1.toList y.2
theorem ev_call {d mi pc mj : Nat} {L : mLs} {st as rest : List Value} {h : mM} (hs : mStep mi pc L st h = some (.inr (.inr (mj, as, rest)))) : ev (d + 1) mi pc L st h = cV (ev d mj 0 (mEnt mj as) [] h) (fun v h' => ev (d + 1) mi (pc + 3) L (v ++ rest) h') := by
  apply Option.ext
  intro r
  constructor
  · intro hr
    obtain ⟨n, hn⟩ := ev_iff.mp hr
    cases n with
    | zero => exact absurd hn (by simp [mEx])
    | succ n =>
      rw [mEx_s, hs] at hn
      simp only at hn
      cases hc : mEx n d mj 0 (mEnt mj as) [] h with
      | none => rw [hc] at hn; cases hn
      | some y =>
        rw [hc] at hn
        rw [ev_iff.mpr ⟨n, hc⟩]
        exact ev_iff.mpr ⟨n, hn⟩
  · intro hr
    cases hc : ev d mj 0 (mEnt mj as) [] h with
    | none => rw [hc] at hr; cases hr
    | some y =>
      rw [hc] at hr
      obtain ⟨n, hn⟩ := ev_iff.mp hc
      obtain ⟨k, hk⟩ := ev_iff.mp (show ev (d + 1) mi (pc + 3) L (y.1.toList ++ rest) y.2 = some r from hr)
      refine ev_iff.mpr ⟨max n k + 1, ?_⟩
      rw [mEx_s, hs]
      simp only
      rw [mEx_mono (Nat.le_max_left n k) hn]
      exact mEx_mono (Nat.le_max_right n k) hk
end
section
-- how the small machine's cells lie in the heap
abbrev mG : Type := Nat × Nat × (Nat → ClassId) × (Nat → Nat → Nat) × (Nat → ClassId)
def gAd (g : mG) (a : Nat) : Nat := if a = 0 then g.1 else g.2.1 + (a - 1)
def gV (g : mG) (v : Value) : Value := match v with
  | .ref a => .ref (gAd g a)
  | w => w
theorem gV_cat (g : mG) (v : Value) : (gV g v).category = v.category := by cases v <;> rfl
def gF (g : mG) (h : mM) (a j : Nat) (t : FieldType) : Value := if mIsR t = true then va_rf ((mR h a j).map (gAd g)) else .int (mI h a j)
def gFs (g : mG) (h : mM) (a ci : Nat) : List Value := (List.range (nfN ci)).map (fun j => gF g h a j (tyN ci j))
def gArr (g : mG) (h : mM) (a q : Nat) : vp_A := (mL h a, if q = 11 then .inl (mI h a) else if q = 12 then .inr (.inl (mJ h a)) else .inr (.inr (.inr (.inr (fun j => (mR h a j).map (gAd g))))))
def gE (g : mG) (h : mM) (a : Nat) : va_E := if mK h a < 11 then .inr (mK h a, gFs g h a (mK h a)) else .inl (g.2.2.2.2 (mK h a), gArr g h a (mK h a))
def gW (g : mG) (h : mM) : va_W := (List.range (mN h - 1)).map (fun i => (g.2.1 + i, gE g h (i + 1)))
def gD (g : mG) : va_G := (g.2.2.1, g.2.2.2.1)
def gT (g : mG) : List (ClassId × FieldType) := [(g.2.2.2.2 11, .int), (g.2.2.2.2 12, .long), (g.2.2.2.2 13, .object (RN 3)), (g.2.2.2.2 14, .object (RN 0)), (g.2.2.2.2 15, .object (RN 2)), (g.2.2.2.2 16, .object (RN 6)), (g.2.2.2.2 17, .object (RN 4)), (g.2.2.2.2 18, .array .int)]
def gA (g : mG) : Nat → Prop := fun q => g.2.1 ≤ q
def gEnv (g : mG) (U : State) : Prop := va_K (gD g) mCl (gT g) U ∧ (∀ w ∈ nestL, va_Nw w U) ∧ (∀ k ∈ aoL, va_AO (RN k) U) ∧ (Cond.arrayOver (.array .int)).before #[] U = true
theorem nestL_form : ∀ w ∈ nestL, ∃ a i x h, w = .methodLinkNest a i x h := by
  intro w hw
  simp only [nestL, List.mem_cons, List.not_mem_nil, or_false] at hw
  rcases hw with h | h | h | h | h | h | h <;> exact ⟨_, _, _, _, h⟩
theorem gEnv.warm {g : mG} {s U : State} (h : gEnv g s) (hW : s.WarmedH U.vm) : gEnv g U := by
  obtain ⟨h1, h2, h3, h4⟩ := h
  refine ⟨h1.moved hW.alike, fun w hw => ?_, fun k hk => (h3 k hk).moved hW.alike, ?_⟩
  · obtain ⟨a, i, x, h, rfl⟩ := nestL_form w hw
    exact va_Nw.warmM hW (h2 _ hw)
  · exact arrayOver_alikeB hW.alike h4
theorem gEnv.same {g : mG} {s U : State} (h : gEnv g s) (hv : s.vm = U.vm) : gEnv g U := by
  obtain ⟨h1, h2, h3, h4⟩ := h
  have hA : s.vm.Alike U.vm := by rw [hv]; exact Vm.Alike.refl _
  refine ⟨h1.moved hA, fun w hw => ?_, fun k hk => (h3 k hk).moved hA, arrayOver_alikeB hA h4⟩
  obtain ⟨a, i, x, h, rfl⟩ := nestL_form w hw
  exact va_Nw.same rfl hv (h2 _ hw)
def gH (g : mG) (h : mM) (U : State) (H : Heap) : Prop := 1 ≤ mN h ∧ va_P (gD g) mCl (gW g h) H ∧ va_X g.1 (mL h 0) (mI h 0) U H ∧ g.1 < g.2.1
theorem gH.move {g : mG} {h : mM} {u U : State} {H : Heap} (hvm : u.vm.Alike U.vm) (q : gH g h u H) : gH g h U H := ⟨q.1, q.2.1, q.2.2.1.moved hvm, q.2.2.2⟩
theorem mK_in {h : mM} {a : Nat} (q : mK h a < 19) : 0 < a ∧ a < mN h := by
  unfold mK at q
  unfold mN
  split at q
  · omega
  · split at q
    · rename_i h1 h2
      exact ⟨by omega, h2.1⟩
    · omega
theorem gAd_pos {g : mG} {a : Nat} (ha : 0 < a) : gAd g a = g.2.1 + (a - 1) := if_neg (by omega)
theorem gW_at {g : mG} {h : mM} {a : Nat} (h1 : 0 < a) (h2 : a < mN h) : (gW g h)[a - 1]? = some (gAd g a, gE g h a) := by
  unfold gW
  rw [List.getElem?_map, List.getElem?_range (by omega), gAd_pos h1]
  simp only [Option.map_some]
  rw [show a - 1 + 1 = a by omega]
theorem gW_get {g : mG} {h : mM} {i : Nat} {q : Nat × va_E} (hq : (gW g h)[i]? = some q) : i + 1 < mN h ∧ q = (g.2.1 + i, gE g h (i + 1)) := by
  unfold gW at hq
  rw [List.getElem?_map] at hq
  by_cases hi : i < mN h - 1
  · rw [List.getElem?_range hi] at hq
    exact ⟨by omega, (Option.some.inj hq).symm⟩
  · rw [List.getElem?_eq_none (by simpa using hi)] at hq
    cases hq
theorem gW_D {g : mG} {h : mM} : va_D (gA g) (gW g h) := by
  refine ⟨fun i j p q hi hj hpq => ?_, fun k q hk => ?_⟩
  · have a := (gW_get hi).2
    have b := (gW_get hj).2
    subst a; subst b
    simp only at hpq
    omega
  · have a := (gW_get hk).2
    subst a
    exact Nat.le_add_right _ _
theorem gW_set {g : mG} {h h' : mM} {a : Nat} (hn : mN h' = mN h) (h1 : 0 < a) (ho : ∀ a', a' ≠ a → gE g h' a' = gE g h a') : (gW g h).set (a - 1) (gAd g a, gE g h' a) = gW g h' := by
  apply List.ext_getElem?
  intro i
  by_cases hi : i = a - 1
  · subst hi
    by_cases h2 : a < mN h
    · rw [List.getElem?_set_self (by unfold gW; simp; omega), gW_at h1 (by omega)]
    · rw [List.getElem?_eq_none (by unfold gW; simp; omega), List.getElem?_eq_none (by unfold gW; simp; omega)]
  · rw [List.getElem?_set_ne (Ne.symm hi)]
    unfold gW
    rw [List.getElem?_map, List.getElem?_map, hn]
    by_cases h2 : i < mN h - 1
    · rw [List.getElem?_range h2]
      simp only [Option.map_some]
      rw [ho (i + 1) (by omega)]
    · rw [List.getElem?_eq_none (by simpa using h2)]
      rfl
theorem mCl_at {ci : Nat} (h : ci < 11) : mCl[ci]? = some (RN ci, TN ci, nfN ci) := by
  unfold mCl
  rw [List.getElem?_map, List.getElem?_range h]
  rfl
theorem gE_obj {g : mG} {h : mM} {a ci : Nat} (hk : mK h a = ci) (hc : ci < 11) : gE g h a = .inr (ci, gFs g h a ci) := by
  unfold gE
  rw [hk, if_pos hc]
theorem gE_arr {g : mG} {h : mM} {a q : Nat} (hk : mK h a = q) (hc : ¬ q < 11) : gE g h a = .inl (g.2.2.2.2 q, gArr g h a q) := by
  unfold gE
  rw [hk, if_neg hc]
theorem gFs_len {g : mG} {h : mM} {a ci : Nat} : (gFs g h a ci).length = nfN ci := by simp [gFs]
theorem gFs_at {g : mG} {h : mM} {a ci k : Nat} (hk : k < nfN ci) : (gFs g h a ci)[k]? = some (gF g h a k (tyN ci k)) := by
  unfold gFs
  rw [List.getElem?_map, List.getElem?_range hk]
  rfl
theorem gFs_set {g : mG} {h h' : mM} {a ci k : Nat} {v : Value} (hk : gF g h' a k (tyN ci k) = v) (ho : ∀ j, j ≠ k → gF g h' a j (tyN ci j) = gF g h a j (tyN ci j)) : (gFs g h a ci).set k v = gFs g h' a ci := by
  apply List.ext_getElem?
  intro i
  by_cases hi : i = k
  · subst hi
    by_cases h2 : i < nfN ci
    · rw [List.getElem?_set_self (by rw [gFs_len]; exact h2), gFs_at h2, hk]
    · rw [List.getElem?_eq_none (by rw [List.length_set, gFs_len]; omega), List.getElem?_eq_none (by rw [gFs_len]; omega)]
  · rw [List.getElem?_set_ne (Ne.symm hi)]
    by_cases h2 : i < nfN ci
    · rw [gFs_at h2, gFs_at h2, ho i hi]
    · rw [List.getElem?_eq_none (by rw [gFs_len]; omega), List.getElem?_eq_none (by rw [gFs_len]; omega)]
-- the places of values in the frame
def gLv (g : mG) (L : mLs) : List (Nat × Value) := (List.range L.length).filterMap (fun j => (L.getD j none).map (fun v => (j, gV g v)))
theorem getD_lt {L : mLs} {j : Nat} {v : Value} (h : L.getD j none = some v) : j < L.length := by
  rcases Nat.lt_or_ge j L.length with h1 | h1
  · exact h1
  · rw [List.getD_eq_getElem?_getD, List.getElem?_eq_none h1] at h
    cases h
theorem gLv_mem {g : mG} {L : mLs} {q : Nat × Value} : q ∈ gLv g L ↔ ∃ v, L.getD q.1 none = some v ∧ q.2 = gV g v := by
  unfold gLv
  rw [List.mem_filterMap]
  constructor
  · rintro ⟨j, -, hj⟩
    cases hv : L.getD j none with
    | none => rw [hv] at hj; cases hj
    | some v =>
      rw [hv] at hj
      cases hj
      exact ⟨v, hv, rfl⟩
  · rintro ⟨v, h1, h2⟩
    refine ⟨q.1, List.mem_range.mpr (getD_lt h1), ?_⟩
    rw [h1]
    simp only [Option.map_some]
    rw [← h2]
def gLs (g : mG) (n : Nat) (ls : Array Slot) (L : mLs) : Prop := lv_has ls n (gLv g L)
theorem gLs_at {g : mG} {n : Nat} {ls : Array Slot} {L : mLs} {j : Nat} {v : Value} (h : gLs g n ls L) (hv : L.getD j none = some v) : ls[j]? = some (.val (gV g v)) := h.2.2 (j, gV g v) (gLv_mem.mpr ⟨v, hv, rfl⟩)
theorem gLs_sub {g : mG} {n : Nat} {ls : Array Slot} {L : mLs} {l : List (Nat × Value)} (h : lv_has ls n l) (hs : ∀ q ∈ gLv g L, q ∈ l) : gLs g n ls L := ⟨h.1, h.2.1, fun q hq => h.2.2 q (hs q hq)⟩
theorem getD_set {L : mLs} {i j : Nat} {o : Option Value} : (L.set i o).getD j none = if j = i ∧ i < L.length then o else L.getD j none := by
  rw [List.getD_eq_getElem?_getD, List.getD_eq_getElem?_getD, List.getElem?_set]
  by_cases h : i = j
  · subst h
    by_cases h2 : i < L.length
    · simp [h2]
    · simp [h2]
  · rw [if_neg h, if_neg (fun q => h q.1.symm)]
theorem mClr_get {L : mLs} {i j : Nat} {u : Value} (h : (mClr L i).getD j none = some u) : L.getD j none = some u ∧ ¬ (j + 1 = i ∧ u.category = 2) := by
  cases i with
  | zero => exact ⟨h, fun q => by omega⟩
  | succ k =>
    have h : (if mLong (L.getD k none) = true then L.set k none else L).getD j none = some u := h
    split at h
    · rw [getD_set] at h
      split at h
      · cases h
      · rename_i h1 h2
        refine ⟨h, fun q => h2 ⟨by omega, ?_⟩⟩
        rw [← show j = k by omega]
        exact getD_lt h
    · rename_i h1
      refine ⟨h, fun q => h1 ?_⟩
      rw [show k = j by omega, h]
      simp [mLong, q.2]
theorem mClr_len {L : mLs} {i : Nat} : (mClr L i).length = L.length := by
  cases i with
  | zero => rfl
  | succ k =>
    show (if mLong (L.getD k none) = true then L.set k none else L).length = L.length
    split <;> simp
theorem gLv_s1 {g : mG} {L : mLs} {i : Nat} {v : Value} : ∀ q ∈ gLv g (mS1 L i v), q ∈ (i, gV g v) :: (gLv g L).filter (fun q => !(q.1 == i) && !(q.1 + 1 == i && q.2.category == 2)) := by
  rintro ⟨j, w⟩ hq
  obtain ⟨u, h1, h2⟩ := gLv_mem.mp hq
  simp only at h1 h2
  subst h2
  unfold mS1 at h1
  rw [getD_set] at h1
  split at h1
  · rename_i h3
    cases h1
    rw [h3.1]
    exact List.mem_cons_self
  · rename_i h3
    obtain ⟨h4, h5⟩ := mClr_get h1
    refine List.mem_cons_of_mem _ (List.mem_filter.mpr ⟨gLv_mem.mpr ⟨u, h4, rfl⟩, ?_⟩)
    have h6 : ¬ j = i := fun e => h3 ⟨e, by have := getD_lt h1; omega⟩
    simp only [gV_cat]
    by_cases h7 : j + 1 = i
    · have : ¬ u.category = 2 := fun e => h5 ⟨h7, e⟩
      simp [h6, this]
    · simp [h6, h7]
theorem gLv_s2 {g : mG} {L : mLs} {i : Nat} {v : Value} : ∀ q ∈ gLv g (mS2 L i v), q ∈ (i, gV g v) :: (gLv g L).filter (fun q => !(q.1 == i) && (!(q.1 == i + 1) && !(q.1 + 1 == i && q.2.category == 2))) := by
  rintro ⟨j, w⟩ hq
  obtain ⟨u, h1, h2⟩ := gLv_mem.mp hq
  simp only at h1 h2
  subst h2
  unfold mS2 at h1
  rw [getD_set] at h1
  split at h1
  · rename_i h3
    cases h1
    rw [h3.1]
    exact List.mem_cons_self
  · rename_i h3
    have h6 : ¬ j = i := fun e => h3 ⟨e, by have := getD_lt h1; omega⟩
    rw [getD_set] at h1
    split at h1
    · cases h1
    · rename_i h8
      obtain ⟨h4, h5⟩ := mClr_get h1
      have h9 : ¬ j = i + 1 := fun e => h8 ⟨e, by have := getD_lt h1; omega⟩
      refine List.mem_cons_of_mem _ (List.mem_filter.mpr ⟨gLv_mem.mpr ⟨u, h4, rfl⟩, ?_⟩)
      simp only [gV_cat]
      by_cases h7 : j + 1 = i
      · have : ¬ u.category = 2 := fun e => h5 ⟨h7, e⟩
        simp [h6, h9, this]
      · simp [h6, h7, h9]
-- tables by their places
theorem fGet_in {c i ci k : Nat} (h : fGet c i = some (ci, k)) : (c, i, ci, k) ∈ fL := by
  unfold fGet at h
  cases hf : fL.find? (fun q => q.1 == c && q.2.1 == i) with
  | none => rw [hf] at h; cases h
  | some q =>
    rw [hf] at h
    have h1 := List.find?_some hf
    have h2 := List.mem_of_find?_eq_some hf
    simp only [Bool.and_eq_true, beq_iff_eq] at h1
    obtain ⟨q1, q2, q3⟩ := q
    simp only [Option.map_some, Option.some.injEq] at h
    simp only at h1
    obtain ⟨rfl, rfl⟩ := h1
    subst h
    exact h2
theorem kGet_in {c i kd k : Nat} (h : kGet c i = some (kd, k)) : (c, i, kd, k) ∈ mLk := by
  unfold kGet at h
  cases hf : mLk.find? (fun q => q.1 == c && q.2.1 == i) with
  | none => rw [hf] at h; cases h
  | some q =>
    rw [hf] at h
    have h1 := List.find?_some hf
    have h2 := List.mem_of_find?_eq_some hf
    simp only [Bool.and_eq_true, beq_iff_eq] at h1
    obtain ⟨q1, q2, q3⟩ := q
    simp only [Option.map_some, Option.some.injEq] at h
    simp only at h1
    obtain ⟨rfl, rfl⟩ := h1
    subst h
    exact h2
theorem cGet_in {c i : Nat} {v : Int32} (h : cGet c i = some v) : (c, i, v) ∈ cL := by
  unfold cGet at h
  cases hf : cL.find? (fun q => q.1 == c && q.2.1 == i) with
  | none => rw [hf] at h; cases h
  | some q =>
    rw [hf] at h
    have h1 := List.find?_some hf
    have h2 := List.mem_of_find?_eq_some hf
    simp only [Bool.and_eq_true, beq_iff_eq] at h1
    obtain ⟨q1, q2, q3⟩ := q
    simp only [Option.map_some, Option.some.injEq] at h
    simp only at h1
    obtain ⟨rfl, rfl⟩ := h1
    subst h
    exact h2
theorem jGet_in {c i : Nat} {v : Int64} (h : jGet c i = some v) : (c, i, v) ∈ cJ := by
  unfold jGet at h
  cases hf : cJ.find? (fun q => q.1 == c && q.2.1 == i) with
  | none => rw [hf] at h; cases h
  | some q =>
    rw [hf] at h
    have h1 := List.find?_some hf
    have h2 := List.mem_of_find?_eq_some hf
    simp only [Bool.and_eq_true, beq_iff_eq] at h1
    obtain ⟨q1, q2, q3⟩ := q
    simp only [Option.map_some, Option.some.injEq] at h
    simp only at h1
    obtain ⟨rfl, rfl⟩ := h1
    subst h
    exact h2
theorem nGet_in {c i v : Nat} (h : nGet c i = some v) : (c, i, v) ∈ nL := by
  unfold nGet at h
  cases hf : nL.find? (fun q => q.1 == c && q.2.1 == i) with
  | none => rw [hf] at h; cases h
  | some q =>
    rw [hf] at h
    have h1 := List.find?_some hf
    have h2 := List.mem_of_find?_eq_some hf
    simp only [Bool.and_eq_true, beq_iff_eq] at h1
    obtain ⟨q1, q2, q3⟩ := q
    simp only [Option.map_some, Option.some.injEq] at h
    simp only at h1
    obtain ⟨rfl, rfl⟩ := h1
    subst h
    exact h2
theorem ixOK_in {i : Int32} {n : Nat} (h : ixOK i n = true) : vp_in i n := by
  unfold ixOK at h
  exact (of_decide_eq_true h : ¬ (i < 0 ∨ n ≤ i.toNatClampNeg))
theorem mK_le {h : mM} {a : Nat} : mK h a < 19 ∨ mK h a = 19 ∧ a = 0 ∨ mK h a = 99 := by
  unfold mK
  split
  · rename_i h1; exact Or.inr (Or.inl ⟨rfl, h1⟩)
  · split
    · rename_i h1 h2; exact Or.inl h2.2
    · exact Or.inr (Or.inr rfl)
end
section
-- each step of the small machine is one of the real machine's (gen_step.py)
theorem eqz {c x y : Nat} (h : x = y) : c = c + (x - y) := by omega
def gC (g : mG) (mi : Nat) (p : Program) (s : State) (m : MethodId) (meth : Method) (c : Code) (args : Array Value) : Prop :=
  p.tables.exec = Jvm.exec ∧ c.code = cd mi ∧ c.maxLocals = mx mi ∧ s.vm.findClass (RN (ow mi)) = some m.cls ∧ (∀ w ∈ lw_good, w.before args s = true) ∧ gEnv g s ∧ g.2.1 ≤ s.heap.size ∧ meth.locks = false ∧ ((yn mi).name = "<init>" → meth.name = "<init>")
def gGo (g : mG) (mi pc : Nat) (L : mLs) (st : List Value) (h : mM) (ins : Instr) (len : Nat) : Prop := ∀ (pc' : Nat) (L' : mLs) (st' : List Value) (h1 : mM), decode (cd mi) pc = .ok (ins, len) → mIns mi pc L st h ins len = some (.inl (pc', L', st', h1)) →
  ∀ (p : Program) (l : Launch) (e : Env) (R : Room) (s : State) (m : MethodId) (args : Array Value) (below : List Frame) (meth : Method) (c : Code) (H : Heap) (locs : List Loc) (cells slots : Nat) (Q : State → Prop) (ls : Array Slot), gC g mi p s m meth c args → gH g h s H → va_S (gA g) s.heap H locs → gLs g (mx mi) ls L → s.heap.size + cells + 1 = g.2.1 + mN h → 1 ≤ R.frames → 64 ≤ R.locals → cells + (mN h1 - mN h) ≤ R.cells → slots + (mZ h1 - mZ h) ≤ R.slots →
  (∀ (H1 : Heap) (locs1 : List Loc) (ls1 : Array Slot) (c1 s1 : Nat), c1 = cells + (mN h1 - mN h) → s1 = slots + (mZ h1 - mZ h) → gH g h1 s H1 → va_S (gA g) s.heap H1 locs1 → gLs g (mx mi) ls1 L' → W p l e R s m args below meth c H1 locs1 c1 s1 Q (F0 m pc' ls1 (st'.map (gV g)))) →
  W p l e R s m args below meth c H locs cells slots Q (F0 m pc ls (st.map (gV g)))
section GOS
variable {g : mG} {mi pc len : Nat} {L : mLs} {st : List Value} {h : mM}
theorem go_iconst {n : Int} : gGo g mi pc L st h (.iconst n) len := by
  intro pc' L' st' h1 hd hs p l e R s m args below meth c H locs cells slots Q ls hC hH hS hl hcs hfr hlo hce hsl K
  obtain ⟨hx, hb, hml, hown, hts, hE, hba, hlk, hnm⟩ := hC
  simp only [mIns, mNx] at hs
  split at hs
  · rename_i hlen
    subst hlen
    cases hs
    exact lv_iconst hx hb hd rfl (K H locs ls cells slots (eqz rfl) (eqz rfl) hH hS hl)
  · cases hs
theorem go_bipush {n : Int} : gGo g mi pc L st h (.bipush n) len := by
  intro pc' L' st' h1 hd hs p l e R s m args below meth c H locs cells slots Q ls hC hH hS hl hcs hfr hlo hce hsl K
  obtain ⟨hx, hb, hml, hown, hts, hE, hba, hlk, hnm⟩ := hC
  simp only [mIns, mNx] at hs
  split at hs
  · rename_i hlen
    subst hlen
    cases hs
    exact lv_bipush hx hb hd rfl (K H locs ls cells slots (eqz rfl) (eqz rfl) hH hS hl)
  · cases hs
theorem go_sipush {n : Int} : gGo g mi pc L st h (.sipush n) len := by
  intro pc' L' st' h1 hd hs p l e R s m args below meth c H locs cells slots Q ls hC hH hS hl hcs hfr hlo hce hsl K
  obtain ⟨hx, hb, hml, hown, hts, hE, hba, hlk, hnm⟩ := hC
  simp only [mIns, mNx] at hs
  split at hs
  · rename_i hlen
    subst hlen
    cases hs
    exact lv_sipush hx hb hd rfl (K H locs ls cells slots (eqz rfl) (eqz rfl) hH hS hl)
  · cases hs
theorem go_lconst {n : Fin 2} : gGo g mi pc L st h (.lconst n) len := by
  intro pc' L' st' h1 hd hs p l e R s m args below meth c H locs cells slots Q ls hC hH hS hl hcs hfr hlo hce hsl K
  obtain ⟨hx, hb, hml, hown, hts, hE, hba, hlk, hnm⟩ := hC
  simp only [mIns, mNx] at hs
  split at hs
  · rename_i hlen
    subst hlen
    cases hs
    exact lv_lconst hx hb hd rfl (K H locs ls cells slots (eqz rfl) (eqz rfl) hH hS hl)
  · cases hs
theorem go_ldc {i : Nat} : gGo g mi pc L st h (.ldc i) len := by
  intro pc' L' st' h1 hd hs p l e R s m args below meth c H locs cells slots Q ls hC hH hS hl hcs hfr hlo hce hsl K
  obtain ⟨hx, hb, hml, hown, hts, hE, hba, hlk, hnm⟩ := hC
  simp only [mIns, mNx] at hs
  split at hs
  · rename_i hlen
    subst hlen
    split at hs
    · rename_i v hq
      cases hs
      exact lv_ldc hx hb hown (hts _ (cL_ok _ (cGet_in hq))) hd (K H locs ls cells slots (eqz rfl) (eqz rfl) hH hS hl)
    · cases hs
  · cases hs
theorem go_ldc_w {i : Nat} : gGo g mi pc L st h (.ldc_w i) len := by
  intro pc' L' st' h1 hd hs p l e R s m args below meth c H locs cells slots Q ls hC hH hS hl hcs hfr hlo hce hsl K
  obtain ⟨hx, hb, hml, hown, hts, hE, hba, hlk, hnm⟩ := hC
  simp only [mIns, mNx] at hs
  split at hs
  · rename_i hlen
    subst hlen
    split at hs
    · rename_i v hq
      cases hs
      exact lv_ldcw hx hb hown (hts _ (cL_ok _ (cGet_in hq))) hd (K H locs ls cells slots (eqz rfl) (eqz rfl) hH hS hl)
    · cases hs
  · cases hs
theorem go_ldc2_w {i : Nat} : gGo g mi pc L st h (.ldc2_w i) len := by
  intro pc' L' st' h1 hd hs p l e R s m args below meth c H locs cells slots Q ls hC hH hS hl hcs hfr hlo hce hsl K
  obtain ⟨hx, hb, hml, hown, hts, hE, hba, hlk, hnm⟩ := hC
  simp only [mIns, mNx] at hs
  split at hs
  · rename_i hlen
    subst hlen
    split at hs
    · rename_i v hq
      cases hs
      exact lv_ldc2 hx hb hown (hts _ (cJ_ok _ (jGet_in hq))) hd (K H locs ls cells slots (eqz rfl) (eqz rfl) hH hS hl)
    · cases hs
  · cases hs
theorem go_iload_n {i : Fin 4} : gGo g mi pc L st h (.iload_n i) len := by
  intro pc' L' st' h1 hd hs p l e R s m args below meth c H locs cells slots Q ls hC hH hS hl hcs hfr hlo hce hsl K
  obtain ⟨hx, hb, hml, hown, hts, hE, hba, hlk, hnm⟩ := hC
  simp only [mIns, mNx] at hs
  split at hs
  · rename_i hlen
    subst hlen
    split at hs
    · rename_i x hq
      cases hs
      exact lv_iload_n hx hb hd rfl (gLs_at hl hq) (K H locs ls cells slots (eqz rfl) (eqz rfl) hH hS hl)
    · cases hs
  · cases hs
theorem go_iload {i : Nat} : gGo g mi pc L st h (.iload i) len := by
  intro pc' L' st' h1 hd hs p l e R s m args below meth c H locs cells slots Q ls hC hH hS hl hcs hfr hlo hce hsl K
  obtain ⟨hx, hb, hml, hown, hts, hE, hba, hlk, hnm⟩ := hC
  simp only [mIns, mNx] at hs
  split at hs
  · rename_i hlen
    subst hlen
    split at hs
    · rename_i x hq
      cases hs
      exact lv_iload hx hb hd (gLs_at hl hq) (K H locs ls cells slots (eqz rfl) (eqz rfl) hH hS hl)
    · cases hs
  · cases hs
theorem go_lload_n {i : Fin 4} : gGo g mi pc L st h (.lload_n i) len := by
  intro pc' L' st' h1 hd hs p l e R s m args below meth c H locs cells slots Q ls hC hH hS hl hcs hfr hlo hce hsl K
  obtain ⟨hx, hb, hml, hown, hts, hE, hba, hlk, hnm⟩ := hC
  simp only [mIns, mNx] at hs
  split at hs
  · rename_i hlen
    subst hlen
    split at hs
    · rename_i x hq
      cases hs
      exact lv_lload_n hx hb hd rfl (gLs_at hl hq) (K H locs ls cells slots (eqz rfl) (eqz rfl) hH hS hl)
    · cases hs
  · cases hs
theorem go_lload {i : Nat} : gGo g mi pc L st h (.lload i) len := by
  intro pc' L' st' h1 hd hs p l e R s m args below meth c H locs cells slots Q ls hC hH hS hl hcs hfr hlo hce hsl K
  obtain ⟨hx, hb, hml, hown, hts, hE, hba, hlk, hnm⟩ := hC
  simp only [mIns, mNx] at hs
  split at hs
  · rename_i hlen
    subst hlen
    split at hs
    · rename_i x hq
      cases hs
      exact lv_lload hx hb hd (gLs_at hl hq) (K H locs ls cells slots (eqz rfl) (eqz rfl) hH hS hl)
    · cases hs
  · cases hs
theorem go_aload_n {i : Fin 4} : gGo g mi pc L st h (.aload_n i) len := by
  intro pc' L' st' h1 hd hs p l e R s m args below meth c H locs cells slots Q ls hC hH hS hl hcs hfr hlo hce hsl K
  obtain ⟨hx, hb, hml, hown, hts, hE, hba, hlk, hnm⟩ := hC
  simp only [mIns, mNx] at hs
  split at hs
  · rename_i hlen
    subst hlen
    split at hs
    · rename_i x hq
      cases hs
      exact lv_aload_n hx hb hd rfl (gLs_at hl hq) (K H locs ls cells slots (eqz rfl) (eqz rfl) hH hS hl)
    · cases hs
  · cases hs
theorem go_aload {i : Nat} : gGo g mi pc L st h (.aload i) len := by
  intro pc' L' st' h1 hd hs p l e R s m args below meth c H locs cells slots Q ls hC hH hS hl hcs hfr hlo hce hsl K
  obtain ⟨hx, hb, hml, hown, hts, hE, hba, hlk, hnm⟩ := hC
  simp only [mIns, mNx] at hs
  split at hs
  · rename_i hlen
    subst hlen
    split at hs
    · rename_i x hq
      cases hs
      exact lv_aload hx hb hd (gLs_at hl hq) (K H locs ls cells slots (eqz rfl) (eqz rfl) hH hS hl)
    · cases hs
  · cases hs
theorem go_istore_n {i : Fin 4} : gGo g mi pc L st h (.istore_n i) len := by
  intro pc' L' st' h1 hd hs p l e R s m args below meth c H locs cells slots Q ls hC hH hS hl hcs hfr hlo hce hsl K
  obtain ⟨hx, hb, hml, hown, hts, hE, hba, hlk, hnm⟩ := hC
  simp only [mIns, mNx] at hs
  split at hs
  · rename_i hc
    obtain ⟨rfl, hlt⟩ := hc
    split at hs
    · cases hs
      exact lv_istore_n hx hb hd rfl hl hlt rfl (fun ls' h' => K H locs ls' cells slots (eqz rfl) (eqz rfl) hH hS (gLs_sub h' gLv_s1))
    · cases hs
  · cases hs
theorem go_istore {i : Nat} : gGo g mi pc L st h (.istore i) len := by
  intro pc' L' st' h1 hd hs p l e R s m args below meth c H locs cells slots Q ls hC hH hS hl hcs hfr hlo hce hsl K
  obtain ⟨hx, hb, hml, hown, hts, hE, hba, hlk, hnm⟩ := hC
  simp only [mIns, mNx] at hs
  split at hs
  · rename_i hc
    obtain ⟨rfl, hlt⟩ := hc
    split at hs
    · cases hs
      exact lv_istore hx hb hd hl hlt rfl (fun ls' h' => K H locs ls' cells slots (eqz rfl) (eqz rfl) hH hS (gLs_sub h' gLv_s1))
    · cases hs
  · cases hs
theorem go_lstore_n {i : Fin 4} : gGo g mi pc L st h (.lstore_n i) len := by
  intro pc' L' st' h1 hd hs p l e R s m args below meth c H locs cells slots Q ls hC hH hS hl hcs hfr hlo hce hsl K
  obtain ⟨hx, hb, hml, hown, hts, hE, hba, hlk, hnm⟩ := hC
  simp only [mIns, mNx] at hs
  split at hs
  · rename_i hc
    obtain ⟨rfl, hlt⟩ := hc
    split at hs
    · cases hs
      exact lv_lstore_n hx hb hd rfl hl hlt rfl (fun ls' h' => K H locs ls' cells slots (eqz rfl) (eqz rfl) hH hS (gLs_sub h' gLv_s2))
    · cases hs
  · cases hs
theorem go_lstore {i : Nat} : gGo g mi pc L st h (.lstore i) len := by
  intro pc' L' st' h1 hd hs p l e R s m args below meth c H locs cells slots Q ls hC hH hS hl hcs hfr hlo hce hsl K
  obtain ⟨hx, hb, hml, hown, hts, hE, hba, hlk, hnm⟩ := hC
  simp only [mIns, mNx] at hs
  split at hs
  · rename_i hc
    obtain ⟨rfl, hlt⟩ := hc
    split at hs
    · cases hs
      exact lv_lstore hx hb hd hl hlt rfl (fun ls' h' => K H locs ls' cells slots (eqz rfl) (eqz rfl) hH hS (gLs_sub h' gLv_s2))
    · cases hs
  · cases hs
theorem go_astore_n {i : Fin 4} : gGo g mi pc L st h (.astore_n i) len := by
  intro pc' L' st' h1 hd hs p l e R s m args below meth c H locs cells slots Q ls hC hH hS hl hcs hfr hlo hce hsl K
  obtain ⟨hx, hb, hml, hown, hts, hE, hba, hlk, hnm⟩ := hC
  simp only [mIns, mNx] at hs
  split at hs
  · rename_i hc
    obtain ⟨rfl, hlt⟩ := hc
    split at hs
    · cases hs
      exact lv_astore_n hx hb hd rfl hl hlt rfl (fun ls' h' => K H locs ls' cells slots (eqz rfl) (eqz rfl) hH hS (gLs_sub h' gLv_s1))
    · cases hs
  · cases hs
theorem go_astore {i : Nat} : gGo g mi pc L st h (.astore i) len := by
  intro pc' L' st' h1 hd hs p l e R s m args below meth c H locs cells slots Q ls hC hH hS hl hcs hfr hlo hce hsl K
  obtain ⟨hx, hb, hml, hown, hts, hE, hba, hlk, hnm⟩ := hC
  simp only [mIns, mNx] at hs
  split at hs
  · rename_i hc
    obtain ⟨rfl, hlt⟩ := hc
    split at hs
    · cases hs
      exact lv_astore hx hb hd hl hlt rfl (fun ls' h' => K H locs ls' cells slots (eqz rfl) (eqz rfl) hH hS (gLs_sub h' gLv_s1))
    · cases hs
  · cases hs
theorem go_iinc {i : Nat} {n : Int} : gGo g mi pc L st h (.iinc i n) len := by
  intro pc' L' st' h1 hd hs p l e R s m args below meth c H locs cells slots Q ls hC hH hS hl hcs hfr hlo hce hsl K
  obtain ⟨hx, hb, hml, hown, hts, hE, hba, hlk, hnm⟩ := hC
  simp only [mIns, mNx] at hs
  split at hs
  · rename_i hc
    obtain ⟨rfl, hlt⟩ := hc
    split at hs
    · rename_i x hq
      cases hs
      obtain ⟨k, hk⟩ := List.getElem?_of_mem (gLv_mem.mpr ⟨_, hq, rfl⟩ : (i, gV g (.int x)) ∈ gLv g L)
      exact lv_iinc hx hb hd hl hk rfl hlt rfl (fun ls' h' => K H locs ls' cells slots (eqz rfl) (eqz rfl) hH hS (gLs_sub h' gLv_s1))
    · cases hs
  · cases hs
theorem go_iadd : gGo g mi pc L st h .iadd len := by
  intro pc' L' st' h1 hd hs p l e R s m args below meth c H locs cells slots Q ls hC hH hS hl hcs hfr hlo hce hsl K
  obtain ⟨hx, hb, hml, hown, hts, hE, hba, hlk, hnm⟩ := hC
  simp only [mIns, mNx] at hs
  split at hs
  · rename_i hlen
    subst hlen
    split at hs
    · cases hs
      exact lv_iadd hx hb hd (K H locs ls cells slots (eqz rfl) (eqz rfl) hH hS hl)
    · cases hs
  · cases hs
theorem go_isub : gGo g mi pc L st h .isub len := by
  intro pc' L' st' h1 hd hs p l e R s m args below meth c H locs cells slots Q ls hC hH hS hl hcs hfr hlo hce hsl K
  obtain ⟨hx, hb, hml, hown, hts, hE, hba, hlk, hnm⟩ := hC
  simp only [mIns, mNx] at hs
  split at hs
  · rename_i hlen
    subst hlen
    split at hs
    · cases hs
      exact lv_isub hx hb hd (K H locs ls cells slots (eqz rfl) (eqz rfl) hH hS hl)
    · cases hs
  · cases hs
theorem go_imul : gGo g mi pc L st h .imul len := by
  intro pc' L' st' h1 hd hs p l e R s m args below meth c H locs cells slots Q ls hC hH hS hl hcs hfr hlo hce hsl K
  obtain ⟨hx, hb, hml, hown, hts, hE, hba, hlk, hnm⟩ := hC
  simp only [mIns, mNx] at hs
  split at hs
  · rename_i hlen
    subst hlen
    split at hs
    · cases hs
      exact lv_imul hx hb hd (K H locs ls cells slots (eqz rfl) (eqz rfl) hH hS hl)
    · cases hs
  · cases hs
theorem go_iand : gGo g mi pc L st h .iand len := by
  intro pc' L' st' h1 hd hs p l e R s m args below meth c H locs cells slots Q ls hC hH hS hl hcs hfr hlo hce hsl K
  obtain ⟨hx, hb, hml, hown, hts, hE, hba, hlk, hnm⟩ := hC
  simp only [mIns, mNx] at hs
  split at hs
  · rename_i hlen
    subst hlen
    split at hs
    · cases hs
      exact lv_iand hx hb hd (K H locs ls cells slots (eqz rfl) (eqz rfl) hH hS hl)
    · cases hs
  · cases hs
theorem go_ior : gGo g mi pc L st h .ior len := by
  intro pc' L' st' h1 hd hs p l e R s m args below meth c H locs cells slots Q ls hC hH hS hl hcs hfr hlo hce hsl K
  obtain ⟨hx, hb, hml, hown, hts, hE, hba, hlk, hnm⟩ := hC
  simp only [mIns, mNx] at hs
  split at hs
  · rename_i hlen
    subst hlen
    split at hs
    · cases hs
      exact lv_ior hx hb hd (K H locs ls cells slots (eqz rfl) (eqz rfl) hH hS hl)
    · cases hs
  · cases hs
theorem go_ixor : gGo g mi pc L st h .ixor len := by
  intro pc' L' st' h1 hd hs p l e R s m args below meth c H locs cells slots Q ls hC hH hS hl hcs hfr hlo hce hsl K
  obtain ⟨hx, hb, hml, hown, hts, hE, hba, hlk, hnm⟩ := hC
  simp only [mIns, mNx] at hs
  split at hs
  · rename_i hlen
    subst hlen
    split at hs
    · cases hs
      exact lv_ixor hx hb hd (K H locs ls cells slots (eqz rfl) (eqz rfl) hH hS hl)
    · cases hs
  · cases hs
theorem go_ishl : gGo g mi pc L st h .ishl len := by
  intro pc' L' st' h1 hd hs p l e R s m args below meth c H locs cells slots Q ls hC hH hS hl hcs hfr hlo hce hsl K
  obtain ⟨hx, hb, hml, hown, hts, hE, hba, hlk, hnm⟩ := hC
  simp only [mIns, mNx] at hs
  split at hs
  · rename_i hlen
    subst hlen
    split at hs
    · cases hs
      exact lv_ishl hx hb hd (K H locs ls cells slots (eqz rfl) (eqz rfl) hH hS hl)
    · cases hs
  · cases hs
theorem go_ishr : gGo g mi pc L st h .ishr len := by
  intro pc' L' st' h1 hd hs p l e R s m args below meth c H locs cells slots Q ls hC hH hS hl hcs hfr hlo hce hsl K
  obtain ⟨hx, hb, hml, hown, hts, hE, hba, hlk, hnm⟩ := hC
  simp only [mIns, mNx] at hs
  split at hs
  · rename_i hlen
    subst hlen
    split at hs
    · cases hs
      exact lv_ishr hx hb hd (K H locs ls cells slots (eqz rfl) (eqz rfl) hH hS hl)
    · cases hs
  · cases hs
theorem go_ladd : gGo g mi pc L st h .ladd len := by
  intro pc' L' st' h1 hd hs p l e R s m args below meth c H locs cells slots Q ls hC hH hS hl hcs hfr hlo hce hsl K
  obtain ⟨hx, hb, hml, hown, hts, hE, hba, hlk, hnm⟩ := hC
  simp only [mIns, mNx] at hs
  split at hs
  · rename_i hlen
    subst hlen
    split at hs
    · cases hs
      exact lv_ladd hx hb hd (K H locs ls cells slots (eqz rfl) (eqz rfl) hH hS hl)
    · cases hs
  · cases hs
theorem go_lsub : gGo g mi pc L st h .lsub len := by
  intro pc' L' st' h1 hd hs p l e R s m args below meth c H locs cells slots Q ls hC hH hS hl hcs hfr hlo hce hsl K
  obtain ⟨hx, hb, hml, hown, hts, hE, hba, hlk, hnm⟩ := hC
  simp only [mIns, mNx] at hs
  split at hs
  · rename_i hlen
    subst hlen
    split at hs
    · cases hs
      exact lv_lsub hx hb hd (K H locs ls cells slots (eqz rfl) (eqz rfl) hH hS hl)
    · cases hs
  · cases hs
theorem go_ineg : gGo g mi pc L st h .ineg len := by
  intro pc' L' st' h1 hd hs p l e R s m args below meth c H locs cells slots Q ls hC hH hS hl hcs hfr hlo hce hsl K
  obtain ⟨hx, hb, hml, hown, hts, hE, hba, hlk, hnm⟩ := hC
  simp only [mIns, mNx] at hs
  split at hs
  · rename_i hlen
    subst hlen
    split at hs
    · cases hs
      exact lv_ineg hx hb hd (K H locs ls cells slots (eqz rfl) (eqz rfl) hH hS hl)
    · cases hs
  · cases hs
theorem go_lcmp : gGo g mi pc L st h .lcmp len := by
  intro pc' L' st' h1 hd hs p l e R s m args below meth c H locs cells slots Q ls hC hH hS hl hcs hfr hlo hce hsl K
  obtain ⟨hx, hb, hml, hown, hts, hE, hba, hlk, hnm⟩ := hC
  simp only [mIns, mNx] at hs
  split at hs
  · rename_i hlen
    subst hlen
    split at hs
    · cases hs
      exact W.lcmp hx hb hd (K H locs ls cells slots (eqz rfl) (eqz rfl) hH hS hl)
    · cases hs
  · cases hs
theorem go_iushr : gGo g mi pc L st h .iushr len := by
  intro pc' L' st' h1 hd hs p l e R s m args below meth c H locs cells slots Q ls hC hH hS hl hcs hfr hlo hce hsl K
  obtain ⟨hx, hb, hml, hown, hts, hE, hba, hlk, hnm⟩ := hC
  simp only [mIns, mNx] at hs
  split at hs
  · rename_i hlen
    subst hlen
    split at hs
    · cases hs
      exact lv_iushr hx hb hd rfl (K H locs ls cells slots (eqz rfl) (eqz rfl) hH hS hl)
    · cases hs
  · cases hs
theorem go_i2l : gGo g mi pc L st h .i2l len := by
  intro pc' L' st' h1 hd hs p l e R s m args below meth c H locs cells slots Q ls hC hH hS hl hcs hfr hlo hce hsl K
  obtain ⟨hx, hb, hml, hown, hts, hE, hba, hlk, hnm⟩ := hC
  simp only [mIns, mNx] at hs
  split at hs
  · rename_i hlen
    subst hlen
    split at hs
    · cases hs
      exact lv_i2l hx hb hd rfl (K H locs ls cells slots (eqz rfl) (eqz rfl) hH hS hl)
    · cases hs
  · cases hs
theorem go_l2i : gGo g mi pc L st h .l2i len := by
  intro pc' L' st' h1 hd hs p l e R s m args below meth c H locs cells slots Q ls hC hH hS hl hcs hfr hlo hce hsl K
  obtain ⟨hx, hb, hml, hown, hts, hE, hba, hlk, hnm⟩ := hC
  simp only [mIns, mNx] at hs
  split at hs
  · rename_i hlen
    subst hlen
    split at hs
    · cases hs
      exact lv_l2i hx hb hd rfl (K H locs ls cells slots (eqz rfl) (eqz rfl) hH hS hl)
    · cases hs
  · cases hs
theorem go_idiv : gGo g mi pc L st h .idiv len := by
  intro pc' L' st' h1 hd hs p l e R s m args below meth c H locs cells slots Q ls hC hH hS hl hcs hfr hlo hce hsl K
  obtain ⟨hx, hb, hml, hown, hts, hE, hba, hlk, hnm⟩ := hC
  simp only [mIns, mNx] at hs
  split at hs
  · rename_i hlen
    subst hlen
    split at hs
    · split at hs
      · cases hs
      · rename_i hne
        cases hs
        exact lv_idiv hx hb hd hne (K H locs ls cells slots (eqz rfl) (eqz rfl) hH hS hl)
    · cases hs
  · cases hs
theorem go_irem : gGo g mi pc L st h .irem len := by
  intro pc' L' st' h1 hd hs p l e R s m args below meth c H locs cells slots Q ls hC hH hS hl hcs hfr hlo hce hsl K
  obtain ⟨hx, hb, hml, hown, hts, hE, hba, hlk, hnm⟩ := hC
  simp only [mIns, mNx] at hs
  split at hs
  · rename_i hlen
    subst hlen
    split at hs
    · split at hs
      · cases hs
      · rename_i hne
        cases hs
        exact lv_irem hx hb hd hne (K H locs ls cells slots (eqz rfl) (eqz rfl) hH hS hl)
    · cases hs
  · cases hs
theorem go_dup : gGo g mi pc L st h .dup len := by
  intro pc' L' st' h1 hd hs p l e R s m args below meth c H locs cells slots Q ls hC hH hS hl hcs hfr hlo hce hsl K
  obtain ⟨hx, hb, hml, hown, hts, hE, hba, hlk, hnm⟩ := hC
  simp only [mIns, mNx] at hs
  split at hs
  · rename_i hlen
    subst hlen
    split at hs
    · split at hs
      · rename_i hc
        cases hs
        exact lv_dup hx hb hd (by rw [gV_cat]; exact hc) (K H locs ls cells slots (eqz rfl) (eqz rfl) hH hS hl)
      · cases hs
    · cases hs
  · cases hs
theorem go_dup2 : gGo g mi pc L st h .dup2 len := by
  intro pc' L' st' h1 hd hs p l e R s m args below meth c H locs cells slots Q ls hC hH hS hl hcs hfr hlo hce hsl K
  obtain ⟨hx, hb, hml, hown, hts, hE, hba, hlk, hnm⟩ := hC
  simp only [mIns, mNx] at hs
  split at hs
  · rename_i hlen
    subst hlen
    split at hs
    · split at hs
      · rename_i hc
        cases hs
        exact lv_dup2_2 hx hb hd (by rw [gV_cat]; exact hc) (K H locs ls cells slots (eqz rfl) (eqz rfl) hH hS hl)
      · split at hs
        · split at hs
          · rename_i hc
            cases hs
            exact lv_dup2_11 hx hb hd (by rw [gV_cat]; exact hc.2) (by rw [gV_cat]; exact hc.1) (K H locs ls cells slots (eqz rfl) (eqz rfl) hH hS hl)
          · cases hs
        · cases hs
    · cases hs
  · cases hs
theorem tg_of {pc : Nat} {off : Int} (h : 0 ≤ (pc : Int) + off) : (pc : Int) + off = (((pc : Int) + off).toNat : Int) := (Int.toNat_of_nonneg h).symm
theorem gBr_ifCond {p : Program} {l : Launch} {e : Env} {R : Room} {s : State} {m : MethodId} {args : Array Value} {below : List Frame} {meth : Method} {c : Code} {H : Heap} {locs : List Loc} {cells slots : Nat} {Q : State → Prop} {cc : ByteArray} {ls : Array Slot} {rest : List Value} {cn : ClassFile.Cond} {off : Int} {x : Int32} (hx : p.tables.exec = Jvm.exec) (hb : c.code = cc) (hd : decode cc pc = .ok (.ifCond cn off, 3)) (ht : 0 ≤ (pc : Int) + off)
    (kt : mCmp cn x 0 = true → W p l e R s m args below meth c H locs cells slots Q (F0 m ((pc : Int) + off).toNat ls rest)) (kf : mCmp cn x 0 = false → W p l e R s m args below meth c H locs cells slots Q (F0 m (pc + 3) ls rest)) : W p l e R s m args below meth c H locs cells slots Q (F0 m pc ls (.int x :: rest)) := by
  cases cn
  · exact lv_if_eq hx hb hd (tg_of ht) (fun q => kt (decide_eq_true q)) (fun q => kf (decide_eq_false q))
  · exact lv_if_ne hx hb hd (tg_of ht) (fun q => kt (decide_eq_true q)) (fun q => kf (decide_eq_false (fun z => z q)))
  · exact lv_if_lt hx hb hd (tg_of ht) (fun q => kt (decide_eq_true q)) (fun q => kf (decide_eq_false q))
  · exact lv_if_ge hx hb hd (tg_of ht) (fun q => kt (decide_eq_true q)) (fun q => kf (decide_eq_false q))
  · exact lv_if_gt hx hb hd (tg_of ht) (fun q => kt (decide_eq_true q)) (fun q => kf (decide_eq_false q))
  · exact lv_if_le hx hb hd (tg_of ht) (fun q => kt (decide_eq_true q)) (fun q => kf (decide_eq_false q))
theorem gBf_ifCond {p : Program} {l : Launch} {e : Env} {R : Room} {s : State} {m : MethodId} {args : Array Value} {below : List Frame} {meth : Method} {c : Code} {H : Heap} {locs : List Loc} {cells slots : Nat} {Q : State → Prop} {cc : ByteArray} {ls : Array Slot} {rest : List Value} {cn : ClassFile.Cond} {off : Int} {x : Int32} (hx : p.tables.exec = Jvm.exec) (hb : c.code = cc) (hd : decode cc pc = .ok (.ifCond cn off, 3)) (hq : mCmp cn x 0 = false)
    (k : W p l e R s m args below meth c H locs cells slots Q (F0 m (pc + 3) ls rest)) : W p l e R s m args below meth c H locs cells slots Q (F0 m pc ls (.int x :: rest)) := by
  intro T hT X
  obtain ⟨t, a, b⟩ := k T hT X
  refine ⟨t, ?_, b⟩
  cases cn <;> simp only [mCmp, decide_eq_false_iff_not, Classical.not_not] at hq <;> (jvm_step X.here [X.here.top, hx, hb, hd, Op.ifCond.holds, hq]; exact a)
theorem go_ifCond {cn : ClassFile.Cond} {off : Int} : gGo g mi pc L st h (.ifCond cn off) len := by
  intro pc' L' st' h1 hd hs p l e R s m args below meth c H locs cells slots Q ls hC hH hS hl hcs hfr hlo hce hsl K
  obtain ⟨hx, hb, hml, hown, hts, hE, hba, hlk, hnm⟩ := hC
  simp only [mIns, mNx] at hs
  split at hs
  · rename_i hlen
    subst hlen
    split at hs
    · rename_i x r
      split at hs
      · rename_i hq
        unfold mTg mNx at hs
        split at hs
        · rename_i ht
          cases hs
          exact gBr_ifCond hx hb hd ht (fun _ => (K H locs ls cells slots (eqz rfl) (eqz rfl) hH hS hl)) (fun z => by rw [z] at hq; cases hq)
        · cases hs
      · rename_i hq
        cases hs
        exact gBf_ifCond hx hb hd (by simpa using hq) (K H locs ls cells slots (eqz rfl) (eqz rfl) hH hS hl)
    · cases hs
  · cases hs
theorem gBr_if_icmp {p : Program} {l : Launch} {e : Env} {R : Room} {s : State} {m : MethodId} {args : Array Value} {below : List Frame} {meth : Method} {c : Code} {H : Heap} {locs : List Loc} {cells slots : Nat} {Q : State → Prop} {cc : ByteArray} {ls : Array Slot} {rest : List Value} {cn : ClassFile.Cond} {off : Int} {x y : Int32} (hx : p.tables.exec = Jvm.exec) (hb : c.code = cc) (hd : decode cc pc = .ok (.if_icmp cn off, 3)) (ht : 0 ≤ (pc : Int) + off)
    (kt : mCmp cn x y = true → W p l e R s m args below meth c H locs cells slots Q (F0 m ((pc : Int) + off).toNat ls rest)) (kf : mCmp cn x y = false → W p l e R s m args below meth c H locs cells slots Q (F0 m (pc + 3) ls rest)) : W p l e R s m args below meth c H locs cells slots Q (F0 m pc ls (.int y :: .int x :: rest)) := by
  cases cn
  · exact lv_icmp_eq hx hb hd (tg_of ht) (fun q => kt (decide_eq_true q)) (fun q => kf (decide_eq_false q))
  · exact lv_icmp_ne hx hb hd (tg_of ht) (fun q => kt (decide_eq_true q)) (fun q => kf (decide_eq_false (fun z => z q)))
  · exact lv_icmp_lt hx hb hd (tg_of ht) (fun q => kt (decide_eq_true q)) (fun q => kf (decide_eq_false q))
  · exact lv_icmp_ge hx hb hd (tg_of ht) (fun q => kt (decide_eq_true q)) (fun q => kf (decide_eq_false q))
  · exact lv_icmp_gt hx hb hd (tg_of ht) (fun q => kt (decide_eq_true q)) (fun q => kf (decide_eq_false q))
  · exact lv_icmp_le hx hb hd (tg_of ht) (fun q => kt (decide_eq_true q)) (fun q => kf (decide_eq_false q))
theorem gBf_if_icmp {p : Program} {l : Launch} {e : Env} {R : Room} {s : State} {m : MethodId} {args : Array Value} {below : List Frame} {meth : Method} {c : Code} {H : Heap} {locs : List Loc} {cells slots : Nat} {Q : State → Prop} {cc : ByteArray} {ls : Array Slot} {rest : List Value} {cn : ClassFile.Cond} {off : Int} {x y : Int32} (hx : p.tables.exec = Jvm.exec) (hb : c.code = cc) (hd : decode cc pc = .ok (.if_icmp cn off, 3)) (hq : mCmp cn x y = false)
    (k : W p l e R s m args below meth c H locs cells slots Q (F0 m (pc + 3) ls rest)) : W p l e R s m args below meth c H locs cells slots Q (F0 m pc ls (.int y :: .int x :: rest)) := by
  intro T hT X
  obtain ⟨t, a, b⟩ := k T hT X
  refine ⟨t, ?_, b⟩
  cases cn <;> simp only [mCmp, decide_eq_false_iff_not, Classical.not_not] at hq <;> (jvm_step X.here [X.here.top, hx, hb, hd, Op.if_icmp.holds, hq]; exact a)
theorem go_if_icmp {cn : ClassFile.Cond} {off : Int} : gGo g mi pc L st h (.if_icmp cn off) len := by
  intro pc' L' st' h1 hd hs p l e R s m args below meth c H locs cells slots Q ls hC hH hS hl hcs hfr hlo hce hsl K
  obtain ⟨hx, hb, hml, hown, hts, hE, hba, hlk, hnm⟩ := hC
  simp only [mIns, mNx] at hs
  split at hs
  · rename_i hlen
    subst hlen
    split at hs
    · rename_i y x r
      split at hs
      · rename_i hq
        unfold mTg mNx at hs
        split at hs
        · rename_i ht
          cases hs
          exact gBr_if_icmp hx hb hd ht (fun _ => (K H locs ls cells slots (eqz rfl) (eqz rfl) hH hS hl)) (fun z => by rw [z] at hq; cases hq)
        · cases hs
      · rename_i hq
        cases hs
        exact gBf_if_icmp hx hb hd (by simpa using hq) (K H locs ls cells slots (eqz rfl) (eqz rfl) hH hS hl)
    · cases hs
  · cases hs
theorem go_goto {off : Int} : gGo g mi pc L st h (.goto off) len := by
  intro pc' L' st' h1 hd hs p l e R s m args below meth c H locs cells slots Q ls hC hH hS hl hcs hfr hlo hce hsl K
  obtain ⟨hx, hb, hml, hown, hts, hE, hba, hlk, hnm⟩ := hC
  simp only [mIns, mNx] at hs
  split at hs
  · rename_i hlen
    subst hlen
    unfold mTg mNx at hs
    split at hs
    · rename_i ht
      cases hs
      exact lv_goto hx hb hd (tg_of ht) (K H locs ls cells slots (eqz rfl) (eqz rfl) hH hS hl)
    · cases hs
  · cases hs
theorem go_tableswitch {dflt lo hi : Int} {offs : Array Int} : gGo g mi pc L st h (.tableswitch dflt lo hi offs) len := by
  intro pc' L' st' h1 hd hs p l e R s m args below meth c H locs cells slots Q ls hC hH hS hl hcs hfr hlo hce hsl K
  obtain ⟨hx, hb, hml, hown, hts, hE, hba, hlk, hnm⟩ := hC
  simp only [mIns, mNx] at hs
  split at hs
  · rename_i x r
    split at hs
    · rename_i hq
      unfold mTg mNx at hs
      split at hs
      · rename_i ht
        cases hs
        exact lv_tableOut hx hb hd hq (tg_of ht) (K H locs ls cells slots (eqz rfl) (eqz rfl) hH hS hl)
      · cases hs
    · rename_i hq
      split at hs
      · rename_i off ho
        unfold mTg mNx at hs
        split at hs
        · rename_i ht
          cases hs
          exact lv_tableIn hx hb hd (fun z => hq (Or.inl z)) (fun z => hq (Or.inr z)) ho (tg_of ht) (K H locs ls cells slots (eqz rfl) (eqz rfl) hH hS hl)
        · cases hs
      · cases hs
  · cases hs
end GOS
end
section
-- the instructions that read and write cells
theorem W.size {p : Program} {l : Launch} {e : Env} {R : Room} {s : State} {m : MethodId} {args : Array Value} {below : List Frame} {meth : Method} {c : Code} {H : Heap} {locs : List Loc} {cells slots : Nat} {Q : State → Prop} {g : JFrame} (k : H.size ≤ s.heap.size + cells → W p l e R s m args below meth c H locs cells slots Q g) : W p l e R s m args below meth c H locs cells slots Q g := fun T hT X => k (by rw [← hT]; exact X.heapSize) T hT X
theorem gSize {g : mG} {h : mM} {s : State} {H : Heap} {locs : List Loc} {cells : Nat} (hH : gH g h s H) (hS : va_S (gA g) s.heap H locs) (hba : g.2.1 ≤ s.heap.size) (hcs : s.heap.size + cells + 1 = g.2.1 + mN h) (hz : H.size ≤ s.heap.size + cells) : H.size = g.2.1 + (mN h - 1) := by
  have h1 := hH.1
  rcases Nat.lt_or_ge 1 (mN h) with h2 | h2
  · have h3 := hH.2.1 _ _ (gW_at (g := g) (h := h) (a := mN h - 1) (by omega) (by omega))
    have h4 := h3.lt
    simp only at h4
    rw [gAd_pos (by omega)] at h4
    omega
  · have := hS.1
    omega
theorem gX_kept {g : mG} {s : State} {H H1 : Heap} {locs locs1 : List Loc} (hb : g.1 < g.2.1) (hba : g.2.1 ≤ s.heap.size) (hS : va_S (gA g) s.heap H locs) (hS1 : va_S (gA g) s.heap H1 locs1) : H1[g.1]? = H[g.1]? := by
  have hn : ¬ gA g g.1 := fun q => by unfold gA at q; omega
  rw [hS.2.1 g.1 (by omega) hn, hS1.2.1 g.1 (by omega) hn]
theorem gH.put {g : mG} {h h1 : mM} {s : State} {H H1 : Heap} {locs locs1 : List Loc} (q : gH g h s H) (hba : g.2.1 ≤ s.heap.size) (hS : va_S (gA g) s.heap H locs) (hS1 : va_S (gA g) s.heap H1 locs1) (hn : 1 ≤ mN h1) (hP : va_P (gD g) mCl (gW g h1) H1) (hL : mL h1 0 = mL h 0) (hI : mI h1 0 = mI h 0) : gH g h1 s H1 := by
  refine ⟨hn, hP, ?_, q.2.2.2⟩
  rw [hL, hI]
  exact q.2.2.1.kept (gX_kept q.2.2.2 hba hS hS1)
theorem gE_congr {g : mG} {h h' : mM} {a : Nat} (hK : mK h' a = mK h a) (hL : mL h' a = mL h a) (hI : mI h' a = mI h a) (hJ : mJ h' a = mJ h a) (hR : mR h' a = mR h a) : gE g h' a = gE g h a := by
  unfold gE gFs gArr gF
  rw [hK, hL, hI, hJ, hR]
theorem mI_wI_ne {h : mM} {a k a' : Nat} {v : Int32} (ha : a' ≠ a) : mI (wI h a k v) a' = mI h a' := by
  funext j
  show (if a' = a ∧ j = k then v else _) = _
  rw [if_neg (fun q => ha q.1)]
  rfl
theorem mJ_wJ_ne {h : mM} {a k a' : Nat} {v : Int64} (ha : a' ≠ a) : mJ (wJ h a k v) a' = mJ h a' := by
  funext j
  show (if a' = a ∧ j = k then v else _) = _
  rw [if_neg (fun q => ha q.1)]
  rfl
theorem mR_wR_ne {h : mM} {a k a' : Nat} {v : Option Nat} (ha : a' ≠ a) : mR (wR h a k v) a' = mR h a' := by
  funext j
  show (if a' = a ∧ j = k then v else _) = _
  rw [if_neg (fun q => ha q.1)]
  rfl
theorem mI_wC_ne {h : mM} {a b sp dp n a' : Nat} (ha : a' ≠ b) : mI (wC h a b sp dp n) a' = mI h a' := by
  funext j
  show (if a' = b ∧ dp ≤ j ∧ j < dp + n then _ else _) = _
  rw [if_neg (fun q => ha q.1)]
  rfl
theorem mI_wI {h : mM} {a k a' k' : Nat} {v : Int32} : mI (wI h a k v) a' k' = if a' = a ∧ k' = k then v else mI h a' k' := rfl
theorem mJ_wJ {h : mM} {a k a' k' : Nat} {v : Int64} : mJ (wJ h a k v) a' k' = if a' = a ∧ k' = k then v else mJ h a' k' := rfl
theorem mR_wR {h : mM} {a k a' k' : Nat} {v : Option Nat} : mR (wR h a k v) a' k' = if a' = a ∧ k' = k then v else mR h a' k' := rfl
theorem mI_wC {h : mM} {a b sp dp n a' k' : Nat} : mI (wC h a b sp dp n) a' k' = if a' = b ∧ dp ≤ k' ∧ k' < dp + n then mI h a (sp + (k' - dp)) else mI h a' k' := rfl
theorem gW_putI {g : mG} {h : mM} {a k ci : Nat} {v : Int32} (hk : mK h a = ci) (h11 : ci < 11) (hr : mIsR (tyN ci k) = false) : (gW g h).set (a - 1) (gAd g a, .inr (ci, (gFs g h a ci).set k (.int v))) = gW g (wI h a k v) := by
  have ha := mK_in (h := h) (a := a) (by omega)
  rw [← gW_set (g := g) (h := h) (h' := wI h a k v) rfl ha.1 (fun a' h1 => gE_congr rfl rfl (mI_wI_ne h1) rfl rfl), gE_obj (h := wI h a k v) hk h11, gFs_set (h' := wI h a k v)]
  · simp [gF, hr, mI_wI]
  · intro j hj
    simp [gF, mI_wI, hj]
    rfl
theorem gW_putR {g : mG} {h : mM} {a k ci b : Nat} (hk : mK h a = ci) (h11 : ci < 11) (hr : mIsR (tyN ci k) = true) : (gW g h).set (a - 1) (gAd g a, .inr (ci, (gFs g h a ci).set k (.ref (gAd g b)))) = gW g (wR h a k (some b)) := by
  have ha := mK_in (h := h) (a := a) (by omega)
  rw [← gW_set (g := g) (h := h) (h' := wR h a k (some b)) rfl ha.1 (fun a' h1 => gE_congr rfl rfl rfl rfl (mR_wR_ne h1)), gE_obj (h := wR h a k (some b)) hk h11, gFs_set (h' := wR h a k (some b))]
  · simp [gF, hr, mR_wR, va_rf]
  · intro j hj
    simp [gF, mR_wR, hj]
    rfl
theorem gW_iast {g : mG} {h : mM} {a k : Nat} {v : Int32} (hk : mK h a = 11) : (gW g h).set (a - 1) (gAd g a, .inl (g.2.2.2.2 11, mL h a, .inl (upd (mI h a) k v))) = gW g (wI h a k v) := by
  have ha := mK_in (h := h) (a := a) (by omega)
  rw [← gW_set (g := g) (h := h) (h' := wI h a k v) rfl ha.1 (fun a' h1 => gE_congr rfl rfl (mI_wI_ne h1) rfl rfl), gE_arr (h := wI h a k v) hk (by omega)]
  have e : mI (wI h a k v) a = upd (mI h a) k v := by
    funext j
    simp [mI_wI, upd]
  unfold gArr
  rw [if_pos rfl, e]
  rfl
theorem gW_copy {g : mG} {h : mM} {a b sp dp n : Nat} (hk : mK h b = 11) : (gW g h).set (b - 1) (gAd g b, .inl (g.2.2.2.2 11, mL h b, .inl (va_cpy (mI h a) (mI h b) sp dp n))) = gW g (wC h a b sp dp n) := by
  have ha := mK_in (h := h) (a := b) (by omega)
  rw [← gW_set (g := g) (h := h) (h' := wC h a b sp dp n) rfl ha.1 (fun a' h1 => gE_congr rfl rfl (mI_wC_ne h1) rfl rfl), gE_arr (h := wC h a b sp dp n) hk (by omega)]
  have e : mI (wC h a b sp dp n) b = va_cpy (mI h a) (mI h b) sp dp n := by
    funext j
    simp [mI_wC, va_cpy]
  unfold gArr
  rw [if_pos rfl, e]
  rfl
theorem gW_last {g : mG} {h : mM} {a k : Nat} {v : Int64} (hk : mK h a = 12) : (gW g h).set (a - 1) (gAd g a, .inl (g.2.2.2.2 12, mL h a, .inr (.inl (vp_updL (mJ h a) k v)))) = gW g (wJ h a k v) := by
  have ha := mK_in (h := h) (a := a) (by omega)
  rw [← gW_set (g := g) (h := h) (h' := wJ h a k v) rfl ha.1 (fun a' h1 => gE_congr rfl rfl rfl (mJ_wJ_ne h1) rfl), gE_arr (h := wJ h a k v) hk (by omega)]
  have e : mJ (wJ h a k v) a = vp_updL (mJ h a) k v := by
    funext j
    simp [mJ_wJ, vp_updL]
  unfold gArr
  rw [if_neg (by omega), if_pos rfl, e]
  rfl
theorem gW_aast {g : mG} {h : mM} {a k b q : Nat} (hk : mK h a = q) (h1 : 12 < q) (h2 : q < 19) : (gW g h).set (a - 1) (gAd g a, .inl (g.2.2.2.2 q, mL h a, .inr (.inr (.inr (.inr (va_up (fun j => (mR h a j).map (gAd g)) k (some (gAd g b)))))))) = gW g (wR h a k (some b)) := by
  have ha := mK_in (h := h) (a := a) (by omega)
  rw [← gW_set (g := g) (h := h) (h' := wR h a k (some b)) rfl ha.1 (fun a' h1 => gE_congr rfl rfl rfl rfl (mR_wR_ne h1)), gE_arr (h := wR h a k (some b)) hk (by omega)]
  have e : (fun j => (mR (wR h a k (some b)) a j).map (gAd g)) = va_up (fun j => (mR h a j).map (gAd g)) k (some (gAd g b)) := by
    funext j
    by_cases hj : j = k
    · simp [mR_wR, va_up, hj]
    · simp [mR_wR, va_up, hj]
  unfold gArr
  rw [if_neg (by omega), if_neg (by omega), e]
  rfl
theorem gAt_obj {g : mG} {h : mM} {a ci : Nat} (hk : mK h a = ci) (h11 : ci < 11) : (gW g h)[a - 1]? = some (gAd g a, .inr (ci, gFs g h a ci)) := by
  have ha := mK_in (h := h) (a := a) (by omega)
  rw [gW_at ha.1 ha.2, gE_obj hk h11]
theorem gAt_i {g : mG} {h : mM} {a : Nat} (hk : mK h a = 11) : (gW g h)[a - 1]? = some (gAd g a, .inl (g.2.2.2.2 11, mL h a, .inl (mI h a))) := by
  have ha := mK_in (h := h) (a := a) (by omega)
  rw [gW_at ha.1 ha.2, gE_arr hk (by omega)]
  rfl
theorem gAt_l {g : mG} {h : mM} {a : Nat} (hk : mK h a = 12) : (gW g h)[a - 1]? = some (gAd g a, .inl (g.2.2.2.2 12, mL h a, .inr (.inl (mJ h a)))) := by
  have ha := mK_in (h := h) (a := a) (by omega)
  rw [gW_at ha.1 ha.2, gE_arr hk (by omega)]
  rfl
theorem gAt_r {g : mG} {h : mM} {a q : Nat} (hk : mK h a = q) (h1 : 12 < q) (h2 : q < 19) : (gW g h)[a - 1]? = some (gAd g a, .inl (g.2.2.2.2 q, mL h a, .inr (.inr (.inr (.inr (fun j => (mR h a j).map (gAd g))))))) := by
  have ha := mK_in (h := h) (a := a) (by omega)
  rw [gW_at ha.1 ha.2, gE_arr hk (by omega)]
  unfold gArr
  rw [if_neg (by omega), if_neg (by omega)]
def gTy (q : Nat) : FieldType := if q = 13 then .object (RN 3) else if q = 14 then .object (RN 0) else if q = 15 then .object (RN 2) else if q = 16 then .object (RN 6) else if q = 17 then .object (RN 4) else .array .int
theorem gT_at {g : mG} {q : Nat} (h1 : 12 < q) (h2 : q < 19) : (gT g)[q - 11]? = some (g.2.2.2.2 q, gTy q) ∧ (gTy q).isReference = true := by
  rcases (show q = 13 ∨ q = 14 ∨ q = 15 ∨ q = 16 ∨ q = 17 ∨ q = 18 by omega) with h | h | h | h | h | h <;> subst h <;> exact ⟨rfl, rfl⟩
section GOH
variable {g : mG} {mi pc len : Nat} {L : mLs} {st : List Value} {h : mM}
theorem go_getfield {i : Nat} : gGo g mi pc L st h (.getfield i) len := by
  intro pc' L' st' h1 hd hs p l e R s m args below meth c H locs cells slots Q ls hC hH hS hl hcs hfr hlo hce hsl K
  obtain ⟨hx, hb, hml, hown, hts, hE, hba, hlk, hnm⟩ := hC
  simp only [mIns] at hs
  split at hs
  · rename_i hlen
    subst hlen
    unfold mGetF mNx at hs
    split at hs
    · rename_i a r
      split at hs
      · rename_i ci k hf
        split at hs
        · rename_i hk
          have hin := fGet_in hf
          have h11 : ci < 11 := (fL_ok1 _ hin).1
          have hkn : k < nfN ci := (fL_ok1 _ hin).2
          split at hs
          · rename_i hr
            split at hs
            · rename_i b hb2
              cases hs
              refine va_get (v := .ref (gAd g b)) hx hb hts (inN ci h11) hown hE.1 hH.2.1 (a - 1) (gAt_obj hk h11) (mCl_at h11) k hkn (hts _ (fL_ok _ hin)) (fun _ z => z) ?_ hd (K H locs ls cells slots (eqz rfl) (eqz rfl) hH hS hl)
              rw [gFs_at hkn]
              simp [gF, hr, hb2, va_rf]
            · cases hs
          · rename_i hr
            cases hs
            refine va_get (v := .int (mI h a k)) hx hb hts (inN ci h11) hown hE.1 hH.2.1 (a - 1) (gAt_obj hk h11) (mCl_at h11) k hkn (hts _ (fL_ok _ hin)) (fun _ z => z) ?_ hd (K H locs ls cells slots (eqz rfl) (eqz rfl) hH hS hl)
            rw [gFs_at hkn]
            simp [gF, hr]
        · cases hs
      · cases hs
    · cases hs
  · cases hs
theorem go_putfield {i : Nat} : gGo g mi pc L st h (.putfield i) len := by
  intro pc' L' st' h1 hd hs p l e R s m args below meth c H locs cells slots Q ls hC hH hS hl hcs hfr hlo hce hsl K
  obtain ⟨hx, hb, hml, hown, hts, hE, hba, hlk, hnm⟩ := hC
  simp only [mIns] at hs
  split at hs
  · rename_i hlen
    subst hlen
    unfold mPutF mNx at hs
    split at hs
    · rename_i v a r
      split at hs
      · rename_i ci k hf
        split at hs
        · rename_i hk
          obtain ⟨hk, ht, hfin⟩ := hk
          have hin := fGet_in hf
          have h11 : ci < 11 := (fL_ok1 _ hin).1
          have hkn : k < nfN ci := (fL_ok1 _ hin).2
          have ha := mK_in (h := h) (a := a) (by omega)
          cases hs
          have hr : mIsR (tyN ci k) = false := by rcases ht with ht | ht <;> simp [ht, mIsR]
          have hn : narrow (tyN ci k) (.int v) = .int v := by
            rcases ht with ht | ⟨ht, hz⟩
            · rw [ht]; rfl
            · rw [ht]
              unfold mZO at hz
              simp only [Bool.or_eq_true, beq_iff_eq] at hz
              rcases hz with rfl | rfl <;> decide
          have hfit : fits (tyN ci k) (.int v) = true := by
            rcases ht with ht | ⟨ht, hz⟩
            · rw [ht]; rfl
            · rw [ht]; exact hz
          refine va_put (v := .int v) hx hb hts (inN ci h11) (tyN ci) (tyN_ok ci h11) (nmN ci h11) hown hE.1 hH.2.1 gW_D hS (a - 1) (gAt_obj hk h11) (mCl_at h11) k hkn (hts _ (fL_ok _ hin)) (fun _ z => z) hfin (tyN_ok ci h11 k hkn) hn hfit (by rw [gFs_len]; exact hkn) hd (fun H1 locs1 hP1 hD1 hS1 => ?_)
          rw [gW_putI hk h11 hr] at hP1
          exact K H1 locs1 ls cells slots (eqz rfl) (eqz rfl) (hH.put hba hS hS1 hH.1 hP1 rfl (mI_wI_ne (by omega))) hS1 hl
        · cases hs
      · cases hs
    · rename_i b a r
      split at hs
      · rename_i ci k hf
        split at hs
        · rename_i hk
          obtain ⟨hk, hr, hfin⟩ := hk
          have hin := fGet_in hf
          have h11 : ci < 11 := (fL_ok1 _ hin).1
          have hkn : k < nfN ci := (fL_ok1 _ hin).2
          have ha := mK_in (h := h) (a := a) (by omega)
          cases hs
          have hn : narrow (tyN ci k) (.ref (gAd g b)) = .ref (gAd g b) := by
            generalize tyN ci k = ty at hr
            cases ty <;> first | rfl | (cases hr)
          have hfit : fits (tyN ci k) (.ref (gAd g b)) = true := by
            generalize tyN ci k = ty at hr
            cases ty <;> first | rfl | (cases hr)
          rcases hfin with hfin | ⟨hfin, hi, hde⟩
          · refine va_put (v := .ref (gAd g b)) hx hb hts (inN ci h11) (tyN ci) (tyN_ok ci h11) (nmN ci h11) hown hE.1 hH.2.1 gW_D hS (a - 1) (gAt_obj hk h11) (mCl_at h11) k hkn (hts _ (fL_ok _ hin)) (fun _ z => z) hfin (tyN_ok ci h11 k hkn) hn hfit (by rw [gFs_len]; exact hkn) hd (fun H1 locs1 hP1 hD1 hS1 => ?_)
            rw [gW_putR hk h11 hr] at hP1
            exact K H1 locs1 ls cells slots (eqz rfl) (eqz rfl) (hH.put hba hS hS1 hH.1 hP1 rfl rfl) hS1 hl
          · refine va_putF (v := .ref (gAd g b)) hx hb hts (inN ci h11) (tyN ci) (tyN_ok ci h11) (nmN ci h11) hown hE.1 hH.2.1 gW_D hS (a - 1) (gAt_obj hk h11) (mCl_at h11) k hkn (hts _ (fL_ok _ hin)) (fun _ z => z) hfin (hnm hi) hde (tyN_ok ci h11 k hkn) hn hfit (by rw [gFs_len]; exact hkn) hd (fun H1 locs1 hP1 hD1 hS1 => ?_)
            rw [gW_putR hk h11 hr] at hP1
            exact K H1 locs1 ls cells slots (eqz rfl) (eqz rfl) (hH.put hba hS hS1 hH.1 hP1 rfl rfl) hS1 hl
        · cases hs
      · cases hs
    · cases hs
  · cases hs
theorem go_iaload : gGo g mi pc L st h .iaload len := by
  intro pc' L' st' h1 hd hs p l e R s m args below meth c H locs cells slots Q ls hC hH hS hl hcs hfr hlo hce hsl K
  obtain ⟨hx, hb, hml, hown, hts, hE, hba, hlk, hnm⟩ := hC
  simp only [mIns, mNx] at hs
  split at hs
  · rename_i hlen
    subst hlen
    split at hs
    · rename_i i a r
      split at hs
      · rename_i hk
        obtain ⟨hk, hi⟩ := hk
        cases hs
        rcases hk with hk | hk
        · exact va_iald hx hb hE.1 hH.2.1 (a - 1) 0 (gAt_i hk) rfl (ixOK_in hi) hd (K H locs ls cells slots (eqz rfl) (eqz rfl) hH hS hl)
        · have ha : a = 0 := by
            rcases mK_le (h := h) (a := a) with q | q | q
            · omega
            · exact q.2
            · omega
          subst ha
          have hbA : ¬ gA g g.1 := fun q => by unfold gA at q; have := hH.2.2.2; omega
          have hbl : g.1 < s.heap.size := by have := hH.2.2.2; omega
          exact va_sld hx hb (hH.2.2.1.kept (hS.2.1 g.1 hbl hbA).symm) hbl hbA hS (ixOK_in hi) hd (K H locs ls cells slots (eqz rfl) (eqz rfl) hH hS hl)
      · cases hs
    · cases hs
  · cases hs
theorem go_laload : gGo g mi pc L st h .laload len := by
  intro pc' L' st' h1 hd hs p l e R s m args below meth c H locs cells slots Q ls hC hH hS hl hcs hfr hlo hce hsl K
  obtain ⟨hx, hb, hml, hown, hts, hE, hba, hlk, hnm⟩ := hC
  simp only [mIns, mNx] at hs
  split at hs
  · rename_i hlen
    subst hlen
    split at hs
    · rename_i i a r
      split at hs
      · rename_i hk
        obtain ⟨hk, hi⟩ := hk
        cases hs
        exact va_lald hx hb hE.1 hH.2.1 (a - 1) 1 (gAt_l hk) rfl (ixOK_in hi) hd (K H locs ls cells slots (eqz rfl) (eqz rfl) hH hS hl)
      · cases hs
    · cases hs
  · cases hs
theorem go_aaload : gGo g mi pc L st h .aaload len := by
  intro pc' L' st' h1 hd hs p l e R s m args below meth c H locs cells slots Q ls hC hH hS hl hcs hfr hlo hce hsl K
  obtain ⟨hx, hb, hml, hown, hts, hE, hba, hlk, hnm⟩ := hC
  simp only [mIns, mNx] at hs
  split at hs
  · rename_i hlen
    subst hlen
    split at hs
    · rename_i i a r
      split at hs
      · rename_i hk
        obtain ⟨hk, hi⟩ := hk
        split at hs
        · rename_i b hb2
          cases hs
          obtain ⟨ht, hty⟩ := gT_at (g := g) hk.1 hk.2
          have hin := ixOK_in hi
          have hlt : i.toNatClampNeg < mL h a := Nat.not_le.mp fun q => hin (Or.inr q)
          have ha := hH.2.1 _ _ (gAt_r rfl hk.1 hk.2)
          have hv : va_rf ((mR h a i.toNatClampNeg).map (gAd g)) = .ref (gAd g b) := by rw [hb2]; rfl
          exact W.aald (v := .ref (gAd g b)) (ty := gTy (mK h a)) hx hb ha ((hE.1.2 _ _ ht).1 (mL h a) (fun j => va_rf ((mR h a j).map (gAd g)))) hty (fun q => by cases q) (by show ¬ (i < 0 ∨ (arrV _ _ _).slots.size ≤ _); rw [arrV_size]; exact hin) (by show (arrV _ _ _).slots[_]? = _; rw [arrV_read _ _ hlt, hv]) rfl rfl hd (K H locs ls cells slots (eqz rfl) (eqz rfl) hH hS hl)
        · cases hs
      · cases hs
    · cases hs
  · cases hs
theorem go_iastore : gGo g mi pc L st h .iastore len := by
  intro pc' L' st' h1 hd hs p l e R s m args below meth c H locs cells slots Q ls hC hH hS hl hcs hfr hlo hce hsl K
  obtain ⟨hx, hb, hml, hown, hts, hE, hba, hlk, hnm⟩ := hC
  simp only [mIns, mNx] at hs
  split at hs
  · rename_i hlen
    subst hlen
    split at hs
    · rename_i v i a r
      split at hs
      · rename_i hk
        obtain ⟨hk, hi⟩ := hk
        cases hs
        have ha := mK_in (h := h) (a := a) (by omega)
        refine va_iast hx hb hE.1 hH.2.1 gW_D hS (a - 1) 0 (gAt_i hk) rfl (ixOK_in hi) hd (fun H1 locs1 hP1 hD1 hS1 => ?_)
        rw [gW_iast hk] at hP1
        exact K H1 locs1 ls cells slots (eqz rfl) (eqz rfl) (hH.put hba hS hS1 hH.1 hP1 rfl (mI_wI_ne (by omega))) hS1 hl
      · cases hs
    · cases hs
  · cases hs
theorem go_lastore : gGo g mi pc L st h .lastore len := by
  intro pc' L' st' h1 hd hs p l e R s m args below meth c H locs cells slots Q ls hC hH hS hl hcs hfr hlo hce hsl K
  obtain ⟨hx, hb, hml, hown, hts, hE, hba, hlk, hnm⟩ := hC
  simp only [mIns, mNx] at hs
  split at hs
  · rename_i hlen
    subst hlen
    split at hs
    · rename_i v i a r
      split at hs
      · rename_i hk
        obtain ⟨hk, hi⟩ := hk
        cases hs
        refine va_last hx hb hE.1 hH.2.1 gW_D hS (a - 1) 1 (gAt_l hk) rfl (ixOK_in hi) hd (fun H1 locs1 hP1 hD1 hS1 => ?_)
        rw [gW_last hk] at hP1
        exact K H1 locs1 ls cells slots (eqz rfl) (eqz rfl) (hH.put hba hS hS1 hH.1 hP1 rfl rfl) hS1 hl
      · cases hs
    · cases hs
  · cases hs
theorem go_aastore : gGo g mi pc L st h .aastore len := by
  intro pc' L' st' h1 hd hs p l e R s m args below meth c H locs cells slots Q ls hC hH hS hl hcs hfr hlo hce hsl K
  obtain ⟨hx, hb, hml, hown, hts, hE, hba, hlk, hnm⟩ := hC
  simp only [mIns, mNx] at hs
  split at hs
  · rename_i hlen
    subst hlen
    split at hs
    · rename_i b i a r
      split at hs
      · rename_i hk
        obtain ⟨hk, hbk, hi⟩ := hk
        cases hs
        have he : mEl (mK h a) < 11 ∧ gTy (mK h a) = .object (RN (mEl (mK h a))) := by
          rcases (show mK h a = 13 ∨ mK h a = 14 ∨ mK h a = 15 ∨ mK h a = 16 ∨ mK h a = 17 by omega) with q | q | q | q | q <;> rw [q] <;> exact ⟨by decide, rfl⟩
        obtain ⟨ht, -⟩ := gT_at (g := g) hk.1 (show mK h a < 19 by omega)
        rw [he.2] at ht
        refine va_astq (r := (RN (mEl (mK h a)), TN (mEl (mK h a)), nfN (mEl (mK h a)))) hx hb hE.1 hH.2.1 gW_D hS (a - 1) _ (b - 1) (mEl (mK h a)) (gAt_r rfl hk.1 (by omega)) ht (gAt_obj hbk he.1) (mCl_at he.1) (ixOK_in hi) hd (fun H1 locs1 hP1 hD1 hS1 => ?_)
        rw [gW_aast rfl hk.1 (by omega)] at hP1
        exact K H1 locs1 ls cells slots (eqz rfl) (eqz rfl) (hH.put hba hS hS1 hH.1 hP1 rfl rfl) hS1 hl
      · cases hs
    · cases hs
  · cases hs
theorem go_arraylength : gGo g mi pc L st h .arraylength len := by
  intro pc' L' st' h1 hd hs p l e R s m args below meth c H locs cells slots Q ls hC hH hS hl hcs hfr hlo hce hsl K
  obtain ⟨hx, hb, hml, hown, hts, hE, hba, hlk, hnm⟩ := hC
  simp only [mIns, mNx] at hs
  split at hs
  · rename_i hlen
    subst hlen
    split at hs
    · rename_i a r
      split at hs
      · rename_i hk
        cases hs
        have ha : a = 0 := by
          rcases mK_le (h := h) (a := a) with q | q | q
          · omega
          · exact q.2
          · omega
        subst ha
        have hbA : ¬ gA g g.1 := fun q => by unfold gA at q; have := hH.2.2.2; omega
        have hbl : g.1 < s.heap.size := by have := hH.2.2.2; omega
        exact va_slen hx hb (hH.2.2.1.kept (hS.2.1 g.1 hbl hbA).symm) hbl hbA hS hd (K H locs ls cells slots (eqz rfl) (eqz rfl) hH hS hl)
      · cases hs
    · cases hs
  · cases hs
end GOH
end
section
-- new cells, and the library's own calls
theorem dfl_ok : ∀ ci, ci < 11 → ∀ k, k < nfN ci → defaultValue (tyN ci k) = if mIsR (tyN ci k) = true then .null else .int 0 := by decide +kernel
theorem mK_wN_ne {h : mM} {q n a : Nat} (ha : a ≠ mN h) : mK (wN h q n) a = mK h a := by
  unfold mK wN
  unfold mN at ha
  simp only
  by_cases h0 : a = 0
  · rw [if_pos h0, if_pos h0]
  · rw [if_neg h0, if_neg h0, if_neg ha]
    by_cases h1 : a < h.1
    · have : a < h.1 + 1 := by omega
      simp [h1, this]
    · have : ¬ a < h.1 + 1 := by omega
      simp [h1, this]
theorem mK_wN_new {h : mM} {q n : Nat} (hn : 1 ≤ mN h) (hq : q < 19) : mK (wN h q n) (mN h) = q := by
  unfold mK wN
  unfold mN at hn ⊢
  simp only
  rw [if_neg (by omega)]
  simp [hq]
theorem gE_wN {g : mG} {h : mM} {q n a : Nat} (ha : a ≠ mN h) : gE g (wN h q n) a = gE g h a := by
  have ha1 : a ≠ h.1 := ha
  refine gE_congr (mK_wN_ne ha) ?_ ?_ ?_ ?_
  · show (if a = h.1 then (q, n) else h.2.2.1 a).2 = _
    rw [if_neg ha1]; rfl
  · funext k
    show (if a = h.1 then (0 : Int32) else _) = _
    rw [if_neg ha1]; rfl
  · funext k
    show (if a = h.1 then (0 : Int64) else _) = _
    rw [if_neg ha1]; rfl
  · funext k
    show (if a = h.1 then (none : Option Nat) else _) = _
    rw [if_neg ha1]; rfl
theorem gW_wN {g : mG} {h : mM} {q n : Nat} (hn : 1 ≤ mN h) : gW g (wN h q n) = gW g h ++ [(g.2.1 + (mN h - 1), gE g (wN h q n) (mN h))] := by
  have e : mN (wN h q n) - 1 = (mN h - 1) + 1 := by show (h.1 + 1) - 1 = _; unfold mN at hn ⊢; omega
  unfold gW
  rw [e, List.range_succ, List.map_append]
  congr 1
  · apply List.map_congr_left
    intro i hi
    have := List.mem_range.mp hi
    rw [gE_wN (by omega)]
  · simp only [List.map_cons, List.map_nil]
    rw [show mN h - 1 + 1 = mN h by omega]
theorem gH.grow {g : mG} {h : mM} {q n : Nat} {s : State} {H H1 : Heap} {locs : List Loc} (hH : gH g h s H) (hba : g.2.1 ≤ s.heap.size) (hS : va_S (gA g) s.heap H locs) (hz : H.size = g.2.1 + (mN h - 1)) (o1 : ∀ q : Nat, q < H.size → H1[q]? = H[q]?) (z1 : H1.size = H.size + 1) (hat : va_at (gD g) mCl (g.2.1 + (mN h - 1), gE g (wN h q n) (mN h)) H1) : gH g (wN h q n) s H1 ∧ va_S (gA g) s.heap H1 locs := by
  have hn := hH.1
  have hS1 : va_S (gA g) s.heap H1 locs := ⟨by have := hS.1; omega, fun x h1 h2 => (o1 x (Nat.lt_of_lt_of_le h1 hS.1)).trans (hS.2.1 x h1 h2), hS.2.2⟩
  refine ⟨hH.put hba hS hS1 (by show 1 ≤ h.1 + 1; omega) ?_ ?_ ?_, hS1⟩
  · rw [gW_wN hn]
    refine (hH.2.1.kept fun k x hx => o1 x.1 ((hH.2.1 k x hx).lt)).app (fun k x hx => ?_)
    have hz : k < 1 := (List.getElem?_eq_some_iff.mp hx).1
    rw [show k = 0 by omega] at hx
    cases hx
    exact hat
  · show (if 0 = h.1 then (q, n) else h.2.2.1 0).2 = _
    unfold mN at hn
    rw [if_neg (by omega)]; rfl
  · funext k
    show (if 0 = h.1 then (0 : Int32) else _) = _
    unfold mN at hn
    rw [if_neg (by omega)]; rfl
theorem nL_cl {a b c : Nat} (hq : (a, b, c) ∈ nL) : Cond.classLink (RN a) b (RN c) ∈ lw_good := nL_ok _ hq _ List.mem_cons_self
theorem nL_in {a b c : Nat} (hq : (a, b, c) ∈ nL) : Cond.instantiable (RN c) (nfN c) ∈ lw_good := nL_ok _ hq _ (List.mem_cons_of_mem _ List.mem_cons_self)
theorem nL_ini {a b c : Nat} (hq : (a, b, c) ∈ nL) : Cond.initialized (RN c) ∈ lw_good := nL_ok _ hq _ (List.mem_cons_of_mem _ (List.mem_cons_of_mem _ List.mem_cons_self))
section GOA
variable {g : mG} {mi pc len : Nat} {L : mLs} {st : List Value} {h : mM}
theorem wN_c {h : mM} {q n c : Nat} : c + 1 = c + (mN (wN h q n) - mN h) := by
  show c + 1 = c + (h.1 + 1 - h.1)
  omega
theorem wN_s {h : mM} {q n c : Nat} : c + n = c + (mZ (wN h q n) - mZ h) := by
  show c + n = c + (h.2.1 + n - h.2.1)
  omega
theorem go_newarray {t : ArrayType} : gGo g mi pc L st h (.newarray t) len := by
  intro pc' L' st' h1 hd hs p l e R s m args below meth c H locs cells slots Q ls hC hH hS hl hcs hfr hlo hce hsl K
  obtain ⟨hx, hb, hml, hown, hts, hE, hba, hlk, hnm⟩ := hC
  simp only [mIns, mNx] at hs
  split at hs
  · rename_i hlen
    subst hlen
    split at hs
    · rename_i n r
      split at hs
      · rename_i hk
        obtain ⟨ht, hn0, hn1⟩ := hk
        cases hs
        have hc1 : cells + 1 ≤ R.cells := by rw [wN_c (h := h) (q := if t = .int then 11 else 12) (n := n.toNatClampNeg)]; exact hce
        have hs1 : slots + n.toNatClampNeg ≤ R.slots := by rw [wN_s (h := h) (q := if t = .int then 11 else 12)]; exact hsl
        refine W.size fun hz0 => ?_
        have hz := gSize hH hS hba hcs hz0
        have hgA : gAd g (mN h) = H.size := by rw [gAd_pos hH.1, hz]
        rcases ht with rfl | rfl
        · refine va_newaK hx hb (hts _ (arr_ok _ (by simp [newarray.typeOf]))) (atype := .int) rfl hd rfl hn0 rfl ?_ hc1 hs1 rfl fun H1 cA e1 z1 o1 hAr hNm => ?_
          · show n.toNatClampNeg * 4 ≤ _
            omega
          have hcA : cA = g.2.2.2.2 11 := Option.some.inj (hNm.symm.trans (hE.1.2 0 _ rfl).2)
          obtain ⟨h2, h3⟩ := hH.grow (q := 11) (n := n.toNatClampNeg) hba hS hz o1 z1 (by
            rw [gE_arr (mK_wN_new hH.1 (by omega)) (by omega)]
            show H1[g.2.1 + (mN h - 1)]? = some (vp_cell _ _)
            rw [← hz, e1, hcA]
            unfold gArr
            rw [if_pos rfl, vp_cell_i]
            have e2 : mL (wN h 11 n.toNatClampNeg) (mN h) = n.toNatClampNeg := by
              show (if h.1 = h.1 then (11, n.toNatClampNeg) else _).2 = _
              rw [if_pos rfl]
            have e3 : (fun j => Value.int (mI (wN h 11 n.toNatClampNeg) (mN h) j)) = fun _ => defaultValue (newarray.typeOf .int) := by
              funext j
              show Value.int (if h.1 = h.1 then (0 : Int32) else _) = _
              rw [if_pos rfl]; rfl
            rw [e2, e3])
          have := K H1 locs ls (cells + 1) (slots + n.toNatClampNeg) wN_c wN_s h2 h3 hl
          rw [show List.map (gV g) (Value.ref (mN h) :: r) = .ref H.size :: r.map (gV g) by rw [← hgA]; rfl] at this
          exact this
        · refine va_newaK hx hb (hts _ (arr_ok _ (by simp [newarray.typeOf]))) (atype := .long) rfl hd rfl hn0 rfl ?_ hc1 hs1 rfl fun H1 cA e1 z1 o1 hAr hNm => ?_
          · show n.toNatClampNeg * 8 ≤ _
            omega
          have hcA : cA = g.2.2.2.2 12 := Option.some.inj (hNm.symm.trans (hE.1.2 1 _ rfl).2)
          obtain ⟨h2, h3⟩ := hH.grow (q := 12) (n := n.toNatClampNeg) hba hS hz o1 z1 (by
            rw [gE_arr (mK_wN_new hH.1 (by omega)) (by omega)]
            show H1[g.2.1 + (mN h - 1)]? = some (vp_cell _ _)
            rw [← hz, e1, hcA]
            unfold gArr
            rw [if_neg (by omega), if_pos rfl, vp_cell_l]
            have e2 : mL (wN h 12 n.toNatClampNeg) (mN h) = n.toNatClampNeg := by
              show (if h.1 = h.1 then (12, n.toNatClampNeg) else _).2 = _
              rw [if_pos rfl]
            have e3 : (fun j => Value.long (mJ (wN h 12 n.toNatClampNeg) (mN h) j)) = fun _ => defaultValue (newarray.typeOf .long) := by
              funext j
              show Value.long (if h.1 = h.1 then (0 : Int64) else _) = _
              rw [if_pos rfl]; rfl
            rw [e2, e3])
          have := K H1 locs ls (cells + 1) (slots + n.toNatClampNeg) wN_c wN_s h2 h3 hl
          rw [show List.map (gV g) (Value.ref (mN h) :: r) = .ref H.size :: r.map (gV g) by rw [← hgA]; rfl] at this
          exact this
      · cases hs
    · cases hs
  · cases hs
theorem go_anewarray {i : Nat} : gGo g mi pc L st h (.anewarray i) len := by
  intro pc' L' st' h1 hd hs p l e R s m args below meth c H locs cells slots Q ls hC hH hS hl hcs hfr hlo hce hsl K
  obtain ⟨hx, hb, hml, hown, hts, hE, hba, hlk, hnm⟩ := hC
  simp only [mIns, mNx] at hs
  split at hs
  · rename_i hlen
    subst hlen
    split at hs
    · rename_i n r
      split at hs
      · rename_i ci hf
        split at hs
        · rename_i hk
          obtain ⟨hao, hn0, hn1⟩ := hk
          cases hs
          have hin := nGet_in hf
          have hc1 : cells + 1 ≤ R.cells := by rw [wN_c (h := h) (q := mAr ci) (n := n.toNatClampNeg)]; exact hce
          have hs1 : slots + n.toNatClampNeg ≤ R.slots := by rw [wN_s (h := h) (q := mAr ci)]; exact hsl
          have hq : 12 < mAr ci ∧ mAr ci < 18 ∧ gTy (mAr ci) = .object (RN ci) := by
            have := hao
            simp only [aoL, List.mem_cons, List.not_mem_nil, or_false] at this
            rcases this with q | q | q | q | q <;> subst q <;> exact ⟨by decide, by decide, rfl⟩
          refine W.size fun hz0 => ?_
          have hz := gSize hH hS hba hcs hz0
          have hgA : gAd g (mN h) = H.size := by rw [gAd_pos hH.1, hz]
          refine W.anew hx hb hown (hts _ (nL_cl hin)) (va_AO.use (hE.2.2.1 ci hao)) rfl hd rfl hn0 (by omega) hc1 hs1 fun cA kA comp f1 f2 f3 f4 => ?_
          generalize hH1 : H.push ({ cls := cA, slots := Array.replicate n.toNatClampNeg .null, vm := .none } : Cell) = H1
          have z1 : H1.size = H.size + 1 := by rw [← hH1, Array.size_push]
          have e1 : H1[H.size]? = some (arrV cA n.toNatClampNeg (fun _ => .null)) := by rw [← hH1, Array.getElem?_push_size, ← arrV_new]
          have o1 : ∀ q : Nat, q < H.size → H1[q]? = H[q]? := fun q hq => by rw [← hH1, Array.getElem?_push, if_neg (Nat.ne_of_lt hq)]
          have hcA : cA = g.2.2.2.2 (mAr ci) := by
            obtain ⟨ht, -⟩ := gT_at (g := g) hq.1 (show mAr ci < 19 by omega)
            rw [hq.2.2] at ht
            obtain ⟨k2, comp2, -, -, -, f5⟩ := (hE.1.2 _ _ ht).2
            exact Option.some.inj (f1.symm.trans f5)
          obtain ⟨h2, h3⟩ := hH.grow (q := mAr ci) (n := n.toNatClampNeg) hba hS hz o1 z1 (by
            rw [gE_arr (mK_wN_new hH.1 (by omega)) (by omega)]
            show H1[g.2.1 + (mN h - 1)]? = some (vp_cell _ _)
            rw [← hz, e1, hcA]
            unfold gArr
            rw [if_neg (by omega), if_neg (by omega), vp_cell_q]
            have e2 : mL (wN h (mAr ci) n.toNatClampNeg) (mN h) = n.toNatClampNeg := by
              show (if h.1 = h.1 then (mAr ci, n.toNatClampNeg) else _).2 = _
              rw [if_pos rfl]
            have e3 : (fun j => va_rf ((mR (wN h (mAr ci) n.toNatClampNeg) (mN h) j).map (gAd g))) = fun _ => Value.null := by
              funext j
              show va_rf ((if h.1 = h.1 then (none : Option Nat) else _).map (gAd g)) = _
              rw [if_pos rfl]; rfl
            rw [e2, e3])
          have := K H1 locs ls (cells + 1) (slots + n.toNatClampNeg) wN_c wN_s h2 h3 hl
          rw [show List.map (gV g) (Value.ref (mN h) :: r) = .ref H.size :: r.map (gV g) by rw [← hgA]; rfl] at this
          exact this
        · cases hs
      · cases hs
    · cases hs
  · cases hs
theorem go_new {i : Nat} : gGo g mi pc L st h (.new i) len := by
  intro pc' L' st' h1 hd hs p l e R s m args below meth c H locs cells slots Q ls hC hH hS hl hcs hfr hlo hce hsl K
  obtain ⟨hx, hb, hml, hown, hts, hE, hba, hlk, hnm⟩ := hC
  simp only [mIns, mNx] at hs
  split at hs
  · rename_i hlen
    subst hlen
    split at hs
    · rename_i ci hf
      cases hs
      have hin := nGet_in hf
      have h11 : ci < 11 := nL_ok1 _ hin
      have hc1 : cells + 1 ≤ R.cells := by rw [wN_c (h := h) (q := ci) (n := nfN ci)]; exact hce
      have hs1 : slots + nfN ci ≤ R.slots := by rw [wN_s (h := h) (q := ci)]; exact hsl
      refine W.size fun hz0 => ?_
      have hz := gSize hH hS hba hcs hz0
      have hgA : gAd g (mN h) = H.size := by rw [gAd_pos hH.1, hz]
      have hKn := hE.1.1 ci _ (mCl_at h11)
      refine W.newcK hx hb hown (hts _ (nL_cl hin)) (hts _ (nL_in hin)) (hts _ (nL_ini hin)) rfl hd hc1 hs1 hKn.2.1 rfl fun H1 kC hkC e1 z1 o1 => ?_
      obtain ⟨h2, h3⟩ := hH.grow (q := ci) (n := nfN ci) hba hS hz o1 z1 (by
        rw [gE_obj (mK_wN_new hH.1 (by omega)) h11]
        refine ⟨_, mCl_at h11, ?_⟩
        show t_OB (g.2.1 + (mN h - 1)) _ _ _ _ _
        rw [← hz]
        refine (u_born (tyN ci) hts (inN ci h11) hKn hkC e1 (tyN_ok ci h11)).to (fun j hj => ?_)
        rw [dfl_ok ci h11 j hj]
        unfold vp_V
        rw [List.getD_eq_getElem?_getD, gFs_at hj]
        unfold gF
        have e3 : mR (wN h ci (nfN ci)) (mN h) j = none := by
          show (if h.1 = h.1 then (none : Option Nat) else _) = _
          rw [if_pos rfl]
        have e4 : mI (wN h ci (nfN ci)) (mN h) j = 0 := by
          show (if h.1 = h.1 then (0 : Int32) else _) = _
          rw [if_pos rfl]
        rw [e3, e4]
        rfl)
      have := K H1 locs ls (cells + 1) (slots + nfN ci) wN_c wN_s h2 h3 hl
      rw [show List.map (gV g) (Value.ref (mN h) :: st) = .ref H.size :: st.map (gV g) by rw [← hgA]; rfl] at this
      exact this
    · cases hs
  · cases hs
end GOA
end
section
-- grids, and the library's calls
theorem outer_eq (c : ClassId) (N h0 : Nat) : ∀ i : Nat, Jvm.Free.Multi.outerC c N h0 i = arrV c N (fun j => va_rf (if j < i then some (h0 + 1 + j) else none))
  | 0 => by
    show ({ cls := c, slots := Array.replicate N .null, vm := .none } : Cell) = _
    rw [arrV_new]
    refine congrArg (arrV c N) (funext fun j => ?_)
    simp [va_rf]
  | i + 1 => by
    show (Jvm.Free.Multi.outerC c N h0 i).setSlot i (.ref (h0 + 1 + i)) = _
    rw [outer_eq c N h0 i, arrV_store]
    refine congrArg (arrV c N) (funext fun j => ?_)
    by_cases e : j = i
    · subst e
      simp [updV, va_rf]
    · by_cases h : j < i
      · simp [updV, e, h, Nat.lt_succ_of_lt h]
      · simp [updV, e, h, show ¬ j < i + 1 by omega]
theorem mK_wGrid {h : mM} {n k a : Nat} (hn : 1 ≤ mN h) : mK (wGrid h n k) a = if a = mN h then 18 else if mN h < a ∧ a < mN h + 1 + n then 11 else mK h a := by
  unfold mK wGrid
  unfold mN at hn ⊢
  simp only
  by_cases h0 : a = 0
  · subst h0
    rw [if_pos rfl, if_neg (by omega), if_neg (by omega), if_pos rfl]
  · rw [if_neg h0, if_neg h0]
    by_cases h1 : a = h.1
    · subst h1
      simp
      omega
    · by_cases h2 : h.1 < a ∧ a < h.1 + 1 + n
      · simp [h1, h2]
      · simp only [h1, h2, if_false]
        by_cases h3 : a < h.1
        · have : a < h.1 + 1 + n := by omega
          simp [h3, this]
        · have : ¬ a < h.1 + 1 + n := by omega
          simp [h3, this]
theorem nfw : nativeFrameWords "java/lang/System" "arraycopy" 5 = 7 := by decide +kernel
section GOL
variable {g : mG} {mi pc len : Nat} {L : mLs} {st : List Value} {h : mM}
theorem gCat {g : mG} (r : List Value) : ((r.map (gV g)).map fun v => v.category).sum = mCat r := by
  unfold mCat
  rw [List.map_map]
  congr 1
  apply List.map_congr_left
  intro v _
  exact gV_cat g v
theorem go_multianewarray {i dm : Nat} : gGo g mi pc L st h (.multianewarray i dm) len := by
  intro pc' L' st' h1 hd hs p l e R s m args below meth c H locs cells slots Q ls hC hH hS hl hcs hfr hlo hce hsl K
  obtain ⟨hx, hb, hml, hown, hts, hE, hba, hlk, hnm⟩ := hC
  simp only [mIns, mNx] at hs
  split at hs
  · rename_i hlen
    obtain ⟨rfl, rfl, hmi, rfl⟩ := hlen
    split at hs
    · rename_i k n r
      split at hs
      · rename_i hk
        obtain ⟨hn0, hn1, hk0, hk1⟩ := hk
        cases hs
        have eN : mN (wGrid h n.toNatClampNeg k.toNatClampNeg) = mN h + 1 + n.toNatClampNeg := rfl
        have eZ : mZ (wGrid h n.toNatClampNeg k.toNatClampNeg) = mZ h + n.toNatClampNeg + n.toNatClampNeg * k.toNatClampNeg := rfl
        rw [eN] at hce
        rw [eZ] at hsl
        refine W.size fun hz0 => ?_
        have hz := gSize hH hS hba hcs hz0
        have hgA : gAd g (mN h) = H.size := by rw [gAd_pos hH.1, hz]
        rw [hmi] at hown
        intro T hT X
        obtain ⟨vm₁, cA, comp, -, fA, fC, hO, -, X', step⟩ := X.multianewarray2F hx (own := RN 5) (index := 9) (ty := .int) hown (hts _ (cl2_in _ List.mem_cons_self)) hE.2.2.2 (hts _ (arr_ok _ List.mem_cons_self)) (g := F0 m pc ls (.int k :: .int n :: r.map (gV g))) rfl (by rw [hb]; exact hd) rfl hn0 hk0 (by omega) (by show k.toNatClampNeg * 4 ≤ _; omega) (by omega) rfl rfl (by omega) (by omega)
        have hTh : (T.setVm vm₁).heap = H := hT
        generalize hF : Jvm.Free.Multi.fill (T.setVm vm₁) cA comp n.toNatClampNeg k.toNatClampNeg (defaultValue .int) n.toNatClampNeg = F at X' step
        obtain ⟨f1, f2, -, -⟩ := Jvm.Free.Multi.fill_facts (T.setVm vm₁) cA comp n.toNatClampNeg k.toNatClampNeg (defaultValue .int) n.toNatClampNeg
        rw [hF, hTh] at f1 f2
        have hold : ∀ x : Nat, x < H.size → F.heap[x]? = H[x]? := fun x hx => by
          have := Jvm.Free.Multi.fill_old (T.setVm vm₁) cA comp n.toNatClampNeg k.toNatClampNeg (defaultValue .int) (a := x) (by rw [hTh]; exact hx) n.toNatClampNeg
          rw [hF, hTh] at this
          exact this
        have hrow : ∀ j : Nat, j < n.toNatClampNeg → F.heap[H.size + 1 + j]? = some (arrV comp k.toNatClampNeg (fun _ => .int 0)) := fun j hj => by
          have := Jvm.Free.Multi.fill_inner (T.setVm vm₁) cA comp n.toNatClampNeg k.toNatClampNeg (defaultValue .int) n.toNatClampNeg j hj
          rw [hF, hTh] at this
          rw [this, ← arrV_new]
          rfl
        rw [outer_eq] at f2
        have hcA : cA = g.2.2.2.2 18 := Option.some.inj (fA.symm.trans (hE.1.2 7 _ rfl).2)
        have hco : comp = g.2.2.2.2 11 := Option.some.inj (fC.symm.trans (hE.1.2 0 _ rfl).2)
        have hn := hH.1
        have hS1 : va_S (gA g) s.heap F.heap locs := ⟨by have := hS.1; omega, fun x h1 h2 => (hold x (Nat.lt_of_lt_of_le h1 hS.1)).trans (hS.2.1 x h1 h2), hS.2.2⟩
        have hP1 : va_P (gD g) mCl (gW g (wGrid h n.toNatClampNeg k.toNatClampNeg)) F.heap := by
          intro i q hq
          obtain ⟨hi, rfl⟩ := gW_get hq
          rw [eN] at hi
          rcases Nat.lt_trichotomy (i + 1) (mN h) with h2 | h2 | h2
          · have h3 : gE g (wGrid h n.toNatClampNeg k.toNatClampNeg) (i + 1) = gE g h (i + 1) := by
              unfold mN at h2
              refine gE_congr (by rw [mK_wGrid hn, if_neg (by unfold mN; omega), if_neg (by unfold mN; omega)]) ?_ ?_ ?_ ?_
              · show (if i + 1 = h.1 then _ else if h.1 < i + 1 ∧ _ then _ else h.2.2.1 (i + 1)).2 = _
                rw [if_neg (by omega), if_neg (by omega)]; rfl
              · funext j
                show (if h.1 ≤ i + 1 then _ else _) = _
                rw [if_neg (by omega)]; rfl
              · funext j
                show (if h.1 ≤ i + 1 then _ else _) = _
                rw [if_neg (by omega)]; rfl
              · funext j
                show (if i + 1 = h.1 then _ else if h.1 < i + 1 then _ else _) = _
                rw [if_neg (by omega), if_neg (by omega)]; rfl
            rw [h3]
            have h4 := gW_at (g := g) (h := h) (a := i + 1) (by omega) h2
            rw [gAd_pos (by omega)] at h4
            have h5 := hH.2.1 _ _ h4
            exact h5.kept (hold _ h5.lt)
          · have e1 : mK (wGrid h n.toNatClampNeg k.toNatClampNeg) (i + 1) = 18 := by rw [mK_wGrid hn, if_pos h2]
            rw [gE_arr e1 (by omega)]
            show F.heap[g.2.1 + i]? = some (vp_cell _ _)
            rw [show g.2.1 + i = H.size by rw [hz]; omega, f2, hcA]
            unfold gArr
            rw [if_neg (by omega), if_neg (by omega), vp_cell_q, h2]
            have e2 : mL (wGrid h n.toNatClampNeg k.toNatClampNeg) (mN h) = n.toNatClampNeg := by
              show (if h.1 = h.1 then (18, n.toNatClampNeg) else _).2 = _
              rw [if_pos rfl]
            rw [e2]
            refine congrArg some (congrArg (arrV _ _) (funext fun j => ?_))
            show _ = va_rf ((if h.1 = h.1 then (if j < n.toNatClampNeg then some (h.1 + 1 + j) else none) else _).map (gAd g))
            rw [if_pos rfl]
            by_cases hj : j < n.toNatClampNeg
            · rw [if_pos hj, if_pos hj, Option.map_some, gAd_pos (by omega), hz]
              congr 2
              unfold mN at hn ⊢
              omega
            · rw [if_neg hj, if_neg hj]
              rfl
          · have e1 : mK (wGrid h n.toNatClampNeg k.toNatClampNeg) (i + 1) = 11 := by rw [mK_wGrid hn, if_neg (by omega), if_pos (by omega)]
            rw [gE_arr e1 (by omega)]
            show F.heap[g.2.1 + i]? = some (vp_cell _ _)
            rw [show g.2.1 + i = H.size + 1 + (i - mN h) by rw [hz]; omega, hrow _ (by omega), hco]
            unfold gArr
            rw [if_pos rfl, vp_cell_i]
            have e2 : mL (wGrid h n.toNatClampNeg k.toNatClampNeg) (i + 1) = k.toNatClampNeg := by
              unfold mN at h2 hi
              show (if i + 1 = h.1 then _ else if h.1 < i + 1 ∧ i + 1 < h.1 + 1 + n.toNatClampNeg then (11, k.toNatClampNeg) else _).2 = _
              rw [if_neg (by omega), if_pos (by omega)]
            rw [e2]
            refine congrArg some (congrArg (arrV _ _) (funext fun j => ?_))
            unfold mN at h2
            show _ = Value.int (if h.1 ≤ i + 1 then 0 else _)
            rw [if_pos (by omega)]
        have hH1 : gH g (wGrid h n.toNatClampNeg k.toNatClampNeg) s F.heap := hH.put hba hS hS1 (by rw [eN]; omega) hP1 (by
          unfold mN at hn
          show (if 0 = h.1 then _ else if h.1 < 0 ∧ _ then _ else h.2.2.1 0).2 = _
          rw [if_neg (by omega), if_neg (by omega)]; rfl) (by
          funext j
          unfold mN at hn
          show (if h.1 ≤ 0 then _ else _) = _
          rw [if_neg (by omega)]; rfl)
        obtain ⟨t, a1, b1⟩ := K F.heap locs ls (cells + 1 + n.toNatClampNeg) (slots + n.toNatClampNeg + n.toNatClampNeg * k.toNatClampNeg) (by rw [eN]; omega) (by rw [eZ]; omega) hH1 hS1 hl F rfl X'
        refine ⟨t, step t ?_, b1⟩
        rw [show T.heap.size = gAd g (mN h) by rw [hT, hgA]]
        exact a1
      · cases hs
    · cases hs
  · cases hs
theorem go_invokevirtual {i : Nat} : gGo g mi pc L st h (.invokevirtual i) len := by
  intro pc' L' st' h1 hd hs p l e R s m args below meth c H locs cells slots Q ls hC hH hS hl hcs hfr hlo hce hsl K
  simp only [mIns, mCallV] at hs
  repeat' split at hs
  all_goals cases hs
theorem go_invokespecial {i : Nat} : gGo g mi pc L st h (.invokespecial i) len := by
  intro pc' L' st' h1 hd hs p l e R s m args below meth c H locs cells slots Q ls hC hH hS hl hcs hfr hlo hce hsl K
  obtain ⟨hx, hb, hml, hown, hts, hE, hba, hlk, hnm⟩ := hC
  simp only [mIns] at hs
  split at hs
  · rename_i hlen
    subst hlen
    unfold mCallI mNx at hs
    split at hs
    · rename_i kd mj hf
      split at hs
      · rename_i hkd
        subst hkd
        split at hs
        · rename_i a r
          split at hs
          · rename_i hr
            cases hs
            have hin := kGet_in hf
            have hm := mLk_ok _ hin
            refine W.objInit hx hb hown (hts _ (hm _ (by simp [mKinds]))) (hts _ (hm _ (by simp [mKinds]))) (hts _ mObj_in) rfl (hl.1.trans hml.symm) rfl hd hfr ?_ (K H locs ls cells slots (eqz rfl) (eqz rfl) hH hS hl)
            show 2 * 0 + _ + 12 ≤ _
            rw [gCat]
            omega
          · cases hs
        · cases hs
      · split at hs
        · split at hs
          · cases hs
          · cases hs
        · cases hs
    · cases hs
  · cases hs
theorem go_invokestatic {i : Nat} : gGo g mi pc L st h (.invokestatic i) len := by
  intro pc' L' st' h1 hd hs p l e R s m args below meth c H locs cells slots Q ls hC hH hS hl hcs hfr hlo hce hsl K
  obtain ⟨hx, hb, hml, hown, hts, hE, hba, hlk, hnm⟩ := hC
  simp only [mIns] at hs
  split at hs
  · rename_i hlen
    subst hlen
    unfold mCallS mNx at hs
    have hml2 : c.maxLocals = ls.size := hml.trans hl.1.symm
    have hc0 : cells ≤ R.cells := by omega
    have hs0 : slots ≤ R.slots := by omega
    split at hs
    · rename_i kd mj hf
      have hin := kGet_in hf
      have hm := mLk_ok _ hin
      split at hs
      · rename_i hkd
        subst hkd
        split at hs
        · rename_i y x r
          split at hs
          · rename_i hr
            cases hs
            exact va_mmax hx hb hml2 hown (hts _ (hm _ (by simp [mKinds]))) (hts _ (hm _ (by simp [mKinds]))) (hts _ (hm _ (by simp [mKinds]))) (hts _ mMath_max) hfr (by rw [gCat]; omega) hc0 hs0 hd (K H locs ls cells slots (eqz rfl) (eqz rfl) hH hS hl)
          · cases hs
        · cases hs
      · split at hs
        · rename_i hkd
          subst hkd
          split at hs
          · rename_i y x r
            split at hs
            · rename_i hr
              cases hs
              exact va_mmin hx hb hml2 hown (hts _ (hm _ (by simp [mKinds]))) (hts _ (hm _ (by simp [mKinds]))) (hts _ (hm _ (by simp [mKinds]))) (hts _ mMath_min) hfr (by rw [gCat]; omega) hc0 hs0 hd (K H locs ls cells slots (eqz rfl) (eqz rfl) hH hS hl)
            · cases hs
          · cases hs
        · split at hs
          · rename_i hkd
            subst hkd
            split at hs
            · rename_i x r
              split at hs
              · rename_i hr
                cases hs
                exact va_mabs hx hb hml2 hown (hts _ (hm _ (by simp [mKinds]))) (hts _ (hm _ (by simp [mKinds]))) (hts _ (hm _ (by simp [mKinds]))) (hts _ mMath_abs) hfr (by rw [gCat]; omega) hc0 hs0 hd (K H locs ls cells slots (eqz rfl) (eqz rfl) hH hS hl)
              · cases hs
            · cases hs
          · split at hs
            · rename_i hkd
              subst hkd
              split at hs
              · rename_i n dp b sp a r
                split at hs
                · rename_i hr
                  obtain ⟨hr, hka, hkb, q1, q2, q3, q4, q5⟩ := hr
                  cases hs
                  have hb0 := mK_in (h := h) (a := b) (by omega)
                  refine va_copyi hx hb hml2 hown (hts _ (hm _ (by simp [mKinds]))) (hts _ (hm _ (by simp [mKinds]))) (hts _ (hm _ (by simp [mKinds]))) (hts _ (hm _ (by simp [mKinds]))) hE.1 hH.2.1 gW_D hS (a - 1) (b - 1) 0 0 (gAt_i hka) (gAt_i hkb) rfl rfl rfl q1 q2 q3 q4 q5 (fun _ _ => rfl) hfr (by rw [gCat]; rw [nfw]; omega) hd (fun H1 locs1 hP1 hD1 hS1 => ?_)
                  rw [gW_copy hkb] at hP1
                  exact K H1 locs1 ls cells slots (eqz rfl) (eqz rfl) (hH.put hba hS hS1 hH.1 hP1 rfl (mI_wC_ne (by omega))) hS1 hl
                · cases hs
              · cases hs
            · split at hs
              · cases hs
              · cases hs
    · cases hs
  · cases hs
end GOL
end
section
-- calls, the whole run, contracts
theorem go_ret {g : mG} {mi pc len : Nat} {L : mLs} {st : List Value} {h : mM} {ins : Instr} (hno : ∀ x, mIns mi pc L st h ins len ≠ some (.inl x)) : gGo g mi pc L st h ins len := by
  intro pc' L' st' h1 hd hs
  exact absurd hs (hno _)
set_option maxHeartbeats 4000000 in
theorem go_all {g : mG} {mi pc len : Nat} {L : mLs} {st : List Value} {h : mM} (ins : Instr) : gGo g mi pc L st h ins len := by
  cases ins with
  | iconst => exact go_iconst
  | bipush => exact go_bipush
  | sipush => exact go_sipush
  | lconst => exact go_lconst
  | ldc => exact go_ldc
  | ldc_w => exact go_ldc_w
  | ldc2_w => exact go_ldc2_w
  | iload_n => exact go_iload_n
  | iload => exact go_iload
  | lload_n => exact go_lload_n
  | lload => exact go_lload
  | aload_n => exact go_aload_n
  | aload => exact go_aload
  | istore_n => exact go_istore_n
  | istore => exact go_istore
  | astore_n => exact go_astore_n
  | astore => exact go_astore
  | lstore_n => exact go_lstore_n
  | lstore => exact go_lstore
  | iinc => exact go_iinc
  | iadd => exact go_iadd
  | isub => exact go_isub
  | imul => exact go_imul
  | iand => exact go_iand
  | ior => exact go_ior
  | ixor => exact go_ixor
  | ishl => exact go_ishl
  | ishr => exact go_ishr
  | iushr => exact go_iushr
  | idiv => exact go_idiv
  | irem => exact go_irem
  | ladd => exact go_ladd
  | lsub => exact go_lsub
  | lcmp => exact go_lcmp
  | ineg => exact go_ineg
  | i2l => exact go_i2l
  | l2i => exact go_l2i
  | dup => exact go_dup
  | dup2 => exact go_dup2
  | ifCond => exact go_ifCond
  | if_icmp => exact go_if_icmp
  | goto => exact go_goto
  | tableswitch => exact go_tableswitch
  | getfield => exact go_getfield
  | putfield => exact go_putfield
  | iaload => exact go_iaload
  | laload => exact go_laload
  | aaload => exact go_aaload
  | iastore => exact go_iastore
  | lastore => exact go_lastore
  | aastore => exact go_aastore
  | arraylength => exact go_arraylength
  | newarray => exact go_newarray
  | anewarray => exact go_anewarray
  | multianewarray => exact go_multianewarray
  | new => exact go_new
  | invokevirtual => exact go_invokevirtual
  | invokespecial => exact go_invokespecial
  | invokestatic => exact go_invokestatic
  | ireturn =>
    refine go_ret fun x hs => ?_
    simp only [mIns] at hs
    repeat' split at hs
    all_goals cases hs
  | lreturn =>
    refine go_ret fun x hs => ?_
    simp only [mIns] at hs
    repeat' split at hs
    all_goals cases hs
  | return_ =>
    refine go_ret fun x hs => ?_
    simp only [mIns] at hs
    repeat' split at hs
    all_goals cases hs
  | _ => exact go_ret fun x hs => by cases hs
theorem mono_nx {pc pc' : Nat} {L L' : mLs} {st st' : List Value} {h h1 h0 : mM} (hs : mNx pc L st h = some (.inl (pc', L', st', h1))) (q : mN h0 ≤ mN h ∧ mZ h0 ≤ mZ h) : mN h0 ≤ mN h1 ∧ mZ h0 ≤ mZ h1 := by
  cases hs
  exact q
theorem mono_tg {pc pc' : Nat} {off : Int} {L L' : mLs} {st st' : List Value} {h h1 h0 : mM} (hs : mTg pc off L st h = some (.inl (pc', L', st', h1))) (q : mN h0 ≤ mN h ∧ mZ h0 ≤ mZ h) : mN h0 ≤ mN h1 ∧ mZ h0 ≤ mZ h1 := by
  unfold mTg at hs
  split at hs
  · exact mono_nx hs q
  · cases hs
theorem le_self2 {h : mM} : mN h ≤ mN h ∧ mZ h ≤ mZ h := ⟨Nat.le_refl _, Nat.le_refl _⟩
theorem le_wN {h : mM} {q n : Nat} : mN h ≤ mN (wN h q n) ∧ mZ h ≤ mZ (wN h q n) := ⟨Nat.le_succ _, Nat.le_add_right _ _⟩
theorem le_wGrid {h : mM} {n m : Nat} : mN h ≤ mN (wGrid h n m) ∧ mZ h ≤ mZ (wGrid h n m) := ⟨by show h.1 ≤ h.1 + 1 + n; omega, by show h.2.1 ≤ h.2.1 + n + n * m; omega⟩
set_option maxHeartbeats 4000000 in
theorem mIns_mono {mi pc pc' len : Nat} {L L' : mLs} {st st' : List Value} {h h1 : mM} {ins : Instr} (hs : mIns mi pc L st h ins len = some (.inl (pc', L', st', h1))) : mN h ≤ mN h1 ∧ mZ h ≤ mZ h1 := by
  cases ins <;> (first | (cases hs; done) | (simp only [mIns, mGetF, mPutF, mCallV, mCallI, mCallS] at hs; (repeat' split at hs) <;> first | (cases hs; done) | exact mono_nx hs le_self2 | exact mono_tg hs le_self2 | exact mono_nx hs le_wN | exact mono_nx hs le_wGrid))
theorem mEx_grow : ∀ (n d mi pc : Nat) (L : mLs) (st : List Value) (h : mM) (r : Option Value) (h' : mM), mEx n d mi pc L st h = some (r, h') → mN h ≤ mN h' ∧ mZ h ≤ mZ h' := by
  intro n
  induction n with
  | zero => intro d mi pc L st h r h' hr; exact absurd hr (by simp [mEx])
  | succ n ih =>
    intro d mi pc L st h r h' hr
    rw [mEx_s] at hr
    cases hs : mStep mi pc L st h with
    | none => rw [hs] at hr; cases hr
    | some x =>
      rw [hs] at hr
      rcases x with x | x | x
      · have h1 := ih _ _ _ _ _ _ _ _ hr
        unfold mStep at hs
        split at hs
        · have h2 := mIns_mono (h1 := x.2.2.2) hs
          exact ⟨Nat.le_trans h2.1 h1.1, Nat.le_trans h2.2 h1.2⟩
        · cases hs
      · cases hr
        exact le_self2
      · cases d with
        | zero => cases hr
        | succ d =>
          simp only at hr
          cases hc : mEx n d x.1 0 (mEnt x.1 x.2.1) [] h with
          | none => rw [hc] at hr; cases hr
          | some y =>
            rw [hc] at hr
            have h1 := ih _ _ _ _ _ _ _ _ hc
            have h2 := ih _ _ _ _ _ _ _ _ hr
            exact ⟨Nat.le_trans h1.1 h2.1, Nat.le_trans h1.2 h2.2⟩
def gRet (mi pc : Nat) (r : Option Value) : Prop := match r with
  | none => mrt mi = none ∧ decode (cd mi) pc = .ok (.return_, 1)
  | some (.int v) => (mrt mi = some .int ∨ (mrt mi = some .boolean ∧ mZO v = true)) ∧ decode (cd mi) pc = .ok (.ireturn, 1)
  | some (.long v) => mrt mi = some .long ∧ decode (cd mi) pc = .ok (.lreturn, 1)
  | _ => False
/-- the run from here on is one of the machine's -/
def gSnd (g : mG) (n : Nat) : Prop := ∀ (d mi pc : Nat) (L : mLs) (st : List Value) (h h' : mM) (r : Option Value), mEx n d mi pc L st h = some (r, h') →
  ∀ (p : Program) (l : Launch) (e : Env) (R : Room) (s : State) (m : MethodId) (args : Array Value) (below : List Frame) (meth : Method) (c : Code) (H : Heap) (locs : List Loc) (cells slots : Nat) (Q : State → Prop) (ls : Array Slot), gC g mi p s m meth c args → gH g h s H → va_S (gA g) s.heap H locs → gLs g (mx mi) ls L → s.heap.size + cells + 1 = g.2.1 + mN h → d + 1 ≤ R.frames → (d + 1) * 64 ≤ R.locals → cells + (mN h' - mN h) ≤ R.cells → slots + (mZ h' - mZ h) ≤ R.slots →
  (∀ (pc' : Nat) (ls' : Array Slot) (H' : Heap) (locs' : List Loc) (c1 s1 : Nat), c1 = cells + (mN h' - mN h) → s1 = slots + (mZ h' - mZ h) → gRet mi pc' r → gH g h' s H' → va_S (gA g) s.heap H' locs' → W p l e R s m args below meth c H' locs' c1 s1 Q (F0 m pc' ls' ((r.map (gV g)).toList))) →
  W p l e R s m args below meth c H locs cells slots Q (F0 m pc ls (st.map (gV g)))
def gRm (d mc ms : Nat) : Room := { frames := d + 1, cells := mc, slots := ms, locals := (d + 1) * 64 }
def gWs (k : Nat) : List Cond := Cond.code (yn k) (cd k) (mx k) (mrt k) :: lw_good
def gPc (g : mG) (as : List Value) (h : mM) : Array Value → State → Prop := va_Pc (as.map (gV g)) (fun U => gH g h U U.heap ∧ gEnv g U ∧ U.heap.size + 1 = g.2.1 + mN h)
def gQc (g : mG) (r : Option Value) (h' : mM) : Array Value → State → Outcome → State → Prop := fun _ st oc t => oc = .returned (r.map (gV g)) ∧ gH g h' t t.heap ∧ st.heap.size ≤ t.heap.size ∧ ∀ q : Nat, q < g.2.1 → t.heap[q]? = st.heap[q]?
theorem gWs_in {k : Nat} (hk : k < 122) : ∀ w ∈ gWs k, w ∈ lw_good := by
  intro w hw
  rcases List.mem_cons.mp hw with h | h
  · subst h
    exact mCode_in k hk
  · exact h
theorem gGood {ws : List Cond} (h : ∀ w ∈ ws, w ∈ lw_good) : GoodIn lw_good ws := fun w hw => ⟨h w hw, good_of_word (lw_good_g (h w hw))⟩
theorem lg_len (vs : List Value) : (lg_sl vs).length = (vs.map fun v => v.category).sum := by
  induction vs with
  | nil => rfl
  | cons v vs ih =>
    have e : lg_sl (v :: vs) = (if v.category = 2 then [.val v, .second] else [.val v]) ++ lg_sl vs := rfl
    rw [e, List.length_append, ih]
    have := lv_cat v
    simp only [List.map_cons, List.sum_cons]
    split
    · rename_i h
      rw [h]
      rfl
    · rename_i h
      have : v.category = 1 := by omega
      rw [this]
      rfl
theorem mSl_args {g : mG} : ∀ (as : List Value) (i j : Nat) (v : Value), (mSl as).getD j none = some v → (i + j, gV g v) ∈ lv_args i (as.map (gV g))
  | [], i, j, v, h => by cases j <;> cases h
  | a :: as, i, j, v, h => by
    have e : mSl (a :: as) = (if a.category = 2 then [some a, none] else [some a]) ++ mSl as := rfl
    rw [e] at h
    show _ ∈ (i, gV g a) :: lv_args (if (gV g a).category = 2 then i + 2 else i + 1) (as.map (gV g))
    rw [gV_cat]
    by_cases hc : a.category = 2
    · rw [if_pos hc] at h ⊢
      match j, h with
      | 0, h => cases h; exact List.mem_cons_self
      | 1, h => cases h
      | j + 2, h =>
        refine List.mem_cons_of_mem _ ?_
        have := mSl_args (g := g) as (i + 2) j v h
        rw [show i + (j + 2) = i + 2 + j by omega]
        exact this
    · rw [if_neg hc] at h ⊢
      match j, h with
      | 0, h => cases h; exact List.mem_cons_self
      | j + 1, h =>
        refine List.mem_cons_of_mem _ ?_
        have := mSl_args (g := g) as (i + 1) j v h
        rw [show i + (j + 1) = i + 1 + j by omega]
        exact this
theorem getD_app {l : mLs} {n j : Nat} {v : Value} (h : (l ++ List.replicate n none).getD j none = some v) : l.getD j none = some v := by
  rw [List.getD_eq_getElem?_getD] at h ⊢
  by_cases hj : j < l.length
  · rw [List.getElem?_append_left hj] at h
    exact h
  · rw [List.getElem?_append_right (by omega), List.getElem?_replicate] at h
    split at h <;> cases h
theorem gLs_ent {g : mG} {k : Nat} {as : List Value} (hf : (as.map fun v => v.category).sum ≤ mx k) : gLs g (mx k) ((lg_sl (as.map (gV g)) ++ List.replicate (mx k - (lg_sl (as.map (gV g))).length) Slot.unset).toArray) (mEnt k as) := by
  have h1 : (lg_sl (as.map (gV g))).length ≤ mx k := by
    rw [lg_len]
    have := gCat (g := g) as
    unfold mCat at this
    rw [this]
    exact hf
  refine gLs_sub (lv_entry (as.map (gV g)) h1) fun q hq => ?_
  obtain ⟨v, h2, h3⟩ := gLv_mem.mp hq
  have h4 := mSl_args (g := g) as 0 q.1 v (getD_app h2)
  rw [Nat.zero_add, ← h3] at h4
  exact h4
/-- a contract out of a run -/
theorem gMet {g : mG} {n d k : Nat} {as : List Value} {h h' : mM} {r : Option Value} {l : Launch} (hk : k < 122) (hP : gSnd g n) (hf : (as.map fun v => v.category).sum ≤ mx k) (hr : mEx n d k 0 (mEnt k as) [] h = some (r, h')) :
    Met l (yn k) (gWs k) (gRm d (mN h' - mN h) (mZ h' - mZ h)) (gPc g as h) (gQc g r h') (mN h' - mN h) (mZ h' - mZ h) (gA g) := by
  have hy := yn_ok k hk
  refine Met.ofW (cc := cd k) (maxL := mx k) (ret := mrt k) hy.1 rfl ?_
  intro p e s m args below meth c s₁ B hml hv
  obtain ⟨rfl, hH, hE, hsz⟩ := hv
  have hts := atoms_spec (ws := gWs k) B.pre
  have hown : s.vm.findClass (RN (ow k)) = some m.cls := by rw [← hy.2.2.2.2.2]; exact findClass_of_methodNamed B.named
  have hnm : meth.name = (yn k).name := (name_of_methodNamed B.named B.method).1
  rw [lg_entry_eq]
  have hba : g.2.1 ≤ s.heap.size := by have := hH.1; omega
  refine hP d k 0 (mEnt k as) [] h h' r hr p l e _ s m _ below meth c s.heap [] 0 0 _ _ ⟨B.exec, B.bytes, hml, hown, fun w hw => hts w (List.mem_cons_of_mem _ hw), hE, hba, B.notSynchronized, fun z => hnm.trans z⟩ hH va_S.rf (gLs_ent hf) (by omega) (Nat.le_refl _) (Nat.le_refl _) (by show 0 + _ ≤ mN h' - mN h; omega) (by show 0 + _ ≤ mZ h' - mZ h; omega) ?_
  intro pc' ls' H' locs' c1 s1 hc1 hs1 hret hH' hS'
  have hc1 : c1 = mN h' - mN h := by omega
  have hs1 : s1 = mZ h' - mZ h := by omega
  subst hc1
  subst hs1
  have hq : ∀ t : State, t.heap = H' → s.WarmedH t.vm → gQc g r h' (as.map (gV g)).toArray s (.returned (r.map (gV g))) t := fun t ht hW => ⟨rfl, by rw [ht]; exact hH'.move hW.alike, by rw [ht]; exact hS'.1, fun q hq => by rw [ht]; exact hS'.2.1 q (by omega) (fun z => by unfold gA at z; omega)⟩
  have hlk := B.notSynchronized
  match r, hret, hq with
  | none, hret, hq => exact W.vret B.exec B.bytes (B.returns.trans hret.1) hq hS'.2.2 hret.2
  | some (.int v), hret, hq =>
    rcases hret.1 with h2 | ⟨h2, hz⟩
    · exact W.iret B.exec B.bytes (B.returns.trans h2) hq hS'.2.2 hret.2
    · refine W.zret B.exec B.bytes (B.returns.trans h2) ?_ hq hS'.2.2 hret.2
      unfold mZO at hz
      simp only [Bool.or_eq_true, beq_iff_eq] at hz
      rcases hz with rfl | rfl <;> decide
  | some (.long v), hret, hq => exact W.lret B.exec B.bytes (B.returns.trans hret.1) hq hS'.2.2 hret.2
theorem gPc_blind {g : mG} {as : List Value} {h : mM} : FrameBlind (gPc g as h) := fun a U f mk q => ⟨q.1, q.2.1.move (u := U) (U := U.calling f mk a) (Vm.Alike.refl U.vm), q.2.2.1.same rfl, q.2.2.2⟩
theorem gPc_at {g : mG} {as : List Value} {h : mM} {s U : State} {H : Heap} (hH : gH g h s H) (hE : gEnv g s) (hz : H.size + 1 = g.2.1 + mN h) (hU : U.heap = H) (hW : s.WarmedH U.vm) : gPc g as h (as.map (gV g)).toArray U := ⟨rfl, by rw [hU]; exact hH.move hW.alike, hE.warm hW, by rw [hU]; exact hz⟩
theorem gCallW {p : Program} {l : Launch} {e : Env} {R : Room} {s : State} {m : MethodId} {args : Array Value} {below : List Frame} {meth : Method} {c : Code} {H : Heap} {locs : List Loc} {cells slots mc ms pc : Nat} {Q : State → Prop} {g : mG} {h1 : mM} {r : Option Value} {ls : Array Slot} {st0 rest : List Value} {a : Array Value}
    (hr : va_Run p l e R s m args below meth c H locs cells slots mc ms (F0 m pc ls st0) rest (gQc g r h1 a) (gA g)) (hS : va_S (gA g) s.heap H locs) (hba : g.2.1 ≤ s.heap.size)
    (kk : ∀ (H1 : Heap) (locs1 : List Loc), gH g h1 s H1 → va_S (gA g) s.heap H1 locs1 → W p l e R s m args below meth c H1 locs1 (cells + mc) (slots + ms) Q (F0 m (pc + 3) ls ((r.map (gV g)).toList ++ rest))) : W p l e R s m args below meth c H locs cells slots Q (F0 m pc ls st0) := by
  intro T hT X
  obtain ⟨v, st₀, t, T', L, h0, X', hL, e1, e2, ⟨hv, hH, hz, hk⟩, st⟩ := hr T hT X
  have hv : v = r.map (gV g) := by injection hv
  subst hv
  rw [h0] at hz hk
  have hS1 : va_S (gA g) s.heap T'.heap (locs ++ L) := ⟨by rw [e1]; exact Nat.le_trans hS.1 hz, fun q h1 h2 => by
      rw [e1, hk q (by unfold gA at h2; omega)]
      exact hS.2.1 q h1 h2, fun q hq => by
      rcases List.mem_append.mp hq with h | h
      · exact hS.2.2 q h
      · exact hL q h⟩
  have hA : s.vm.Alike t.vm := by rw [← e2]; exact X'.warmed.alike
  obtain ⟨t2, a1, b1⟩ := kk T'.heap (locs ++ L) (by rw [e1]; exact hH.move hA.symm) hS1 T' rfl X'
  exact ⟨t2, st t2 a1, b1⟩
theorem map_rev {g : mG} {st : List Value} {n a : Nat} {r : List Value} (hd : st.drop n = .ref a :: r) : st.map (gV g) = (((st.take n).reverse).map (gV g)).reverse ++ .ref (gAd g a) :: r.map (gV g) := by
  have h := List.take_append_drop n st
  rw [hd] at h
  conv => lhs; rw [← h]
  rw [List.map_append, List.map_reverse, List.reverse_reverse]
  rfl
theorem map_revS {g : mG} {st : List Value} {n : Nat} : st.map (gV g) = (((st.take n).reverse).map (gV g)).reverse ++ (st.drop n).map (gV g) := by
  have h := List.take_append_drop n st
  conv => lhs; rw [← h]
  rw [List.map_append, List.map_reverse, List.reverse_reverse]
end
section
-- the run of the small machine is a run of the machine
theorem mStep_ok {mi pc : Nat} {L : mLs} {st : List Value} {h : mM} {x : mX} (hs : mStep mi pc L st h = some x) : ∃ ins len, decode (cd mi) pc = .ok (ins, len) ∧ mIns mi pc L st h ins len = some x := by
  unfold mStep at hs
  split at hs
  · rename_i ins len hd
    exact ⟨ins, len, hd, hs⟩
  · cases hs
theorem ret_ok {mi pc len : Nat} {L : mLs} {st : List Value} {h : mM} {ins : Instr} {r : Option Value} (hd : decode (cd mi) pc = .ok (ins, len)) (hs : mIns mi pc L st h ins len = some (.inr (.inl r))) : gRet mi pc r ∧ st = r.toList := by
  cases ins with
  | ireturn =>
    simp only [mIns] at hs
    split at hs
    · rename_i hlen
      subst hlen
      split at hs
      · split at hs
        · rename_i hq
          cases hs
          exact ⟨⟨hq, hd⟩, rfl⟩
        · cases hs
      · cases hs
    · cases hs
  | lreturn =>
    simp only [mIns] at hs
    split at hs
    · rename_i hlen
      subst hlen
      split at hs
      · split at hs
        · rename_i hq
          cases hs
          exact ⟨⟨hq, hd⟩, rfl⟩
        · cases hs
      · cases hs
    · cases hs
  | return_ =>
    simp only [mIns] at hs
    split at hs
    · rename_i hlen
      subst hlen
      split at hs
      · split at hs
        · rename_i hq
          cases hs
          exact ⟨⟨hq, hd⟩, rfl⟩
        · cases hs
      · cases hs
    · cases hs
  | _ =>
    exfalso
    first
    | (cases hs; done)
    | (simp only [mIns, mNx, mTg, mGetF, mPutF, mCallV, mCallI, mCallS] at hs
       (repeat' split at hs) <;> (cases hs; done))
section SOUND
variable {g : mG} {mi pc d n : Nat} {L : mLs} {st as rest : List Value} {h h1 : mM} {r1 : Option Value} {mj : Nat}
theorem gCallGo {p : Program} {l : Launch} {e : Env} {R : Room} {s : State} {m : MethodId} {args : Array Value} {below : List Frame} {meth : Method} {c : Code} {H : Heap} {locs : List Loc} {cells slots : Nat} {Q : State → Prop} {ls : Array Slot} {ins : Instr} {len : Nat}
    (hd : decode (cd mi) pc = .ok (ins, len)) (hs : mIns mi pc L st h ins len = some (.inr (.inr (mj, as, rest)))) (hP : gSnd g n) (hr : mEx n d mj 0 (mEnt mj as) [] h = some (r1, h1))
    (hC : gC g mi p s m meth c args) (hH : gH g h s H) (hS : va_S (gA g) s.heap H locs) (hl : gLs g (mx mi) ls L) (hcs : s.heap.size + cells + 1 = g.2.1 + mN h) (hfr : d + 2 ≤ R.frames) (hlo : (d + 2) * 64 ≤ R.locals) (hce : cells + (mN h1 - mN h) ≤ R.cells) (hsl : slots + (mZ h1 - mZ h) ≤ R.slots)
    (K : ∀ (H1 : Heap) (locs1 : List Loc), gH g h1 s H1 → va_S (gA g) s.heap H1 locs1 → W p l e R s m args below meth c H1 locs1 (cells + (mN h1 - mN h)) (slots + (mZ h1 - mZ h)) Q (F0 m (pc + 3) ls ((r1.toList ++ rest).map (gV g)))) :
    W p l e R s m args below meth c H locs cells slots Q (F0 m pc ls (st.map (gV g))) := by
  obtain ⟨hx, hb, hml, hown, hts, hE, hba, hlk, hnm⟩ := hC
  have hK2 : ∀ (H1 : Heap) (locs1 : List Loc), gH g h1 s H1 → va_S (gA g) s.heap H1 locs1 → W p l e R s m args below meth c H1 locs1 (cells + (mN h1 - mN h)) (slots + (mZ h1 - mZ h)) Q (F0 m (pc + 3) ls ((r1.map (gV g)).toList ++ rest.map (gV g))) := fun H1 locs1 a1 a2 => by
    have h3 := K H1 locs1 a1 a2
    rw [List.map_append] at h3
    have e1 : r1.toList.map (gV g) = (r1.map (gV g)).toList := by cases r1 <;> rfl
    rw [e1] at h3
    exact h3
  refine W.size fun hz0 => ?_
  have hz := gSize hH hS hba hcs hz0
  have hz1 : H.size + 1 = g.2.1 + mN h := by have := hH.1; omega
  have hR : ∀ k, k < 122 → (gRm d (mN h1 - mN h) (mZ h1 - mZ h)).frames + 1 ≤ R.frames ∧ 8 + (mx k + 11) + (gRm d (mN h1 - mN h) (mZ h1 - mZ h)).locals ≤ R.locals := fun k hk => by
    have := (yn_ok k hk).2.2.2.2.1
    refine ⟨?_, ?_⟩
    · show d + 1 + 1 ≤ _
      omega
    · show 8 + (mx k + 11) + (d + 1) * 64 ≤ _
      omega
  cases ins with
  | invokevirtual i =>
    simp only [mIns] at hs
    split at hs
    · rename_i hlen
      subst hlen
      unfold mCallV at hs
      split at hs
      · rename_i kd mk hf
        split at hs
        · rename_i a r hdr
          split at hs
          · rename_i hq
            obtain ⟨rfl, hka, hnl, hcr, hfit⟩ := hq
            cases hs
            have hin := kGet_in hf
            have hm := mLk_ok _ hin
            have hk := (mLk_name _ hin (Nat.zero_le _)).1
            have hy := yn_ok mj hk
            have hMt := gMet (l := l) hk hP hfit hr
            rw [map_rev hdr]
            refine gCallW (va_runV (As := ((st.take (na mj)).reverse).map (gV g)) (rest := rest.map (gV g)) (C := RN (ow mj)) ⟨hx, hb, hml, hown, hts⟩ hMt (cwV (na mj) hts (gGood fun w hw => ?_) rfl rfl rfl ⟨hy.2.2.2.2.2, hy.2.1, hy.2.2.1, hy.2.2.2.1⟩ (hR mj hk)) ⟨gPc_blind, va_recv hE.1 hH.2.1 (mCl_at (ci := ow mj) ?_) (gAt_obj hka ?_), fun U hU hW => gPc_at hH hE hz1 hU hW⟩ rfl ?_ hl.1 rfl (lv_room (by rw [gCat]; exact hcr)) hd ⟨hce, hsl⟩) hS hba hK2
            · rcases List.mem_append.mp hw with h2 | h2
              · refine hm w ?_
                simp only [List.mem_cons, List.not_mem_nil, or_false] at h2
                simp only [mKinds, if_pos, List.mem_cons, List.not_mem_nil, or_false]
                exact h2
              · exact gWs_in hk w h2
            · have := mLk_own _ hin rfl; exact this
            · have := mLk_own _ hin rfl; exact this
            · rw [List.length_map, List.length_reverse, List.length_take]
              omega
          · cases hs
        · cases hs
      · cases hs
    · cases hs
  | invokespecial i =>
    simp only [mIns] at hs
    split at hs
    · rename_i hlen
      subst hlen
      unfold mCallI mNx at hs
      split at hs
      · rename_i kd mk hf
        split at hs
        · split at hs
          · split at hs
            · cases hs
            · cases hs
          · cases hs
        · split at hs
          · rename_i a r hdr
            split at hs
            · rename_i hq
              obtain ⟨hkd, hnl, hcr, hfit⟩ := hq
              cases hs
              have hin := kGet_in hf
              have hm := mLk_ok _ hin
              have hk := (mLk_name _ hin (by simp only; omega)).1
              have hini := (mLk_name _ hin (by simp only; omega)).2 hkd
              have hy := yn_ok mj hk
              have hMt := gMet (l := l) hk hP hfit hr
              rw [map_rev hdr]
              have hlen : (((st.take (na mj)).reverse).map (gV g)).length = na mj := by
                rw [List.length_map, List.length_reverse, List.length_take]
                omega
              rcases hkd with rfl | rfl
              · refine gCallW (va_runI (bytes := cd mj) (maxL := mx mj) (As := ((st.take (na mj)).reverse).map (gV g)) (rest := rest.map (gV g)) ⟨hx, hb, hml, hown, hts⟩ hMt ?_ ⟨gPc_blind, fun U hU hW => gPc_at hH hE hz1 hU hW⟩ rfl hlen hl.1 rfl (lv_room (by rw [gCat]; exact hcr)) hd ⟨hce, hsl⟩) hS hba hK2
                refine cwI (bytes := cd mj) (maxL := mx mj) (na mj) hts (gGood (gWs_in hk)) (by unfold gWs; rw [hini.2]) rfl rfl (hts _ (hm _ (by rw [hy.2.2.2.2.2]; simp [mKinds]))) (hts _ (hm _ (by simp [mKinds]))) (hts _ (hm _ (by simp [mKinds]))) hini.1 ⟨hy.2.1, hy.2.2.1, hy.2.2.2.1⟩ (hR mj hk)
              · refine gCallW (va_runIN (As := ((st.take (na mj)).reverse).map (gV g)) (rest := rest.map (gV g)) (host := "TideMill") ⟨hx, hb, hml, hown, hts⟩ hMt ⟨va_cnB (bytes := cd mj) (maxL := mx mj) (na mj) hts (gGood (gWs_in hk)) (by unfold gWs; rw [hini.2]) rfl rfl (hE.2.1 _ (mLk_nest _ hin (Or.inr rfl))) (hts _ (hm _ (by rw [hy.2.2.2.2.2]; simp [mKinds]))) ⟨hy.2.1, hy.2.2.1, hy.2.2.2.1⟩ (hR mj hk), hini.1, hts _ (hm _ (by simp [mKinds]))⟩ ⟨gPc_blind, fun U hU hW => gPc_at hH hE hz1 hU hW⟩ rfl hlen hl.1 rfl (lv_room (by rw [gCat]; exact hcr)) hd ⟨hce, hsl⟩) hS hba hK2
            · cases hs
          · cases hs
      · cases hs
    · cases hs
  | invokestatic i =>
    simp only [mIns] at hs
    split at hs
    · rename_i hlen
      subst hlen
      unfold mCallS mNx at hs
      split at hs
      · rename_i kd mk hf
        split at hs
        · (repeat' split at hs) <;> cases hs
        · split at hs
          · (repeat' split at hs) <;> cases hs
          · split at hs
            · (repeat' split at hs) <;> cases hs
            · split at hs
              · (repeat' split at hs) <;> cases hs
              · split at hs
                · rename_i hq
                  obtain ⟨hkd, hnl, hcr, hfit⟩ := hq
                  cases hs
                  have hin := kGet_in hf
                  have hm := mLk_ok _ hin
                  have hk := (mLk_name _ hin (by simp only; omega)).1
                  have hy := yn_ok mj hk
                  have hMt := gMet (l := l) hk hP hfit hr
                  rw [map_revS (g := g) (st := st) (n := na mj)]
                  have hlen : (((st.take (na mj)).reverse).map (gV g)).length = na mj := by
                    rw [List.length_map, List.length_reverse, List.length_take]
                    omega
                  rcases hkd with rfl | rfl
                  · refine gCallW (va_runS (As := ((st.take (na mj)).reverse).map (gV g)) (rest := (st.drop (na mj)).map (gV g)) ⟨hx, hb, hml, hown, hts⟩ hMt (va_cwS (na mj) hts (gGood fun w hw => ?_) rfl rfl rfl ⟨hy.2.1, hy.2.2.1, hy.2.2.2.1⟩ (hR mj hk)) ⟨gPc_blind, fun U hU hW => gPc_at hH hE hz1 hU hW⟩ rfl hlen hl.1 rfl (lv_room (by rw [gCat]; exact hcr)) hd ⟨hce, hsl⟩) hS hba hK2
                    rcases List.mem_append.mp hw with h2 | h2
                    · refine hm w ?_
                      simp only [List.mem_cons, List.not_mem_nil, or_false, hy.2.2.2.2.2] at h2
                      simp [mKinds]
                      exact h2
                    · exact gWs_in hk w h2
                  · exact gCallW (va_runSN (As := ((st.take (na mj)).reverse).map (gV g)) (rest := (st.drop (na mj)).map (gV g)) (host := "TideMill") ⟨hx, hb, hml, hown, hts⟩ hMt ⟨va_cnB (na mj) hts (gGood (gWs_in hk)) rfl rfl rfl (hE.2.1 _ (mLk_nest _ hin (Or.inl rfl))) (hts _ (hm _ (by rw [hy.2.2.2.2.2]; simp [mKinds]))) ⟨hy.2.1, hy.2.2.1, hy.2.2.2.1⟩ (hR mj hk), hts _ (hm _ (by simp [mKinds])), trivial⟩ ⟨gPc_blind, fun U hU hW => gPc_at hH hE hz1 hU hW⟩ rfl hlen hl.1 rfl (lv_room (by rw [gCat]; exact hcr)) hd ⟨hce, hsl⟩) hS hba hK2
                · cases hs
      · cases hs
    · cases hs
  | _ =>
    exfalso
    first
    | (cases hs; done)
    | (simp only [mIns, mNx, mTg, mGetF, mPutF] at hs
       (repeat' split at hs) <;> (cases hs; done))
end SOUND
theorem gSnd_all (g : mG) : ∀ n, gSnd g n := by
  intro n
  induction n with
  | zero =>
    intro d mi pc L st h h' r hr
    exact absurd hr (by simp [mEx])
  | succ n ih =>
    intro d mi pc L st h h' r hr p l e R s m args below meth c H locs cells slots Q ls hC hH hS hl hcs hfr hlo hce hsl K
    rw [mEx_s] at hr
    cases hs : mStep mi pc L st h with
    | none => rw [hs] at hr; cases hr
    | some x =>
      rw [hs] at hr
      obtain ⟨ins, len, hd, hi⟩ := mStep_ok hs
      rcases x with x | x | x
      · obtain ⟨pc', L', st', h1⟩ := x
        have g1 := mIns_mono hi
        have g2 := mEx_grow _ _ _ _ _ _ _ _ _ hr
        simp only at g2
        refine go_all ins pc' L' st' h1 hd hi p l e R s m args below meth c H locs cells slots Q ls hC hH hS hl hcs (by omega) (by omega) (by omega) (by omega) ?_
        intro H1 locs1 ls1 c1 s1 e1 e2 hH1 hS1 hl1
        refine ih d mi pc' L' st' h1 h' r hr p l e R s m args below meth c H1 locs1 c1 s1 Q ls1 hC hH1 hS1 hl1 (by omega) hfr hlo (by omega) (by omega) ?_
        intro pc2 ls2 H2 locs2 c2 s2 e3 e4 hret hH2 hS2
        exact K pc2 ls2 H2 locs2 c2 s2 (by omega) (by omega) hret hH2 hS2
      · cases hr
        obtain ⟨hret, hst⟩ := ret_ok hd hi
        rw [hst]
        have := K pc ls H locs cells slots (eqz rfl) (eqz rfl) hret hH hS
        have e1 : r.toList.map (gV g) = (r.map (gV g)).toList := by cases r <;> rfl
        rw [e1]
        exact this
      · obtain ⟨mj, as, rest⟩ := x
        cases d with
        | zero => cases hr
        | succ d =>
          simp only at hr
          cases hc : mEx n d mj 0 (mEnt mj as) [] h with
          | none => rw [hc] at hr; cases hr
          | some y =>
            rw [hc] at hr
            obtain ⟨r1, h1⟩ := y
            have g1 := mEx_grow _ _ _ _ _ _ _ _ _ hc
            have g2 := mEx_grow _ _ _ _ _ _ _ _ _ hr
            simp only at g2
            refine gCallGo hd hi ih hc hC hH hS hl hcs (by omega) (by omega) (by omega) (by omega) ?_
            intro H1 locs1 hH1 hS1
            refine ih (d + 1) mi (pc + 3) L (r1.toList ++ rest) h1 h' r hr p l e R s m args below meth c H1 locs1 _ _ Q ls hC hH1 hS1 hl (by omega) hfr hlo (by omega) (by omega) ?_
            intro pc2 ls2 H2 locs2 c2 s2 e3 e4 hret hH2 hS2
            exact K pc2 ls2 H2 locs2 c2 s2 (by omega) (by omega) hret hH2 hS2
end
section
-- the law's start, out of an equation of the small machine
theorem inst_ok : ∀ k, k < 11 → ∃ q ∈ nL, q.2.2 = k := by decide +kernel
theorem known_all {s : State} {args : Array Value} (hts : ∀ w ∈ lw_good, w.before args s = true) : ∃ (dC : Nat → ClassId) (dI : Nat → Nat → Nat), ∀ (c : Nat) (q : vw_C), mCl[c]? = some q → u_Kn s q.1 q.2.1 q.2.2 (dC c) (dI c) := by
  have h1 : ∀ k, ∃ x : ClassId × (Nat → Nat), k < 11 → u_Kn s (RN k) (TN k) (nfN k) x.1 x.2 := by
    intro k
    by_cases hk : k < 11
    · obtain ⟨q, hq, e⟩ := inst_ok k hk
      subst e
      obtain ⟨cC, iS, h⟩ := u_known (C := RN q.2.2) (T := TN q.2.2) (N := nfN q.2.2) (n := nfN q.2.2) hts (inN _ hk) (hts _ (nL_in (a := q.1) (b := q.2.1) hq))
      exact ⟨(cC, iS), fun _ => h⟩
    · exact ⟨(0, fun _ => 0), fun h => absurd h hk⟩
  refine ⟨fun k => (Classical.choose (h1 k)).1, fun k => (Classical.choose (h1 k)).2, fun c q hq => ?_⟩
  have hc : c < 11 := by
    have := (List.getElem?_eq_some_iff.mp hq).1
    simpa [mCl] using this
  rw [mCl_at hc] at hq
  cases hq
  exact Classical.choose_spec (h1 c) hc
theorem arr_p {s : State} {args : Array Value} {ty : FieldType} (h : (Cond.arrayClass ty).before args s = true) (hp : ∀ C, ty ≠ .object C) : ∃ cA, ArrOfT s cA ty ∧ va_RA s cA ty := by
  obtain ⟨c, k, comp, h1, h2, h3⟩ := Cond.arrayClass_spec h
  refine ⟨c, fun N z => ⟨(fun k h => by cases h), k, h2, comp, h3⟩, ?_⟩
  cases ty with
  | object C => exact absurd rfl (hp C)
  | _ => exact h1
theorem arr_o {s : State} {args : Array Value} {C : String} (h : (Cond.arrayOver (.object C)).before args s = true) : ∃ cA, ArrOfT s cA (.object C) ∧ va_RA s cA (.object C) := by
  obtain ⟨comp, c, k, h1, -, h3, h4, h5⟩ := Cond.arrayOver_spec h
  exact ⟨c, fun N z => ⟨(fun k h => by cases h), k, h3, comp, h4⟩, k, comp, h3, h4, h1, h5⟩
theorem arr_a {s : State} {args : Array Value} (h : (Cond.arrayOver (.array .int)).before args s = true) : ∃ cA, ArrOfT s cA (.array .int) ∧ va_RA s cA (.array .int) := by
  obtain ⟨comp, c, k, h1, -, h3, h4, h5⟩ := arrayOver_specB h
  exact ⟨c, fun N z => ⟨(fun k h => by cases h), k, h3, comp, h4⟩, h5⟩
theorem kinds_all {s : State} {args : Array Value} (hts : ∀ w ∈ lw_tbl, w.before args s = true) (hg : ∀ w ∈ lw_good, w.before args s = true) (b base : Nat) (dC : Nat → ClassId) (dI : Nat → Nat → Nat) : ∃ kA : Nat → ClassId, ∀ (k : Nat) (q : ClassId × FieldType), (gT (b, base, dC, dI, kA))[k]? = some q → ArrOfT s q.1 q.2 ∧ va_RA s q.1 q.2 := by
  obtain ⟨a0, h0⟩ := arr_p (hg _ (arr_ok (.arrayClass .int) (by simp))) (fun C h => by cases h)
  obtain ⟨a1, h1⟩ := arr_p (hg _ (arr_ok (.arrayClass .long) (by simp))) (fun C h => by cases h)
  obtain ⟨a2, h2⟩ := arr_o (hts _ (aoL_in 3 (by decide)))
  obtain ⟨a3, h3⟩ := arr_o (hts _ (aoL_in 0 (by decide)))
  obtain ⟨a4, h4⟩ := arr_o (hts _ (aoL_in 2 (by decide)))
  obtain ⟨a5, h5⟩ := arr_o (hts _ (aoL_in 6 (by decide)))
  obtain ⟨a6, h6⟩ := arr_o (hts _ (aoL_in 4 (by decide)))
  obtain ⟨a7, h7⟩ := arr_a (hts _ (ao2_in _ List.mem_cons_self))
  refine ⟨fun q => if q = 11 then a0 else if q = 12 then a1 else if q = 13 then a2 else if q = 14 then a3 else if q = 15 then a4 else if q = 16 then a5 else if q = 17 then a6 else a7, fun k q hq => ?_⟩
  match k, hq with
  | 0, hq => cases hq; exact h0
  | 1, hq => cases hq; exact h1
  | 2, hq => cases hq; exact h2
  | 3, hq => cases hq; exact h3
  | 4, hq => cases hq; exact h4
  | 5, hq => cases hq; exact h5
  | 6, hq => cases hq; exact h6
  | 7, hq => cases hq; exact h7
  | k + 8, hq => cases hq
/-- the small machine's memory as the law begins: the script alone -/
def m0 (L : Nat) (xs : Nat → Int32) : mM := (1, 0, fun _ => (19, L), fun _ k => xs k, fun _ _ => 0, fun _ _ => none)
theorem start_of {p : Program} {e : Env} {s : State} {m : MethodId} {below : List Frame} {meth : Method} {c : Code} (l : Launch) {b L : Nat} {xs : Nat → Int32} (C0 : p.tables.exec = Jvm.exec ∧ c.code = code ∧ meth.sig.returnType = ret ∧ c.maxLocals = 4 ∧ s.vm.findClass RL = some m.cls ∧ (∀ w ∈ lw_tbl, w.before #[Value.ref b] s = true) ∧ va_X b L xs s s.heap ∧ b < s.heap.size ∧ meth.locks = false) {h' : mM} (hev : ev 40 122 0 [some (.ref 0), none, none, none] [] (m0 L xs) = some (some (.int 1), h')) {R : Room} (hR : 41 ≤ R.frames ∧ 2624 ≤ R.locals ∧ mN h' - 1 ≤ R.cells ∧ mZ h' ≤ R.slots) {Q : State → Prop}
    (K : ∀ (pc' : Nat) (ls' : Array Slot) (H' : Heap) (locs' : List Loc), decode code pc' = .ok (.ireturn, 1) → (∀ q ∈ locs', s.heap.size ≤ q.base) → W p l e R s m #[Value.ref b] below meth c H' locs' (mN h' - 1) (mZ h') Q (F0 m pc' ls' [.int 1])) : W p l e R s m #[Value.ref b] below meth c s.heap [] 0 0 Q (entryFrame m ([Value.ref b] : List Value).toArray 4) := by
  obtain ⟨hx, hb, hr, hml, hown, hts, hX, hbl, hlocks⟩ := C0
  have hg : ∀ w ∈ lw_good, w.before #[Value.ref b] s = true := fun w hw => hts w (lw_good_in hw)
  obtain ⟨dC, dI, hKc⟩ := known_all hg
  obtain ⟨kA, hKt⟩ := kinds_all hts hg b s.heap.size dC dI
  obtain ⟨n, hn⟩ := ev_iff.mp hev
  have hE : gEnv (b, s.heap.size, dC, dI, kA) s := by
    refine ⟨⟨hKc, hKt⟩, fun w hw => ?_, fun k hk => va_AO.of (hts _ (aoL_in k hk)), ?_⟩
    · obtain ⟨a, i, x, h, rfl⟩ := nestL_form w hw
      exact va_Nw.of rfl (hts _ (nestL_in _ hw))
    · exact arrayOver_alikeB (Vm.Alike.refl _) (hts _ (ao2_in _ List.mem_cons_self))
  have hH : gH (b, s.heap.size, dC, dI, kA) (m0 L xs) s s.heap := ⟨Nat.le_refl 1, (fun k q h => by cases h), hX, hbl⟩
  rw [lg_entry_eq]
  have hl := lv_entry ([.ref b]) (n := 4) (Nat.le_of_ble_eq_true rfl)
  generalize (lg_sl ([.ref b]) ++ List.replicate (4 - (lg_sl ([.ref b])).length) Slot.unset).toArray = ls at hl ⊢
  refine gSnd_all (b, s.heap.size, dC, dI, kA) n 40 122 0 _ [] (m0 L xs) h' _ hn p l e R s m _ below meth c s.heap [] 0 0 Q ls ⟨hx, hb, hml, hown, hg, hE, Nat.le_refl _, hlocks, fun z => absurd z (by decide)⟩ hH va_S.rf (gLs_sub hl fun q hq => ?_) rfl (by omega) (by omega) ?_ ?_ ?_
  · obtain ⟨v, h1, h2⟩ := gLv_mem.mp hq
    obtain ⟨j, w⟩ := q
    simp only at h1 h2
    match j, h1 with
    | 0, h1 => cases h1; subst h2; exact List.mem_cons_self
    | 1, h1 => cases h1
    | 2, h1 => cases h1
    | 3, h1 => cases h1
    | j + 4, h1 => cases h1
  · show 0 + (mN h' - 1) ≤ _
    omega
  · show 0 + (mZ h' - 0) ≤ _
    omega
  · intro pc' ls' H' locs' c1 s1 e1 e2 hret hH' hS'
    have e1 : c1 = mN h' - 1 := by rw [e1]; show 0 + (mN h' - 1) = _; omega
    have e2 : s1 = mZ h' := by rw [e2]; show 0 + (mZ h' - 0) = _; omega
    subst e1
    subst e2
    exact K pc' ls' H' locs' hret.2 hS'.2.2
end
section
-- equations of the run, an instruction each
theorem ev_of {d mi pc pc' len : Nat} {L L' : mLs} {st st' : List Value} {h h' : mM} {ins : Instr} (hd : decode (cd mi) pc = .ok (ins, len)) (hs : mIns mi pc L st h ins len = some (.inl (pc', L', st', h'))) : ev d mi pc L st h = ev d mi pc' L' st' h' := ev_next (by unfold mStep; rw [hd]; exact hs)
theorem ev_no {d mi pc len : Nat} {L : mLs} {st : List Value} {h : mM} {ins : Instr} (hd : decode (cd mi) pc = .ok (ins, len)) (hs : mIns mi pc L st h ins len = none) : ev d mi pc L st h = none := ev_none (by unfold mStep; rw [hd]; exact hs)
theorem ev_rt {d mi pc len : Nat} {L : mLs} {st : List Value} {h : mM} {ins : Instr} {v : Option Value} (hd : decode (cd mi) pc = .ok (ins, len)) (hs : mIns mi pc L st h ins len = some (.inr (.inl v))) : ev d mi pc L st h = some (v, h) := ev_ret (by unfold mStep; rw [hd]; exact hs)
theorem ev_cl {d mi pc mj len : Nat} {L : mLs} {st as rest : List Value} {h : mM} {ins : Instr} (hd : decode (cd mi) pc = .ok (ins, len)) (hs : mIns mi pc L st h ins len = some (.inr (.inr (mj, as, rest)))) : ev (d + 1) mi pc L st h = cV (ev d mj 0 (mEnt mj as) [] h) (fun v h' => ev (d + 1) mi (pc + 3) L (v ++ rest) h') := ev_call (by unfold mStep; rw [hd]; exact hs)
theorem cV_some {r : Option Value} {h : mM} {k : List Value → mM → Option (Option Value × mM)} : cV (some (r, h)) k = k r.toList h := rfl
theorem tl_some {v : Value} : (some v).toList = [v] := rfl
theorem tl_none : (none : Option Value).toList = [] := rfl
theorem mZO_0 : mZO 0 = true := rfl
theorem mZO_1 : mZO 1 = true := rfl
theorem mLong_n : mLong none = false := rfl
theorem mLong_i {x : Int32} : mLong (some (.int x)) = false := rfl
theorem mLong_r {x : Nat} : mLong (some (.ref x)) = false := rfl
theorem mCat_0 : mCat [] = 0 := rfl
theorem mCat_i {x : Int32} {s : List Value} : mCat (.int x :: s) = 1 + mCat s := by simp [mCat, Value.category]
theorem mCat_r {x : Nat} {s : List Value} : mCat (.ref x :: s) = 1 + mCat s := by simp [mCat, Value.category]
theorem mCat_l {x : Int64} {s : List Value} : mCat (.long x :: s) = 2 + mCat s := by simp [mCat, Value.category]
def oB (o : Option Nat) (k : Nat → Option (Option Value × mM)) : Option (Option Value × mM) := match o with
  | some b => k b
  | none => none
theorem oB_some {b : Nat} {k : Nat → Option (Option Value × mM)} : oB (some b) k = k b := rfl
def tsF {α : Type} (f : Nat → α) (x : Int32) : List Nat → Int → α → α
  | [], _, z => z
  | t :: ts, k, z => if x.toInt = k then f t else tsF f x ts (k + 1) z
theorem mS1_s {L : mLs} {j : Nat} {v : Value} (hl : mLong (L.getD j none) = false) : mS1 L (j + 1) v = L.set (j + 1) (some v) := by
  have e : mClr L (j + 1) = if mLong (L.getD j none) = true then L.set j none else L := rfl
  unfold mS1
  rw [e, hl]
  rfl
theorem mS2_s {L : mLs} {j : Nat} {v : Value} (hl : mLong (L.getD j none) = false) : mS2 L (j + 1) v = (L.set (j + 1 + 1) none).set (j + 1) (some v) := by
  have e : mClr L (j + 1) = if mLong (L.getD j none) = true then L.set j none else L := rfl
  unfold mS2
  rw [e, hl]
  rfl
section EVS
variable {d mi pc tgt : Nat} {L : mLs} {st : List Value} {h : mM}
theorem ev_if {c : ClassFile.Cond} {off : Int} {x : Int32} (P : Prop) (dP : Decidable P) (hP : mCmp c x 0 = decide P) (hd : decode (cd mi) pc = .ok (.ifCond c off, 3)) (ht : (pc : Int) + off = (tgt : Int)) : ev d mi pc L (.int x :: st) h = if P then ev d mi tgt L st h else ev d mi (pc + 3) L st h := by
  by_cases hc : P
  · rw [if_pos hc]
    refine ev_of hd ?_
    have : mCmp c x 0 = true := by rw [hP]; exact decide_eq_true hc
    simp only [mIns, this, if_true, mTg]
    rw [if_pos (by omega), ht]
    rfl
  · rw [if_neg hc]
    refine ev_of hd ?_
    have : mCmp c x 0 = false := by rw [hP]; exact decide_eq_false hc
    simp [mIns, this, mNx]
theorem ev_ic {c : ClassFile.Cond} {off : Int} {x y : Int32} (P : Prop) (dP : Decidable P) (hP : mCmp c x y = decide P) (hd : decode (cd mi) pc = .ok (.if_icmp c off, 3)) (ht : (pc : Int) + off = (tgt : Int)) : ev d mi pc L (.int y :: .int x :: st) h = if P then ev d mi tgt L st h else ev d mi (pc + 3) L st h := by
  by_cases hc : P
  · rw [if_pos hc]
    refine ev_of hd ?_
    have : mCmp c x y = true := by rw [hP]; exact decide_eq_true hc
    simp only [mIns, this, if_true, mTg]
    rw [if_pos (by omega), ht]
    rfl
  · rw [if_neg hc]
    refine ev_of hd ?_
    have : mCmp c x y = false := by rw [hP]; exact decide_eq_false hc
    simp [mIns, this, mNx]
theorem ev_go {off : Int} (hd : decode (cd mi) pc = .ok (.goto off, 3)) (ht : (pc : Int) + off = (tgt : Int)) : ev d mi pc L st h = ev d mi tgt L st h := by
  refine ev_of hd ?_
  simp only [mIns, mTg, if_true]
  rw [if_pos (by omega), ht]
  rfl
theorem ev_div {x y : Int32} (hd : decode (cd mi) pc = .ok (.idiv, 1)) : ev d mi pc L (.int y :: .int x :: st) h = if y = 0 then none else ev d mi (pc + 1) L (.int (x / y) :: st) h := by
  by_cases hc : y = 0
  · rw [if_pos hc]
    exact ev_no hd (by simp [mIns, hc])
  · rw [if_neg hc]
    exact ev_of hd (by simp [mIns, hc, mNx])
theorem ev_rem {x y : Int32} (hd : decode (cd mi) pc = .ok (.irem, 1)) : ev d mi pc L (.int y :: .int x :: st) h = if y = 0 then none else ev d mi (pc + 1) L (.int (x - x / y * y) :: st) h := by
  by_cases hc : y = 0
  · rw [if_pos hc]
    exact ev_no hd (by simp [mIns, hc])
  · rw [if_neg hc]
    exact ev_of hd (by simp [mIns, hc, mNx])
theorem ev_gI {i a ci k : Nat} (hd : decode (cd mi) pc = .ok (.getfield i, 3)) (hf : fGet (ow mi) i = some (ci, k)) (ht : mIsR (tyN ci k) = false) : ev d mi pc L (.ref a :: st) h = if mK h a = ci then ev d mi (pc + 3) L (.int (mI h a k) :: st) h else none := by
  by_cases hc : mK h a = ci
  · rw [if_pos hc]
    exact ev_of hd (by simp [mIns, mGetF, hf, hc, ht, mNx])
  · rw [if_neg hc]
    exact ev_no hd (by simp [mIns, mGetF, hf, hc])
theorem ev_gR {i a ci k : Nat} (hd : decode (cd mi) pc = .ok (.getfield i, 3)) (hf : fGet (ow mi) i = some (ci, k)) (ht : mIsR (tyN ci k) = true) : ev d mi pc L (.ref a :: st) h = if mK h a = ci then oB (mR h a k) (fun b => ev d mi (pc + 3) L (.ref b :: st) h) else none := by
  by_cases hc : mK h a = ci
  · rw [if_pos hc]
    cases hb : mR h a k with
    | none => exact ev_no hd (by simp [mIns, mGetF, hf, hc, ht, hb])
    | some b => exact ev_of hd (by simp [mIns, mGetF, hf, hc, ht, hb, mNx])
  · rw [if_neg hc]
    exact ev_no hd (by simp [mIns, mGetF, hf, hc])
theorem ev_pI {i a ci k : Nat} {v : Int32} (hd : decode (cd mi) pc = .ok (.putfield i, 3)) (hf : fGet (ow mi) i = some (ci, k)) (ht : tyN ci k = .int) (hn : (TN ci k).2.2.2 = false) : ev d mi pc L (.int v :: .ref a :: st) h = if mK h a = ci then ev d mi (pc + 3) L st (wI h a k v) else none := by
  by_cases hc : mK h a = ci
  · rw [if_pos hc]
    exact ev_of hd (by simp [mIns, mPutF, hf, hc, ht, hn, mNx])
  · rw [if_neg hc]
    exact ev_no hd (by simp [mIns, mPutF, hf, hc])
theorem ev_pZ {i a ci k : Nat} {v : Int32} (hd : decode (cd mi) pc = .ok (.putfield i, 3)) (hf : fGet (ow mi) i = some (ci, k)) (ht : tyN ci k = .boolean) (hn : (TN ci k).2.2.2 = false) : ev d mi pc L (.int v :: .ref a :: st) h = if mK h a = ci ∧ mZO v = true then ev d mi (pc + 3) L st (wI h a k v) else none := by
  by_cases hc : mK h a = ci ∧ mZO v = true
  · rw [if_pos hc]
    exact ev_of hd (by simp [mIns, mPutF, hf, hc, ht, hn, mNx])
  · rw [if_neg hc]
    refine ev_no hd ?_
    simp only [mIns, mPutF, hf, ht, hn, if_true]
    rw [if_neg]
    intro q
    exact hc ⟨q.1, by have := q.2.1; simpa using this⟩
theorem ev_pR {i a ci k b : Nat} (hd : decode (cd mi) pc = .ok (.putfield i, 3)) (hf : fGet (ow mi) i = some (ci, k)) (ht : mIsR (tyN ci k) = true) (hn : (TN ci k).2.2.2 = false ∨ ((TN ci k).2.2.2 = true ∧ (yn mi).name = "<init>" ∧ (TN ci k).1 = RN (ow mi))) : ev d mi pc L (.ref b :: .ref a :: st) h = if mK h a = ci then ev d mi (pc + 3) L st (wR h a k (some b)) else none := by
  by_cases hc : mK h a = ci
  · rw [if_pos hc]
    refine ev_of hd ?_
    simp only [mIns, mPutF, hf, mNx, if_true]
    rw [if_pos ⟨hc, ht, hn⟩]
  · rw [if_neg hc]
    exact ev_no hd (by simp [mIns, mPutF, hf, hc])
theorem ev_ia {a : Nat} {i : Int32} (hd : decode (cd mi) pc = .ok (.iaload, 1)) : ev d mi pc L (.int i :: .ref a :: st) h = if (mK h a = 11 ∨ mK h a = 19) ∧ ixOK i (mL h a) = true then ev d mi (pc + 1) L (.int (mI h a i.toNatClampNeg) :: st) h else none := by
  by_cases hc : (mK h a = 11 ∨ mK h a = 19) ∧ ixOK i (mL h a) = true
  · rw [if_pos hc]
    exact ev_of hd (by simp only [mIns, mNx, if_true]; rw [if_pos hc])
  · rw [if_neg hc]
    exact ev_no hd (by simp only [mIns, if_true]; rw [if_neg hc])
theorem ev_la {a : Nat} {i : Int32} (hd : decode (cd mi) pc = .ok (.laload, 1)) : ev d mi pc L (.int i :: .ref a :: st) h = if mK h a = 12 ∧ ixOK i (mL h a) = true then ev d mi (pc + 1) L (.long (mJ h a i.toNatClampNeg) :: st) h else none := by
  by_cases hc : mK h a = 12 ∧ ixOK i (mL h a) = true
  · rw [if_pos hc]
    exact ev_of hd (by simp only [mIns, mNx, if_true]; rw [if_pos hc])
  · rw [if_neg hc]
    exact ev_no hd (by simp only [mIns, if_true]; rw [if_neg hc])
theorem ev_aa {a : Nat} {i : Int32} (hd : decode (cd mi) pc = .ok (.aaload, 1)) : ev d mi pc L (.int i :: .ref a :: st) h = if (12 < mK h a ∧ mK h a < 19) ∧ ixOK i (mL h a) = true then oB (mR h a i.toNatClampNeg) (fun b => ev d mi (pc + 1) L (.ref b :: st) h) else none := by
  by_cases hc : (12 < mK h a ∧ mK h a < 19) ∧ ixOK i (mL h a) = true
  · rw [if_pos hc]
    cases hb : mR h a i.toNatClampNeg with
    | none => exact ev_no hd (by simp only [mIns, if_true]; rw [if_pos hc, hb])
    | some b => exact ev_of hd (by simp only [mIns, mNx, if_true]; rw [if_pos hc, hb])
  · rw [if_neg hc]
    exact ev_no hd (by simp only [mIns, if_true]; rw [if_neg hc])
theorem ev_is {a : Nat} {i v : Int32} (hd : decode (cd mi) pc = .ok (.iastore, 1)) : ev d mi pc L (.int v :: .int i :: .ref a :: st) h = if mK h a = 11 ∧ ixOK i (mL h a) = true then ev d mi (pc + 1) L st (wI h a i.toNatClampNeg v) else none := by
  by_cases hc : mK h a = 11 ∧ ixOK i (mL h a) = true
  · rw [if_pos hc]
    exact ev_of hd (by simp only [mIns, mNx, if_true]; rw [if_pos hc])
  · rw [if_neg hc]
    exact ev_no hd (by simp only [mIns, if_true]; rw [if_neg hc])
theorem ev_ls {a : Nat} {i : Int32} {v : Int64} (hd : decode (cd mi) pc = .ok (.lastore, 1)) : ev d mi pc L (.long v :: .int i :: .ref a :: st) h = if mK h a = 12 ∧ ixOK i (mL h a) = true then ev d mi (pc + 1) L st (wJ h a i.toNatClampNeg v) else none := by
  by_cases hc : mK h a = 12 ∧ ixOK i (mL h a) = true
  · rw [if_pos hc]
    exact ev_of hd (by simp only [mIns, mNx, if_true]; rw [if_pos hc])
  · rw [if_neg hc]
    exact ev_no hd (by simp only [mIns, if_true]; rw [if_neg hc])
theorem ev_as {a b : Nat} {i : Int32} (hd : decode (cd mi) pc = .ok (.aastore, 1)) : ev d mi pc L (.ref b :: .int i :: .ref a :: st) h = if (12 < mK h a ∧ mK h a < 18) ∧ mK h b = mEl (mK h a) ∧ ixOK i (mL h a) = true then ev d mi (pc + 1) L st (wR h a i.toNatClampNeg (some b)) else none := by
  by_cases hc : (12 < mK h a ∧ mK h a < 18) ∧ mK h b = mEl (mK h a) ∧ ixOK i (mL h a) = true
  · rw [if_pos hc]
    exact ev_of hd (by simp only [mIns, mNx, if_true]; rw [if_pos hc])
  · rw [if_neg hc]
    exact ev_no hd (by simp only [mIns, if_true]; rw [if_neg hc])
theorem ev_len {a : Nat} (hd : decode (cd mi) pc = .ok (.arraylength, 1)) : ev d mi pc L (.ref a :: st) h = if mK h a = 19 then ev d mi (pc + 1) L (.int (Int32.ofNat (mL h a)) :: st) h else none := by
  by_cases hc : mK h a = 19
  · rw [if_pos hc]
    exact ev_of hd (by simp only [mIns, mNx, if_true]; rw [if_pos hc])
  · rw [if_neg hc]
    exact ev_no hd (by simp only [mIns, if_true]; rw [if_neg hc])
theorem ev_max {i mj : Nat} {x y : Int32} (hd : decode (cd mi) pc = .ok (.invokestatic i, 3)) (hf : kGet (ow mi) i = some (6, mj)) (hc : mCat st ≤ 8) : ev d mi pc L (.int y :: .int x :: st) h = ev d mi (pc + 3) L (.int (if x < y then y else x) :: st) h := ev_of hd (by simp [mIns, mCallS, hf, hc, mNx])
theorem ev_min {i mj : Nat} {x y : Int32} (hd : decode (cd mi) pc = .ok (.invokestatic i, 3)) (hf : kGet (ow mi) i = some (7, mj)) (hc : mCat st ≤ 8) : ev d mi pc L (.int y :: .int x :: st) h = ev d mi (pc + 3) L (.int (if y < x then y else x) :: st) h := ev_of hd (by simp [mIns, mCallS, hf, hc, mNx])
theorem ev_abs {i mj : Nat} {x : Int32} (hd : decode (cd mi) pc = .ok (.invokestatic i, 3)) (hf : kGet (ow mi) i = some (8, mj)) (hc : mCat st ≤ 8) : ev d mi pc L (.int x :: st) h = ev d mi (pc + 3) L (.int (if 0 ≤ x then x else 0 - x) :: st) h := ev_of hd (by simp [mIns, mCallS, hf, hc, mNx])
theorem ev_cpy {i mj a b : Nat} {n dp sp : Int32} (hd : decode (cd mi) pc = .ok (.invokestatic i, 3)) (hf : kGet (ow mi) i = some (9, mj)) (hc : mCat st ≤ 8) : ev d mi pc L (.int n :: .int dp :: .ref b :: .int sp :: .ref a :: st) h = if mK h a = 11 ∧ mK h b = 11 ∧ ¬ sp < 0 ∧ ¬ dp < 0 ∧ ¬ n < 0 ∧ sp.toNatClampNeg + n.toNatClampNeg ≤ mL h a ∧ dp.toNatClampNeg + n.toNatClampNeg ≤ mL h b then ev d mi (pc + 3) L st (wC h a b sp.toNatClampNeg dp.toNatClampNeg n.toNatClampNeg) else none := by
  split
  · rename_i hq
    refine ev_of hd ?_
    simp only [mIns, mCallS, hf, mNx, if_true]
    rw [if_neg (by decide), if_neg (by decide), if_neg (by decide), if_pos ⟨hc, hq⟩]
  · rename_i hq
    refine ev_no hd ?_
    simp only [mIns, mCallS, hf, mNx, if_true]
    rw [if_neg (by decide), if_neg (by decide), if_neg (by decide), if_neg (fun z => hq z.2)]
theorem ev_obj {i mj a : Nat} (hd : decode (cd mi) pc = .ok (.invokespecial i, 3)) (hf : kGet (ow mi) i = some (5, mj)) (hc : mCat st ≤ 8) : ev d mi pc L (.ref a :: st) h = ev d mi (pc + 3) L st h := ev_of hd (by simp [mIns, mCallI, hf, hc, mNx])
theorem ev_cs {i mj kd : Nat} {S as rest : List Value} {E : mLs} (hd : decode (cd mi) pc = .ok (.invokestatic i, 3)) (hf : kGet (ow mi) i = some (kd, mj)) (hk : kd = 1 ∨ kd = 3) (ha : (S.take (na mj)).reverse = as) (hr : S.drop (na mj) = rest) (hl : na mj ≤ S.length) (he : mEnt mj as = E) (hm : (as.map Value.category).sum ≤ mx mj) (hc : mCat rest ≤ 8) : ev (d + 1) mi pc L S h = cV (ev d mj 0 E [] h) (fun v h' => ev (d + 1) mi (pc + 3) L (v ++ rest) h') := by
  subst ha
  subst hr
  subst he
  refine ev_cl hd ?_
  simp only [mIns, mCallS, hf, mNx, if_true]
  rw [if_neg (by omega), if_neg (by omega), if_neg (by omega), if_neg (by omega), if_pos ⟨hk, hl, hc, hm⟩]
theorem ev_cv {i mj a : Nat} {S as rest : List Value} {E : mLs} (hd : decode (cd mi) pc = .ok (.invokevirtual i, 3)) (hf : kGet (ow mi) i = some (0, mj)) (ha : (S.take (na mj)).reverse = as) (hr : S.drop (na mj) = .ref a :: rest) (hl : na mj ≤ S.length) (he : mEnt mj (.ref a :: as) = E) (hm : ((Value.ref a :: as).map Value.category).sum ≤ mx mj) (hc : mCat rest ≤ 8) : ev (d + 1) mi pc L S h = if mK h a = ow mj then cV (ev d mj 0 E [] h) (fun v h' => ev (d + 1) mi (pc + 3) L (v ++ rest) h') else none := by
  subst ha
  subst he
  by_cases hq : mK h a = ow mj
  · rw [if_pos hq]
    refine ev_cl hd ?_
    simp only [mIns, mCallV, hf, hr, if_true]
    rw [if_pos ⟨trivial, hq, hl, hc, hm⟩]
  · rw [if_neg hq]
    refine ev_no hd ?_
    simp only [mIns, mCallV, hf, hr, if_true]
    rw [if_neg (fun z => hq z.2.1)]
theorem ev_ci {i mj kd a : Nat} {S as rest : List Value} {E : mLs} (hd : decode (cd mi) pc = .ok (.invokespecial i, 3)) (hf : kGet (ow mi) i = some (kd, mj)) (hk : kd = 2 ∨ kd = 4) (ha : (S.take (na mj)).reverse = as) (hr : S.drop (na mj) = .ref a :: rest) (hl : na mj ≤ S.length) (he : mEnt mj (.ref a :: as) = E) (hm : ((Value.ref a :: as).map Value.category).sum ≤ mx mj) (hc : mCat rest ≤ 8) : ev (d + 1) mi pc L S h = cV (ev d mj 0 E [] h) (fun v h' => ev (d + 1) mi (pc + 3) L (v ++ rest) h') := by
  subst ha
  subst he
  refine ev_cl hd ?_
  simp only [mIns, mCallI, hf, hr, if_true]
  rw [if_neg (by omega), if_pos ⟨hk, hl, hc, hm⟩]
theorem ev_rz {v : Int32} (hd : decode (cd mi) pc = .ok (.ireturn, 1)) (hr : mrt mi = some .boolean) : ev d mi pc L [.int v] h = if mZO v = true then some (some (.int v), h) else none := by
  by_cases hq : mZO v = true
  · rw [if_pos hq]
    exact ev_rt hd (by simp [mIns, hr, hq])
  · rw [if_neg hq]
    exact ev_no hd (by simp [mIns, hr, hq])
theorem ev_ri {v : Int32} (hd : decode (cd mi) pc = .ok (.ireturn, 1)) (hr : mrt mi = some .int) : ev d mi pc L [.int v] h = some (some (.int v), h) := ev_rt hd (by simp [mIns, hr])
theorem ev_rl {v : Int64} (hd : decode (cd mi) pc = .ok (.lreturn, 1)) (hr : mrt mi = some .long) : ev d mi pc L [.long v] h = some (some (.long v), h) := ev_rt hd (by simp [mIns, hr])
theorem ev_rv (hd : decode (cd mi) pc = .ok (.return_, 1)) (hr : mrt mi = none) : ev d mi pc L [] h = some (none, h) := ev_rt hd (by simp [mIns, hr])
theorem ev_na {t : ArrayType} {n : Int32} (hd : decode (cd mi) pc = .ok (.newarray t, 2)) (ht : t = .int ∨ t = .long) (hn : ¬ n < 0) (h1 : n.toNatClampNeg ≤ 1000) : ev d mi pc L (.int n :: st) h = ev d mi (pc + 2) L (.ref (mN h) :: st) (wN h (if t = .int then 11 else 12) n.toNatClampNeg) := ev_of hd (by simp only [mIns, mNx, if_true]; rw [if_pos ⟨ht, hn, h1⟩])
theorem ev_anew {i ci : Nat} {n : Int32} (hd : decode (cd mi) pc = .ok (.anewarray i, 3)) (hf : nGet (ow mi) i = some ci) (ha : ci ∈ aoL) (hn : ¬ n < 0) (h1 : n.toNatClampNeg ≤ 1000) : ev d mi pc L (.int n :: st) h = ev d mi (pc + 3) L (.ref (mN h) :: st) (wN h (mAr ci) n.toNatClampNeg) := ev_of hd (by simp only [mIns, mNx, hf, if_true]; rw [if_pos ⟨ha, hn, h1⟩])
theorem ev_new {i ci : Nat} (hd : decode (cd mi) pc = .ok (.new i, 3)) (hf : nGet (ow mi) i = some ci) : ev d mi pc L st h = ev d mi (pc + 3) L (.ref (mN h) :: st) (wN h ci (nfN ci)) := ev_of hd (by simp [mIns, mNx, hf])
theorem ev_grid {n k : Int32} (hd : decode (cd mi) pc = .ok (.multianewarray 9 2, 4)) (ho : ow mi = 5) (hn : ¬ n < 0) (h1 : n.toNatClampNeg ≤ 1000) (hk : ¬ k < 0) (h2 : k.toNatClampNeg ≤ 1000) : ev d mi pc L (.int k :: .int n :: st) h = ev d mi (pc + 4) L (.ref (mN h) :: st) (wGrid h n.toNatClampNeg k.toNatClampNeg) := ev_of hd (by simp only [mIns, mNx, ho]; rw [if_pos ⟨trivial, trivial, trivial, trivial⟩, if_pos ⟨hn, h1, hk, h2⟩])
theorem ev_st_i {i : Nat} {L' : mLs} {x : Int32} (hd : decode (cd mi) pc = .ok (.istore i, 2)) (hn : i < mx mi) (hL : mS1 L i (.int x) = L') : ev d mi pc L (.int x :: st) h = ev d mi (pc + 2) L' st h := by
  subst hL
  exact ev_of hd (by simp [mIns, mNx, hn])
theorem ev_st_in {i : Fin 4} {L' : mLs} {x : Int32} (hd : decode (cd mi) pc = .ok (.istore_n i, 1)) (hn : i.val < mx mi) (hL : mS1 L i.val (.int x) = L') : ev d mi pc L (.int x :: st) h = ev d mi (pc + 1) L' st h := by
  subst hL
  exact ev_of hd (by simp [mIns, mNx, hn])
theorem ev_st_l {i : Nat} {L' : mLs} {x : Int64} (hd : decode (cd mi) pc = .ok (.lstore i, 2)) (hn : i + 1 < mx mi) (hL : mS2 L i (.long x) = L') : ev d mi pc L (.long x :: st) h = ev d mi (pc + 2) L' st h := by
  subst hL
  exact ev_of hd (by simp [mIns, mNx, hn])
theorem ev_st_ln {i : Fin 4} {L' : mLs} {x : Int64} (hd : decode (cd mi) pc = .ok (.lstore_n i, 1)) (hn : i.val + 1 < mx mi) (hL : mS2 L i.val (.long x) = L') : ev d mi pc L (.long x :: st) h = ev d mi (pc + 1) L' st h := by
  subst hL
  exact ev_of hd (by simp [mIns, mNx, hn])
theorem ev_st_r {i : Nat} {L' : mLs} {x : Nat} (hd : decode (cd mi) pc = .ok (.astore i, 2)) (hn : i < mx mi) (hL : mS1 L i (.ref x) = L') : ev d mi pc L (.ref x :: st) h = ev d mi (pc + 2) L' st h := by
  subst hL
  exact ev_of hd (by simp [mIns, mNx, hn])
theorem ev_st_rn {i : Fin 4} {L' : mLs} {x : Nat} (hd : decode (cd mi) pc = .ok (.astore_n i, 1)) (hn : i.val < mx mi) (hL : mS1 L i.val (.ref x) = L') : ev d mi pc L (.ref x :: st) h = ev d mi (pc + 1) L' st h := by
  subst hL
  exact ev_of hd (by simp [mIns, mNx, hn])
theorem ev_inc {i : Nat} {n : Int} {L' : mLs} {x y : Int32} (hd : decode (cd mi) pc = .ok (.iinc i n, 3)) (hn : i < mx mi) (hv : L.getD i none = some (.int x)) (hy : x + Int32.ofInt n = y) (hL : mS1 L i (.int y) = L') : ev d mi pc L st h = ev d mi (pc + 3) L' st h := by
  subst hL
  subst hy
  refine ev_of hd ?_
  simp only [mIns, mNx, hv]
  rw [if_pos ⟨trivial, hn⟩]
theorem tsF_in {α : Type} {f : Nat → α} {x : Int32} {z : α} : ∀ (ts : List Nat) (lo : Int) (t : Nat), lo ≤ x.toInt → ts[(x.toInt - lo).toNat]? = some t → tsF f x ts lo z = f t
  | [], lo, t, _, h => by simp at h
  | u :: ts, lo, t, h1, h2 => by
    unfold tsF
    by_cases hq : x.toInt = lo
    · rw [if_pos hq]
      rw [hq, Int.sub_self] at h2
      cases h2
      rfl
    · rw [if_neg hq]
      refine tsF_in ts (lo + 1) t (by omega) ?_
      rw [show (x.toInt - lo).toNat = (x.toInt - (lo + 1)).toNat + 1 by omega] at h2
      exact h2
theorem tsF_out {α : Type} {f : Nat → α} {x : Int32} {z : α} : ∀ (ts : List Nat) (lo : Int), (x.toInt < lo ∨ lo + ts.length ≤ x.toInt) → tsF f x ts lo z = z
  | [], lo, _ => rfl
  | u :: ts, lo, h => by
    simp only [List.length_cons] at h
    unfold tsF
    rw [if_neg (by omega)]
    exact tsF_out ts (lo + 1) (by omega)
theorem ev_ts {dflt lo hi : Int} {offs : Array Int} {len tg : Nat} {x : Int32} (ts : List Nat) (hd : decode (cd mi) pc = .ok (.tableswitch dflt lo hi offs, len)) (hts : offs.toList.map (fun o => (pc : Int) + o) = ts.map (fun t : Nat => (t : Int))) (hh : hi = lo + ts.length - 1) (hg : (pc : Int) + dflt = (tg : Int)) : ev d mi pc L (.int x :: st) h = tsF (fun t => ev d mi t L st h) x ts lo (ev d mi tg L st h) := by
  by_cases hq : x.toInt < lo ∨ hi < x.toInt
  · rw [tsF_out ts lo (by omega)]
    refine ev_of hd ?_
    simp only [mIns, mTg]
    rw [if_pos hq, if_pos (by omega), hg]
    rfl
  · have hlen : offs.toList.length = ts.length := by
      have := congrArg List.length hts
      simpa using this
    have hlt : (x.toInt - lo).toNat < ts.length := by omega
    obtain ⟨t, ht⟩ : ∃ t, ts[(x.toInt - lo).toNat]? = some t := ⟨_, List.getElem?_eq_getElem hlt⟩
    rw [tsF_in ts lo t (by omega) ht]
    have h3 : (offs.toList.map (fun o => (pc : Int) + o))[(x.toInt - lo).toNat]? = some (t : Int) := by rw [hts, List.getElem?_map, ht]; rfl
    rw [List.getElem?_map] at h3
    cases ho : offs.toList[(x.toInt - lo).toNat]? with
    | none => rw [ho] at h3; cases h3
    | some off =>
      rw [ho] at h3
      simp only [Option.map_some, Option.some.injEq] at h3
      have ho2 : offs[(x.toInt - lo).toNat]? = some off := by rw [← Array.getElem?_toList]; exact ho
      refine ev_of hd ?_
      simp only [mIns, mTg]
      rw [if_neg hq, ho2]
      simp only
      rw [if_pos (by omega), h3]
      rfl
end EVS
end
section
-- decode rows and equations, by gen_ev.py
-- 0: Channel.<init>
theorem cd_0 : cd 0 = prog_2_method_1_code := rfl
theorem d_0_0 : decode (cd 0) 0 = .ok (.aload_n 0, 1) := by rw [cd_0]; decide +kernel
theorem e_0_0 {d : Nat} {h : mM} {T : mLs} {x : Nat} {st : List Value} : ev d 0 0 ( some (.ref x) :: T) st h = ev d 0 1 ( some (.ref x) :: T) (.ref x :: st) h := ev_of d_0_0 rfl
theorem d_0_1 : decode (cd 0) 1 = .ok (.invokespecial 1, 3) := by rw [cd_0]; decide +kernel
theorem e_0_1 {d : Nat} {h : mM} {L : mLs} {st : List Value} {a : Nat} (hc : mCat st ≤ 8) : ev d 0 1 L (.ref a :: st) h = ev d 0 4 L st h := ev_obj (mj := 0) d_0_1 (by decide +kernel) hc
theorem d_0_4 : decode (cd 0) 4 = .ok (.aload_n 0, 1) := by rw [cd_0]; decide +kernel
theorem e_0_4 {d : Nat} {h : mM} {T : mLs} {x : Nat} {st : List Value} : ev d 0 4 ( some (.ref x) :: T) st h = ev d 0 5 ( some (.ref x) :: T) (.ref x :: st) h := ev_of d_0_4 rfl
theorem d_0_5 : decode (cd 0) 5 = .ok (.iconst 0, 1) := by rw [cd_0]; decide +kernel
theorem e_0_5 {d : Nat} {h : mM} {L : mLs} {st : List Value} : ev d 0 5 L st h = ev d 0 6 L (.int 0 :: st) h := ev_of d_0_5 rfl
theorem d_0_6 : decode (cd 0) 6 = .ok (.putfield 7, 3) := by rw [cd_0]; decide +kernel
theorem e_0_6 {d : Nat} {h : mM} {L : mLs} {st : List Value} {a : Nat} {v : Int32} : ev d 0 6 L (.int v :: .ref a :: st) h = if mK h a = 0 then ev d 0 9 L st (wI h a 0 v) else none := ev_pI d_0_6 (by decide +kernel) (by decide +kernel) (by decide +kernel)
theorem d_0_9 : decode (cd 0) 9 = .ok (.aload_n 0, 1) := by rw [cd_0]; decide +kernel
theorem e_0_9 {d : Nat} {h : mM} {T : mLs} {x : Nat} {st : List Value} : ev d 0 9 ( some (.ref x) :: T) st h = ev d 0 10 ( some (.ref x) :: T) (.ref x :: st) h := ev_of d_0_9 rfl
theorem d_0_10 : decode (cd 0) 10 = .ok (.iconst 0, 1) := by rw [cd_0]; decide +kernel
theorem e_0_10 {d : Nat} {h : mM} {L : mLs} {st : List Value} : ev d 0 10 L st h = ev d 0 11 L (.int 0 :: st) h := ev_of d_0_10 rfl
theorem d_0_11 : decode (cd 0) 11 = .ok (.putfield 13, 3) := by rw [cd_0]; decide +kernel
theorem e_0_11 {d : Nat} {h : mM} {L : mLs} {st : List Value} {a : Nat} {v : Int32} : ev d 0 11 L (.int v :: .ref a :: st) h = if mK h a = 0 then ev d 0 14 L st (wI h a 1 v) else none := ev_pI d_0_11 (by decide +kernel) (by decide +kernel) (by decide +kernel)
theorem d_0_14 : decode (cd 0) 14 = .ok (.aload_n 0, 1) := by rw [cd_0]; decide +kernel
theorem e_0_14 {d : Nat} {h : mM} {T : mLs} {x : Nat} {st : List Value} : ev d 0 14 ( some (.ref x) :: T) st h = ev d 0 15 ( some (.ref x) :: T) (.ref x :: st) h := ev_of d_0_14 rfl
theorem d_0_15 : decode (cd 0) 15 = .ok (.iconst 0, 1) := by rw [cd_0]; decide +kernel
theorem e_0_15 {d : Nat} {h : mM} {L : mLs} {st : List Value} : ev d 0 15 L st h = ev d 0 16 L (.int 0 :: st) h := ev_of d_0_15 rfl
theorem d_0_16 : decode (cd 0) 16 = .ok (.putfield 16, 3) := by rw [cd_0]; decide +kernel
theorem e_0_16 {d : Nat} {h : mM} {L : mLs} {st : List Value} {a : Nat} {v : Int32} : ev d 0 16 L (.int v :: .ref a :: st) h = if mK h a = 0 then ev d 0 19 L st (wI h a 2 v) else none := ev_pI d_0_16 (by decide +kernel) (by decide +kernel) (by decide +kernel)
theorem d_0_19 : decode (cd 0) 19 = .ok (.return_, 1) := by rw [cd_0]; decide +kernel
theorem e_0_19 {d : Nat} {h : mM} {L : mLs} : ev d 0 19 L [] h = some (none, h) := ev_rv d_0_19 (by decide +kernel)
-- 1: Flow.<init>
theorem cd_1 : cd 1 = prog_3_method_1_code := rfl
theorem d_1_0 : decode (cd 1) 0 = .ok (.aload_n 0, 1) := by rw [cd_1]; decide +kernel
theorem e_1_0 {d : Nat} {h : mM} {T : mLs} {x : Nat} {st : List Value} : ev d 1 0 ( some (.ref x) :: T) st h = ev d 1 1 ( some (.ref x) :: T) (.ref x :: st) h := ev_of d_1_0 rfl
theorem d_1_1 : decode (cd 1) 1 = .ok (.invokespecial 3, 3) := by rw [cd_1]; decide +kernel
theorem e_1_1 {d : Nat} {h : mM} {L : mLs} {st : List Value} {a : Nat} (hc : mCat st ≤ 8) : ev d 1 1 L (.ref a :: st) h = ev d 1 4 L st h := ev_obj (mj := 0) d_1_1 (by decide +kernel) hc
theorem d_1_4 : decode (cd 1) 4 = .ok (.aload_n 0, 1) := by rw [cd_1]; decide +kernel
theorem e_1_4 {d : Nat} {h : mM} {T : mLs} {x : Nat} {st : List Value} : ev d 1 4 ( some (.ref x) :: T) st h = ev d 1 5 ( some (.ref x) :: T) (.ref x :: st) h := ev_of d_1_4 rfl
theorem d_1_5 : decode (cd 1) 5 = .ok (.bipush 12, 2) := by rw [cd_1]; decide +kernel
theorem e_1_5 {d : Nat} {h : mM} {L : mLs} {st : List Value} : ev d 1 5 L st h = ev d 1 7 L (.int 12 :: st) h := ev_of d_1_5 rfl
theorem d_1_7 : decode (cd 1) 7 = .ok (.newarray .int, 2) := by rw [cd_1]; decide +kernel
theorem e_1_7 {d : Nat} {h : mM} {L : mLs} {st : List Value} {n : Int32} (hn : ¬ n < 0) (h1 : n.toNatClampNeg ≤ 1000) : ev d 1 7 L (.int n :: st) h = ev d 1 9 L (.ref (mN h) :: st) (wN h 11 n.toNatClampNeg) := ev_na d_1_7 (by decide) hn h1
theorem d_1_9 : decode (cd 1) 9 = .ok (.putfield 9, 3) := by rw [cd_1]; decide +kernel
theorem e_1_9 {d : Nat} {h : mM} {L : mLs} {st : List Value} {a b : Nat} : ev d 1 9 L (.ref b :: .ref a :: st) h = if mK h a = 1 then ev d 1 12 L st (wR h a 1 (some b)) else none := ev_pR d_1_9 (by decide +kernel) (by decide +kernel) (by decide +kernel)
theorem d_1_12 : decode (cd 1) 12 = .ok (.aload_n 0, 1) := by rw [cd_1]; decide +kernel
theorem e_1_12 {d : Nat} {h : mM} {T : mLs} {x : Nat} {st : List Value} : ev d 1 12 ( some (.ref x) :: T) st h = ev d 1 13 ( some (.ref x) :: T) (.ref x :: st) h := ev_of d_1_12 rfl
theorem d_1_13 : decode (cd 1) 13 = .ok (.iconst 0, 1) := by rw [cd_1]; decide +kernel
theorem e_1_13 {d : Nat} {h : mM} {L : mLs} {st : List Value} : ev d 1 13 L st h = ev d 1 14 L (.int 0 :: st) h := ev_of d_1_13 rfl
theorem d_1_14 : decode (cd 1) 14 = .ok (.putfield 15, 3) := by rw [cd_1]; decide +kernel
theorem e_1_14 {d : Nat} {h : mM} {L : mLs} {st : List Value} {a : Nat} {v : Int32} : ev d 1 14 L (.int v :: .ref a :: st) h = if mK h a = 1 then ev d 1 17 L st (wI h a 2 v) else none := ev_pI d_1_14 (by decide +kernel) (by decide +kernel) (by decide +kernel)
theorem d_1_17 : decode (cd 1) 17 = .ok (.aload_n 0, 1) := by rw [cd_1]; decide +kernel
theorem e_1_17 {d : Nat} {h : mM} {T : mLs} {x : Nat} {st : List Value} : ev d 1 17 ( some (.ref x) :: T) st h = ev d 1 18 ( some (.ref x) :: T) (.ref x :: st) h := ev_of d_1_17 rfl
theorem d_1_18 : decode (cd 1) 18 = .ok (.iconst 0, 1) := by rw [cd_1]; decide +kernel
theorem e_1_18 {d : Nat} {h : mM} {L : mLs} {st : List Value} : ev d 1 18 L st h = ev d 1 19 L (.int 0 :: st) h := ev_of d_1_18 rfl
theorem d_1_19 : decode (cd 1) 19 = .ok (.putfield 19, 3) := by rw [cd_1]; decide +kernel
theorem e_1_19 {d : Nat} {h : mM} {L : mLs} {st : List Value} {a : Nat} {v : Int32} : ev d 1 19 L (.int v :: .ref a :: st) h = if mK h a = 1 then ev d 1 22 L st (wI h a 3 v) else none := ev_pI d_1_19 (by decide +kernel) (by decide +kernel) (by decide +kernel)
theorem d_1_22 : decode (cd 1) 22 = .ok (.aload_n 0, 1) := by rw [cd_1]; decide +kernel
theorem e_1_22 {d : Nat} {h : mM} {T : mLs} {x : Nat} {st : List Value} : ev d 1 22 ( some (.ref x) :: T) st h = ev d 1 23 ( some (.ref x) :: T) (.ref x :: st) h := ev_of d_1_22 rfl
theorem d_1_23 : decode (cd 1) 23 = .ok (.iconst 0, 1) := by rw [cd_1]; decide +kernel
theorem e_1_23 {d : Nat} {h : mM} {L : mLs} {st : List Value} : ev d 1 23 L st h = ev d 1 24 L (.int 0 :: st) h := ev_of d_1_23 rfl
theorem d_1_24 : decode (cd 1) 24 = .ok (.putfield 22, 3) := by rw [cd_1]; decide +kernel
theorem e_1_24 {d : Nat} {h : mM} {L : mLs} {st : List Value} {a : Nat} {v : Int32} : ev d 1 24 L (.int v :: .ref a :: st) h = if mK h a = 1 then ev d 1 27 L st (wI h a 4 v) else none := ev_pI d_1_24 (by decide +kernel) (by decide +kernel) (by decide +kernel)
theorem d_1_27 : decode (cd 1) 27 = .ok (.aload_n 0, 1) := by rw [cd_1]; decide +kernel
theorem e_1_27 {d : Nat} {h : mM} {T : mLs} {x : Nat} {st : List Value} : ev d 1 27 ( some (.ref x) :: T) st h = ev d 1 28 ( some (.ref x) :: T) (.ref x :: st) h := ev_of d_1_27 rfl
theorem d_1_28 : decode (cd 1) 28 = .ok (.iconst 0, 1) := by rw [cd_1]; decide +kernel
theorem e_1_28 {d : Nat} {h : mM} {L : mLs} {st : List Value} : ev d 1 28 L st h = ev d 1 29 L (.int 0 :: st) h := ev_of d_1_28 rfl
theorem d_1_29 : decode (cd 1) 29 = .ok (.putfield 25, 3) := by rw [cd_1]; decide +kernel
theorem e_1_29 {d : Nat} {h : mM} {L : mLs} {st : List Value} {a : Nat} {v : Int32} : ev d 1 29 L (.int v :: .ref a :: st) h = if mK h a = 1 then ev d 1 32 L st (wI h a 5 v) else none := ev_pI d_1_29 (by decide +kernel) (by decide +kernel) (by decide +kernel)
theorem d_1_32 : decode (cd 1) 32 = .ok (.aload_n 0, 1) := by rw [cd_1]; decide +kernel
theorem e_1_32 {d : Nat} {h : mM} {T : mLs} {x : Nat} {st : List Value} : ev d 1 32 ( some (.ref x) :: T) st h = ev d 1 33 ( some (.ref x) :: T) (.ref x :: st) h := ev_of d_1_32 rfl
theorem d_1_33 : decode (cd 1) 33 = .ok (.aload_n 1, 1) := by rw [cd_1]; decide +kernel
theorem e_1_33 {d : Nat} {h : mM} {o0 : Option Value} {T : mLs} {x : Nat} {st : List Value} : ev d 1 33 (o0 :: some (.ref x) :: T) st h = ev d 1 34 (o0 :: some (.ref x) :: T) (.ref x :: st) h := ev_of d_1_33 rfl
theorem d_1_34 : decode (cd 1) 34 = .ok (.putfield 28, 3) := by rw [cd_1]; decide +kernel
theorem e_1_34 {d : Nat} {h : mM} {L : mLs} {st : List Value} {a b : Nat} : ev d 1 34 L (.ref b :: .ref a :: st) h = if mK h a = 1 then ev d 1 37 L st (wR h a 0 (some b)) else none := ev_pR d_1_34 (by decide +kernel) (by decide +kernel) (by decide +kernel)
theorem d_1_37 : decode (cd 1) 37 = .ok (.return_, 1) := by rw [cd_1]; decide +kernel
theorem e_1_37 {d : Nat} {h : mM} {L : mLs} : ev d 1 37 L [] h = some (none, h) := ev_rv d_1_37 (by decide +kernel)
-- 2: Flow.goBy
theorem cd_2 : cd 2 = prog_3_method_2_code := rfl
theorem d_2_0 : decode (cd 2) 0 = .ok (.aload_n 0, 1) := by rw [cd_2]; decide +kernel
theorem e_2_0 {d : Nat} {h : mM} {T : mLs} {x : Nat} {st : List Value} : ev d 2 0 ( some (.ref x) :: T) st h = ev d 2 1 ( some (.ref x) :: T) (.ref x :: st) h := ev_of d_2_0 rfl
theorem d_2_1 : decode (cd 2) 1 = .ok (.iconst 0, 1) := by rw [cd_2]; decide +kernel
theorem e_2_1 {d : Nat} {h : mM} {L : mLs} {st : List Value} : ev d 2 1 L st h = ev d 2 2 L (.int 0 :: st) h := ev_of d_2_1 rfl
theorem d_2_2 : decode (cd 2) 2 = .ok (.putfield 15, 3) := by rw [cd_2]; decide +kernel
theorem e_2_2 {d : Nat} {h : mM} {L : mLs} {st : List Value} {a : Nat} {v : Int32} : ev d 2 2 L (.int v :: .ref a :: st) h = if mK h a = 1 then ev d 2 5 L st (wI h a 2 v) else none := ev_pI d_2_2 (by decide +kernel) (by decide +kernel) (by decide +kernel)
theorem d_2_5 : decode (cd 2) 5 = .ok (.aload_n 0, 1) := by rw [cd_2]; decide +kernel
theorem e_2_5 {d : Nat} {h : mM} {T : mLs} {x : Nat} {st : List Value} : ev d 2 5 ( some (.ref x) :: T) st h = ev d 2 6 ( some (.ref x) :: T) (.ref x :: st) h := ev_of d_2_5 rfl
theorem d_2_6 : decode (cd 2) 6 = .ok (.iconst 0, 1) := by rw [cd_2]; decide +kernel
theorem e_2_6 {d : Nat} {h : mM} {L : mLs} {st : List Value} : ev d 2 6 L st h = ev d 2 7 L (.int 0 :: st) h := ev_of d_2_6 rfl
theorem d_2_7 : decode (cd 2) 7 = .ok (.putfield 19, 3) := by rw [cd_2]; decide +kernel
theorem e_2_7 {d : Nat} {h : mM} {L : mLs} {st : List Value} {a : Nat} {v : Int32} : ev d 2 7 L (.int v :: .ref a :: st) h = if mK h a = 1 then ev d 2 10 L st (wI h a 3 v) else none := ev_pI d_2_7 (by decide +kernel) (by decide +kernel) (by decide +kernel)
theorem d_2_10 : decode (cd 2) 10 = .ok (.aload_n 0, 1) := by rw [cd_2]; decide +kernel
theorem e_2_10 {d : Nat} {h : mM} {T : mLs} {x : Nat} {st : List Value} : ev d 2 10 ( some (.ref x) :: T) st h = ev d 2 11 ( some (.ref x) :: T) (.ref x :: st) h := ev_of d_2_10 rfl
theorem d_2_11 : decode (cd 2) 11 = .ok (.iconst 0, 1) := by rw [cd_2]; decide +kernel
theorem e_2_11 {d : Nat} {h : mM} {L : mLs} {st : List Value} : ev d 2 11 L st h = ev d 2 12 L (.int 0 :: st) h := ev_of d_2_11 rfl
theorem d_2_12 : decode (cd 2) 12 = .ok (.putfield 22, 3) := by rw [cd_2]; decide +kernel
theorem e_2_12 {d : Nat} {h : mM} {L : mLs} {st : List Value} {a : Nat} {v : Int32} : ev d 2 12 L (.int v :: .ref a :: st) h = if mK h a = 1 then ev d 2 15 L st (wI h a 4 v) else none := ev_pI d_2_12 (by decide +kernel) (by decide +kernel) (by decide +kernel)
theorem d_2_15 : decode (cd 2) 15 = .ok (.aload_n 0, 1) := by rw [cd_2]; decide +kernel
theorem e_2_15 {d : Nat} {h : mM} {T : mLs} {x : Nat} {st : List Value} : ev d 2 15 ( some (.ref x) :: T) st h = ev d 2 16 ( some (.ref x) :: T) (.ref x :: st) h := ev_of d_2_15 rfl
theorem d_2_16 : decode (cd 2) 16 = .ok (.iconst 0, 1) := by rw [cd_2]; decide +kernel
theorem e_2_16 {d : Nat} {h : mM} {L : mLs} {st : List Value} : ev d 2 16 L st h = ev d 2 17 L (.int 0 :: st) h := ev_of d_2_16 rfl
theorem d_2_17 : decode (cd 2) 17 = .ok (.putfield 25, 3) := by rw [cd_2]; decide +kernel
theorem e_2_17 {d : Nat} {h : mM} {L : mLs} {st : List Value} {a : Nat} {v : Int32} : ev d 2 17 L (.int v :: .ref a :: st) h = if mK h a = 1 then ev d 2 20 L st (wI h a 5 v) else none := ev_pI d_2_17 (by decide +kernel) (by decide +kernel) (by decide +kernel)
theorem d_2_20 : decode (cd 2) 20 = .ok (.aload_n 0, 1) := by rw [cd_2]; decide +kernel
theorem e_2_20 {d : Nat} {h : mM} {T : mLs} {x : Nat} {st : List Value} : ev d 2 20 ( some (.ref x) :: T) st h = ev d 2 21 ( some (.ref x) :: T) (.ref x :: st) h := ev_of d_2_20 rfl
theorem d_2_21 : decode (cd 2) 21 = .ok (.aload_n 1, 1) := by rw [cd_2]; decide +kernel
theorem e_2_21 {d : Nat} {h : mM} {o0 : Option Value} {T : mLs} {x : Nat} {st : List Value} : ev d 2 21 (o0 :: some (.ref x) :: T) st h = ev d 2 22 (o0 :: some (.ref x) :: T) (.ref x :: st) h := ev_of d_2_21 rfl
theorem d_2_22 : decode (cd 2) 22 = .ok (.iload_n 2, 1) := by rw [cd_2]; decide +kernel
theorem e_2_22 {d : Nat} {h : mM} {o0 o1 : Option Value} {T : mLs} {x : Int32} {st : List Value} : ev d 2 22 (o0 :: o1 :: some (.int x) :: T) st h = ev d 2 23 (o0 :: o1 :: some (.int x) :: T) (.int x :: st) h := ev_of d_2_22 rfl
theorem d_2_23 : decode (cd 2) 23 = .ok (.invokevirtual 32, 3) := by rw [cd_2]; decide +kernel
theorem e_2_23 {d : Nat} {h : mM} {L : mLs} {st : List Value} {a : Nat} {x0 : Nat} {x1 : Int32} (hc : mCat st ≤ 8) : ev (d + 1) 2 23 L (.int x1 :: .ref x0 :: .ref a :: st) h = if mK h a = 1 then cV (ev d 3 0 [some (.ref a), some (.ref x0), some (.int x1), none, none, none] [] h) (fun v h1 => ev (d + 1) 2 26 L (v ++ st) h1) else none := ev_cv (mj := 3) (as := [.ref x0, .int x1]) (rest := st) d_2_23 (by decide +kernel) rfl rfl (by show _ ≤ List.length _; simp only [List.length_cons]; have : na 3 = 2 := rfl; omega) rfl (Nat.le_of_ble_eq_true rfl) hc
theorem d_2_26 : decode (cd 2) 26 = .ok (.aload_n 0, 1) := by rw [cd_2]; decide +kernel
theorem e_2_26 {d : Nat} {h : mM} {T : mLs} {x : Nat} {st : List Value} : ev d 2 26 ( some (.ref x) :: T) st h = ev d 2 27 ( some (.ref x) :: T) (.ref x :: st) h := ev_of d_2_26 rfl
theorem d_2_27 : decode (cd 2) 27 = .ok (.aload_n 1, 1) := by rw [cd_2]; decide +kernel
theorem e_2_27 {d : Nat} {h : mM} {o0 : Option Value} {T : mLs} {x : Nat} {st : List Value} : ev d 2 27 (o0 :: some (.ref x) :: T) st h = ev d 2 28 (o0 :: some (.ref x) :: T) (.ref x :: st) h := ev_of d_2_27 rfl
theorem d_2_28 : decode (cd 2) 28 = .ok (.invokevirtual 36, 3) := by rw [cd_2]; decide +kernel
theorem e_2_28 {d : Nat} {h : mM} {L : mLs} {st : List Value} {a : Nat} {x0 : Nat} (hc : mCat st ≤ 8) : ev (d + 1) 2 28 L (.ref x0 :: .ref a :: st) h = if mK h a = 1 then cV (ev d 4 0 [some (.ref a), some (.ref x0), none, none, none, none] [] h) (fun v h1 => ev (d + 1) 2 31 L (v ++ st) h1) else none := ev_cv (mj := 4) (as := [.ref x0]) (rest := st) d_2_28 (by decide +kernel) rfl rfl (by show _ ≤ List.length _; simp only [List.length_cons]; have : na 4 = 1 := rfl; omega) rfl (Nat.le_of_ble_eq_true rfl) hc
theorem d_2_31 : decode (cd 2) 31 = .ok (.aload_n 0, 1) := by rw [cd_2]; decide +kernel
theorem e_2_31 {d : Nat} {h : mM} {T : mLs} {x : Nat} {st : List Value} : ev d 2 31 ( some (.ref x) :: T) st h = ev d 2 32 ( some (.ref x) :: T) (.ref x :: st) h := ev_of d_2_31 rfl
theorem d_2_32 : decode (cd 2) 32 = .ok (.aload_n 1, 1) := by rw [cd_2]; decide +kernel
theorem e_2_32 {d : Nat} {h : mM} {o0 : Option Value} {T : mLs} {x : Nat} {st : List Value} : ev d 2 32 (o0 :: some (.ref x) :: T) st h = ev d 2 33 (o0 :: some (.ref x) :: T) (.ref x :: st) h := ev_of d_2_32 rfl
theorem d_2_33 : decode (cd 2) 33 = .ok (.iload_n 2, 1) := by rw [cd_2]; decide +kernel
theorem e_2_33 {d : Nat} {h : mM} {o0 o1 : Option Value} {T : mLs} {x : Int32} {st : List Value} : ev d 2 33 (o0 :: o1 :: some (.int x) :: T) st h = ev d 2 34 (o0 :: o1 :: some (.int x) :: T) (.int x :: st) h := ev_of d_2_33 rfl
theorem d_2_34 : decode (cd 2) 34 = .ok (.iload_n 3, 1) := by rw [cd_2]; decide +kernel
theorem e_2_34 {d : Nat} {h : mM} {o0 o1 o2 : Option Value} {T : mLs} {x : Int32} {st : List Value} : ev d 2 34 (o0 :: o1 :: o2 :: some (.int x) :: T) st h = ev d 2 35 (o0 :: o1 :: o2 :: some (.int x) :: T) (.int x :: st) h := ev_of d_2_34 rfl
theorem d_2_35 : decode (cd 2) 35 = .ok (.invokevirtual 40, 3) := by rw [cd_2]; decide +kernel
theorem e_2_35 {d : Nat} {h : mM} {L : mLs} {st : List Value} {a : Nat} {x0 : Nat} {x1 : Int32} {x2 : Int32} (hc : mCat st ≤ 8) : ev (d + 1) 2 35 L (.int x2 :: .int x1 :: .ref x0 :: .ref a :: st) h = if mK h a = 1 then cV (ev d 6 0 [some (.ref a), some (.ref x0), some (.int x1), some (.int x2), none, none] [] h) (fun v h1 => ev (d + 1) 2 38 L (v ++ st) h1) else none := ev_cv (mj := 6) (as := [.ref x0, .int x1, .int x2]) (rest := st) d_2_35 (by decide +kernel) rfl rfl (by show _ ≤ List.length _; simp only [List.length_cons]; have : na 6 = 3 := rfl; omega) rfl (Nat.le_of_ble_eq_true rfl) hc
theorem d_2_38 : decode (cd 2) 38 = .ok (.aload_n 0, 1) := by rw [cd_2]; decide +kernel
theorem e_2_38 {d : Nat} {h : mM} {T : mLs} {x : Nat} {st : List Value} : ev d 2 38 ( some (.ref x) :: T) st h = ev d 2 39 ( some (.ref x) :: T) (.ref x :: st) h := ev_of d_2_38 rfl
theorem d_2_39 : decode (cd 2) 39 = .ok (.aload_n 1, 1) := by rw [cd_2]; decide +kernel
theorem e_2_39 {d : Nat} {h : mM} {o0 : Option Value} {T : mLs} {x : Nat} {st : List Value} : ev d 2 39 (o0 :: some (.ref x) :: T) st h = ev d 2 40 (o0 :: some (.ref x) :: T) (.ref x :: st) h := ev_of d_2_39 rfl
theorem d_2_40 : decode (cd 2) 40 = .ok (.invokevirtual 44, 3) := by rw [cd_2]; decide +kernel
theorem e_2_40 {d : Nat} {h : mM} {L : mLs} {st : List Value} {a : Nat} {x0 : Nat} (hc : mCat st ≤ 8) : ev (d + 1) 2 40 L (.ref x0 :: .ref a :: st) h = if mK h a = 1 then cV (ev d 8 0 [some (.ref a), some (.ref x0), none, none] [] h) (fun v h1 => ev (d + 1) 2 43 L (v ++ st) h1) else none := ev_cv (mj := 8) (as := [.ref x0]) (rest := st) d_2_40 (by decide +kernel) rfl rfl (by show _ ≤ List.length _; simp only [List.length_cons]; have : na 8 = 1 := rfl; omega) rfl (Nat.le_of_ble_eq_true rfl) hc
theorem d_2_43 : decode (cd 2) 43 = .ok (.return_, 1) := by rw [cd_2]; decide +kernel
theorem e_2_43 {d : Nat} {h : mM} {L : mLs} : ev d 2 43 L [] h = some (none, h) := ev_rv d_2_43 (by decide +kernel)
-- 3: Flow.passGates
theorem cd_3 : cd 3 = prog_3_method_3_code := rfl
theorem d_3_0 : decode (cd 3) 0 = .ok (.iconst 0, 1) := by rw [cd_3]; decide +kernel
theorem e_3_0 {d : Nat} {h : mM} {L : mLs} {st : List Value} : ev d 3 0 L st h = ev d 3 1 L (.int 0 :: st) h := ev_of d_3_0 rfl
theorem d_3_1 : decode (cd 3) 1 = .ok (.istore_n 3, 1) := by rw [cd_3]; decide +kernel
theorem e_3_1 {d : Nat} {h : mM} {o0 o1 o2 o3 : Option Value} {T : mLs} {x : Int32} {st : List Value} (hl : mLong o2 = false) : ev d 3 1 (o0 :: o1 :: o2 :: o3 :: T) (.int x :: st) h = ev d 3 2 (o0 :: o1 :: o2 :: some (.int x) :: T) st h := ev_st_in d_3_1 (by decide +kernel) (mS1_s (j := 2) hl)
theorem d_3_2 : decode (cd 3) 2 = .ok (.iload_n 3, 1) := by rw [cd_3]; decide +kernel
theorem e_3_2 {d : Nat} {h : mM} {o0 o1 o2 : Option Value} {T : mLs} {x : Int32} {st : List Value} : ev d 3 2 (o0 :: o1 :: o2 :: some (.int x) :: T) st h = ev d 3 3 (o0 :: o1 :: o2 :: some (.int x) :: T) (.int x :: st) h := ev_of d_3_2 rfl
theorem d_3_3 : decode (cd 3) 3 = .ok (.aload_n 0, 1) := by rw [cd_3]; decide +kernel
theorem e_3_3 {d : Nat} {h : mM} {T : mLs} {x : Nat} {st : List Value} : ev d 3 3 ( some (.ref x) :: T) st h = ev d 3 4 ( some (.ref x) :: T) (.ref x :: st) h := ev_of d_3_3 rfl
theorem d_3_4 : decode (cd 3) 4 = .ok (.getfield 28, 3) := by rw [cd_3]; decide +kernel
theorem e_3_4 {d : Nat} {h : mM} {L : mLs} {st : List Value} {a : Nat} : ev d 3 4 L (.ref a :: st) h = if mK h a = 1 then oB (mR h a 0) (fun b => ev d 3 7 L (.ref b :: st) h) else none := ev_gR d_3_4 (by decide +kernel) (by decide +kernel)
theorem d_3_7 : decode (cd 3) 7 = .ok (.getfield 47, 3) := by rw [cd_3]; decide +kernel
theorem e_3_7 {d : Nat} {h : mM} {L : mLs} {st : List Value} {a : Nat} : ev d 3 7 L (.ref a :: st) h = if mK h a = 8 then ev d 3 10 L (.int (mI h a 4) :: st) h else none := ev_gI d_3_7 (by decide +kernel) (by decide +kernel)
theorem d_3_10 : decode (cd 3) 10 = .ok (.if_icmp .ge 78, 3) := by rw [cd_3]; decide +kernel
theorem e_3_10 {d : Nat} {h : mM} {L : mLs} {st : List Value} {x y : Int32} : ev d 3 10 L (.int y :: .int x :: st) h = if y ≤ x then ev d 3 88 L st h else ev d 3 13 L st h := ev_ic (y ≤ x) inferInstance rfl d_3_10 (by decide)
theorem d_3_13 : decode (cd 3) 13 = .ok (.aload_n 0, 1) := by rw [cd_3]; decide +kernel
theorem e_3_13 {d : Nat} {h : mM} {T : mLs} {x : Nat} {st : List Value} : ev d 3 13 ( some (.ref x) :: T) st h = ev d 3 14 ( some (.ref x) :: T) (.ref x :: st) h := ev_of d_3_13 rfl
theorem d_3_14 : decode (cd 3) 14 = .ok (.getfield 28, 3) := by rw [cd_3]; decide +kernel
theorem e_3_14 {d : Nat} {h : mM} {L : mLs} {st : List Value} {a : Nat} : ev d 3 14 L (.ref a :: st) h = if mK h a = 1 then oB (mR h a 0) (fun b => ev d 3 17 L (.ref b :: st) h) else none := ev_gR d_3_14 (by decide +kernel) (by decide +kernel)
theorem d_3_17 : decode (cd 3) 17 = .ok (.getfield 52, 3) := by rw [cd_3]; decide +kernel
theorem e_3_17 {d : Nat} {h : mM} {L : mLs} {st : List Value} {a : Nat} : ev d 3 17 L (.ref a :: st) h = if mK h a = 8 then oB (mR h a 0) (fun b => ev d 3 20 L (.ref b :: st) h) else none := ev_gR d_3_17 (by decide +kernel) (by decide +kernel)
theorem d_3_20 : decode (cd 3) 20 = .ok (.iload_n 3, 1) := by rw [cd_3]; decide +kernel
theorem e_3_20 {d : Nat} {h : mM} {o0 o1 o2 : Option Value} {T : mLs} {x : Int32} {st : List Value} : ev d 3 20 (o0 :: o1 :: o2 :: some (.int x) :: T) st h = ev d 3 21 (o0 :: o1 :: o2 :: some (.int x) :: T) (.int x :: st) h := ev_of d_3_20 rfl
theorem d_3_21 : decode (cd 3) 21 = .ok (.aaload, 1) := by rw [cd_3]; decide +kernel
theorem e_3_21 {d : Nat} {h : mM} {L : mLs} {st : List Value} {a : Nat} {i : Int32} : ev d 3 21 L (.int i :: .ref a :: st) h = if (12 < mK h a ∧ mK h a < 19) ∧ ixOK i (mL h a) = true then oB (mR h a i.toNatClampNeg) (fun b => ev d 3 22 L (.ref b :: st) h) else none := ev_aa d_3_21
theorem d_3_22 : decode (cd 3) 22 = .ok (.aload_n 1, 1) := by rw [cd_3]; decide +kernel
theorem e_3_22 {d : Nat} {h : mM} {o0 : Option Value} {T : mLs} {x : Nat} {st : List Value} : ev d 3 22 (o0 :: some (.ref x) :: T) st h = ev d 3 23 (o0 :: some (.ref x) :: T) (.ref x :: st) h := ev_of d_3_22 rfl
theorem d_3_23 : decode (cd 3) 23 = .ok (.iload_n 3, 1) := by rw [cd_3]; decide +kernel
theorem e_3_23 {d : Nat} {h : mM} {o0 o1 o2 : Option Value} {T : mLs} {x : Int32} {st : List Value} : ev d 3 23 (o0 :: o1 :: o2 :: some (.int x) :: T) st h = ev d 3 24 (o0 :: o1 :: o2 :: some (.int x) :: T) (.int x :: st) h := ev_of d_3_23 rfl
theorem d_3_24 : decode (cd 3) 24 = .ok (.iaload, 1) := by rw [cd_3]; decide +kernel
theorem e_3_24 {d : Nat} {h : mM} {L : mLs} {st : List Value} {a : Nat} {i : Int32} : ev d 3 24 L (.int i :: .ref a :: st) h = if (mK h a = 11 ∨ mK h a = 19) ∧ ixOK i (mL h a) = true then ev d 3 25 L (.int (mI h a i.toNatClampNeg) :: st) h else none := ev_ia d_3_24
theorem d_3_25 : decode (cd 3) 25 = .ok (.iload_n 2, 1) := by rw [cd_3]; decide +kernel
theorem e_3_25 {d : Nat} {h : mM} {o0 o1 : Option Value} {T : mLs} {x : Int32} {st : List Value} : ev d 3 25 (o0 :: o1 :: some (.int x) :: T) st h = ev d 3 26 (o0 :: o1 :: some (.int x) :: T) (.int x :: st) h := ev_of d_3_25 rfl
theorem d_3_26 : decode (cd 3) 26 = .ok (.invokevirtual 56, 3) := by rw [cd_3]; decide +kernel
theorem e_3_26 {d : Nat} {h : mM} {L : mLs} {st : List Value} {a : Nat} {x0 : Int32} {x1 : Int32} (hc : mCat st ≤ 8) : ev (d + 1) 3 26 L (.int x1 :: .int x0 :: .ref a :: st) h = if mK h a = 3 then cV (ev d 18 0 [some (.ref a), some (.int x0), some (.int x1), none] [] h) (fun v h1 => ev (d + 1) 3 29 L (v ++ st) h1) else none := ev_cv (mj := 18) (as := [.int x0, .int x1]) (rest := st) d_3_26 (by decide +kernel) rfl rfl (by show _ ≤ List.length _; simp only [List.length_cons]; have : na 18 = 2 := rfl; omega) rfl (Nat.le_of_ble_eq_true rfl) hc
theorem d_3_29 : decode (cd 3) 29 = .ok (.istore 4, 2) := by rw [cd_3]; decide +kernel
theorem e_3_29 {d : Nat} {h : mM} {o0 o1 o2 o3 o4 : Option Value} {T : mLs} {x : Int32} {st : List Value} (hl : mLong o3 = false) : ev d 3 29 (o0 :: o1 :: o2 :: o3 :: o4 :: T) (.int x :: st) h = ev d 3 31 (o0 :: o1 :: o2 :: o3 :: some (.int x) :: T) st h := ev_st_i d_3_29 (by decide +kernel) (mS1_s (j := 3) hl)
theorem d_3_31 : decode (cd 3) 31 = .ok (.aload_n 0, 1) := by rw [cd_3]; decide +kernel
theorem e_3_31 {d : Nat} {h : mM} {T : mLs} {x : Nat} {st : List Value} : ev d 3 31 ( some (.ref x) :: T) st h = ev d 3 32 ( some (.ref x) :: T) (.ref x :: st) h := ev_of d_3_31 rfl
theorem d_3_32 : decode (cd 3) 32 = .ok (.getfield 28, 3) := by rw [cd_3]; decide +kernel
theorem e_3_32 {d : Nat} {h : mM} {L : mLs} {st : List Value} {a : Nat} : ev d 3 32 L (.ref a :: st) h = if mK h a = 1 then oB (mR h a 0) (fun b => ev d 3 35 L (.ref b :: st) h) else none := ev_gR d_3_32 (by decide +kernel) (by decide +kernel)
theorem d_3_35 : decode (cd 3) 35 = .ok (.getfield 52, 3) := by rw [cd_3]; decide +kernel
theorem e_3_35 {d : Nat} {h : mM} {L : mLs} {st : List Value} {a : Nat} : ev d 3 35 L (.ref a :: st) h = if mK h a = 8 then oB (mR h a 0) (fun b => ev d 3 38 L (.ref b :: st) h) else none := ev_gR d_3_35 (by decide +kernel) (by decide +kernel)
theorem d_3_38 : decode (cd 3) 38 = .ok (.iload_n 3, 1) := by rw [cd_3]; decide +kernel
theorem e_3_38 {d : Nat} {h : mM} {o0 o1 o2 : Option Value} {T : mLs} {x : Int32} {st : List Value} : ev d 3 38 (o0 :: o1 :: o2 :: some (.int x) :: T) st h = ev d 3 39 (o0 :: o1 :: o2 :: some (.int x) :: T) (.int x :: st) h := ev_of d_3_38 rfl
theorem d_3_39 : decode (cd 3) 39 = .ok (.aaload, 1) := by rw [cd_3]; decide +kernel
theorem e_3_39 {d : Nat} {h : mM} {L : mLs} {st : List Value} {a : Nat} {i : Int32} : ev d 3 39 L (.int i :: .ref a :: st) h = if (12 < mK h a ∧ mK h a < 19) ∧ ixOK i (mL h a) = true then oB (mR h a i.toNatClampNeg) (fun b => ev d 3 40 L (.ref b :: st) h) else none := ev_aa d_3_39
theorem d_3_40 : decode (cd 3) 40 = .ok (.aload_n 1, 1) := by rw [cd_3]; decide +kernel
theorem e_3_40 {d : Nat} {h : mM} {o0 : Option Value} {T : mLs} {x : Nat} {st : List Value} : ev d 3 40 (o0 :: some (.ref x) :: T) st h = ev d 3 41 (o0 :: some (.ref x) :: T) (.ref x :: st) h := ev_of d_3_40 rfl
theorem d_3_41 : decode (cd 3) 41 = .ok (.iload_n 3, 1) := by rw [cd_3]; decide +kernel
theorem e_3_41 {d : Nat} {h : mM} {o0 o1 o2 : Option Value} {T : mLs} {x : Int32} {st : List Value} : ev d 3 41 (o0 :: o1 :: o2 :: some (.int x) :: T) st h = ev d 3 42 (o0 :: o1 :: o2 :: some (.int x) :: T) (.int x :: st) h := ev_of d_3_41 rfl
theorem d_3_42 : decode (cd 3) 42 = .ok (.iaload, 1) := by rw [cd_3]; decide +kernel
theorem e_3_42 {d : Nat} {h : mM} {L : mLs} {st : List Value} {a : Nat} {i : Int32} : ev d 3 42 L (.int i :: .ref a :: st) h = if (mK h a = 11 ∨ mK h a = 19) ∧ ixOK i (mL h a) = true then ev d 3 43 L (.int (mI h a i.toNatClampNeg) :: st) h else none := ev_ia d_3_42
theorem d_3_43 : decode (cd 3) 43 = .ok (.iload_n 2, 1) := by rw [cd_3]; decide +kernel
theorem e_3_43 {d : Nat} {h : mM} {o0 o1 : Option Value} {T : mLs} {x : Int32} {st : List Value} : ev d 3 43 (o0 :: o1 :: some (.int x) :: T) st h = ev d 3 44 (o0 :: o1 :: some (.int x) :: T) (.int x :: st) h := ev_of d_3_43 rfl
theorem d_3_44 : decode (cd 3) 44 = .ok (.invokevirtual 62, 3) := by rw [cd_3]; decide +kernel
theorem e_3_44 {d : Nat} {h : mM} {L : mLs} {st : List Value} {a : Nat} {x0 : Int32} {x1 : Int32} (hc : mCat st ≤ 8) : ev (d + 1) 3 44 L (.int x1 :: .int x0 :: .ref a :: st) h = if mK h a = 3 then cV (ev d 19 0 [some (.ref a), some (.int x0), some (.int x1), none] [] h) (fun v h1 => ev (d + 1) 3 47 L (v ++ st) h1) else none := ev_cv (mj := 19) (as := [.int x0, .int x1]) (rest := st) d_3_44 (by decide +kernel) rfl rfl (by show _ ≤ List.length _; simp only [List.length_cons]; have : na 19 = 2 := rfl; omega) rfl (Nat.le_of_ble_eq_true rfl) hc
theorem d_3_47 : decode (cd 3) 47 = .ok (.istore 5, 2) := by rw [cd_3]; decide +kernel
theorem e_3_47 {d : Nat} {h : mM} {o0 o1 o2 o3 o4 o5 : Option Value} {T : mLs} {x : Int32} {st : List Value} (hl : mLong o4 = false) : ev d 3 47 (o0 :: o1 :: o2 :: o3 :: o4 :: o5 :: T) (.int x :: st) h = ev d 3 49 (o0 :: o1 :: o2 :: o3 :: o4 :: some (.int x) :: T) st h := ev_st_i d_3_47 (by decide +kernel) (mS1_s (j := 4) hl)
theorem d_3_49 : decode (cd 3) 49 = .ok (.aload_n 1, 1) := by rw [cd_3]; decide +kernel
theorem e_3_49 {d : Nat} {h : mM} {o0 : Option Value} {T : mLs} {x : Nat} {st : List Value} : ev d 3 49 (o0 :: some (.ref x) :: T) st h = ev d 3 50 (o0 :: some (.ref x) :: T) (.ref x :: st) h := ev_of d_3_49 rfl
theorem d_3_50 : decode (cd 3) 50 = .ok (.iload_n 3, 1) := by rw [cd_3]; decide +kernel
theorem e_3_50 {d : Nat} {h : mM} {o0 o1 o2 : Option Value} {T : mLs} {x : Int32} {st : List Value} : ev d 3 50 (o0 :: o1 :: o2 :: some (.int x) :: T) st h = ev d 3 51 (o0 :: o1 :: o2 :: some (.int x) :: T) (.int x :: st) h := ev_of d_3_50 rfl
theorem d_3_51 : decode (cd 3) 51 = .ok (.dup2, 1) := by rw [cd_3]; decide +kernel
theorem e_3_51 {d : Nat} {h : mM} {L : mLs} {st : List Value} {a : Nat} {i : Int32} : ev d 3 51 L (.int i :: .ref a :: st) h = ev d 3 52 L (.int i :: .ref a :: .int i :: .ref a :: st) h := ev_of d_3_51 rfl
theorem d_3_52 : decode (cd 3) 52 = .ok (.iaload, 1) := by rw [cd_3]; decide +kernel
theorem e_3_52 {d : Nat} {h : mM} {L : mLs} {st : List Value} {a : Nat} {i : Int32} : ev d 3 52 L (.int i :: .ref a :: st) h = if (mK h a = 11 ∨ mK h a = 19) ∧ ixOK i (mL h a) = true then ev d 3 53 L (.int (mI h a i.toNatClampNeg) :: st) h else none := ev_ia d_3_52
theorem d_3_53 : decode (cd 3) 53 = .ok (.iload 4, 2) := by rw [cd_3]; decide +kernel
theorem e_3_53 {d : Nat} {h : mM} {o0 o1 o2 o3 : Option Value} {T : mLs} {x : Int32} {st : List Value} : ev d 3 53 (o0 :: o1 :: o2 :: o3 :: some (.int x) :: T) st h = ev d 3 55 (o0 :: o1 :: o2 :: o3 :: some (.int x) :: T) (.int x :: st) h := ev_of d_3_53 rfl
theorem d_3_55 : decode (cd 3) 55 = .ok (.iload 5, 2) := by rw [cd_3]; decide +kernel
theorem e_3_55 {d : Nat} {h : mM} {o0 o1 o2 o3 o4 : Option Value} {T : mLs} {x : Int32} {st : List Value} : ev d 3 55 (o0 :: o1 :: o2 :: o3 :: o4 :: some (.int x) :: T) st h = ev d 3 57 (o0 :: o1 :: o2 :: o3 :: o4 :: some (.int x) :: T) (.int x :: st) h := ev_of d_3_55 rfl
theorem d_3_57 : decode (cd 3) 57 = .ok (.isub, 1) := by rw [cd_3]; decide +kernel
theorem e_3_57 {d : Nat} {h : mM} {L : mLs} {st : List Value} {x y : Int32} : ev d 3 57 L (.int y :: .int x :: st) h = ev d 3 58 L (.int (x - y) :: st) h := ev_of d_3_57 rfl
theorem d_3_58 : decode (cd 3) 58 = .ok (.iadd, 1) := by rw [cd_3]; decide +kernel
theorem e_3_58 {d : Nat} {h : mM} {L : mLs} {st : List Value} {x y : Int32} : ev d 3 58 L (.int y :: .int x :: st) h = ev d 3 59 L (.int (x + y) :: st) h := ev_of d_3_58 rfl
theorem d_3_59 : decode (cd 3) 59 = .ok (.iastore, 1) := by rw [cd_3]; decide +kernel
theorem e_3_59 {d : Nat} {h : mM} {L : mLs} {st : List Value} {a : Nat} {i v : Int32} : ev d 3 59 L (.int v :: .int i :: .ref a :: st) h = if mK h a = 11 ∧ ixOK i (mL h a) = true then ev d 3 60 L st (wI h a i.toNatClampNeg v) else none := ev_is d_3_59
theorem d_3_60 : decode (cd 3) 60 = .ok (.aload_n 0, 1) := by rw [cd_3]; decide +kernel
theorem e_3_60 {d : Nat} {h : mM} {T : mLs} {x : Nat} {st : List Value} : ev d 3 60 ( some (.ref x) :: T) st h = ev d 3 61 ( some (.ref x) :: T) (.ref x :: st) h := ev_of d_3_60 rfl
theorem d_3_61 : decode (cd 3) 61 = .ok (.dup, 1) := by rw [cd_3]; decide +kernel
theorem e_3_61r {d : Nat} {h : mM} {L : mLs} {st : List Value} {a : Nat} : ev d 3 61 L (.ref a :: st) h = ev d 3 62 L (.ref a :: .ref a :: st) h := ev_of d_3_61 rfl
theorem e_3_61i {d : Nat} {h : mM} {L : mLs} {st : List Value} {x : Int32} : ev d 3 61 L (.int x :: st) h = ev d 3 62 L (.int x :: .int x :: st) h := ev_of d_3_61 rfl
theorem d_3_62 : decode (cd 3) 62 = .ok (.getfield 15, 3) := by rw [cd_3]; decide +kernel
theorem e_3_62 {d : Nat} {h : mM} {L : mLs} {st : List Value} {a : Nat} : ev d 3 62 L (.ref a :: st) h = if mK h a = 1 then ev d 3 65 L (.int (mI h a 2) :: st) h else none := ev_gI d_3_62 (by decide +kernel) (by decide +kernel)
theorem d_3_65 : decode (cd 3) 65 = .ok (.iload 4, 2) := by rw [cd_3]; decide +kernel
theorem e_3_65 {d : Nat} {h : mM} {o0 o1 o2 o3 : Option Value} {T : mLs} {x : Int32} {st : List Value} : ev d 3 65 (o0 :: o1 :: o2 :: o3 :: some (.int x) :: T) st h = ev d 3 67 (o0 :: o1 :: o2 :: o3 :: some (.int x) :: T) (.int x :: st) h := ev_of d_3_65 rfl
theorem d_3_67 : decode (cd 3) 67 = .ok (.iadd, 1) := by rw [cd_3]; decide +kernel
theorem e_3_67 {d : Nat} {h : mM} {L : mLs} {st : List Value} {x y : Int32} : ev d 3 67 L (.int y :: .int x :: st) h = ev d 3 68 L (.int (x + y) :: st) h := ev_of d_3_67 rfl
theorem d_3_68 : decode (cd 3) 68 = .ok (.putfield 15, 3) := by rw [cd_3]; decide +kernel
theorem e_3_68 {d : Nat} {h : mM} {L : mLs} {st : List Value} {a : Nat} {v : Int32} : ev d 3 68 L (.int v :: .ref a :: st) h = if mK h a = 1 then ev d 3 71 L st (wI h a 2 v) else none := ev_pI d_3_68 (by decide +kernel) (by decide +kernel) (by decide +kernel)
theorem d_3_71 : decode (cd 3) 71 = .ok (.aload_n 0, 1) := by rw [cd_3]; decide +kernel
theorem e_3_71 {d : Nat} {h : mM} {T : mLs} {x : Nat} {st : List Value} : ev d 3 71 ( some (.ref x) :: T) st h = ev d 3 72 ( some (.ref x) :: T) (.ref x :: st) h := ev_of d_3_71 rfl
theorem d_3_72 : decode (cd 3) 72 = .ok (.dup, 1) := by rw [cd_3]; decide +kernel
theorem e_3_72r {d : Nat} {h : mM} {L : mLs} {st : List Value} {a : Nat} : ev d 3 72 L (.ref a :: st) h = ev d 3 73 L (.ref a :: .ref a :: st) h := ev_of d_3_72 rfl
theorem e_3_72i {d : Nat} {h : mM} {L : mLs} {st : List Value} {x : Int32} : ev d 3 72 L (.int x :: st) h = ev d 3 73 L (.int x :: .int x :: st) h := ev_of d_3_72 rfl
theorem d_3_73 : decode (cd 3) 73 = .ok (.getfield 19, 3) := by rw [cd_3]; decide +kernel
theorem e_3_73 {d : Nat} {h : mM} {L : mLs} {st : List Value} {a : Nat} : ev d 3 73 L (.ref a :: st) h = if mK h a = 1 then ev d 3 76 L (.int (mI h a 3) :: st) h else none := ev_gI d_3_73 (by decide +kernel) (by decide +kernel)
theorem d_3_76 : decode (cd 3) 76 = .ok (.iload 5, 2) := by rw [cd_3]; decide +kernel
theorem e_3_76 {d : Nat} {h : mM} {o0 o1 o2 o3 o4 : Option Value} {T : mLs} {x : Int32} {st : List Value} : ev d 3 76 (o0 :: o1 :: o2 :: o3 :: o4 :: some (.int x) :: T) st h = ev d 3 78 (o0 :: o1 :: o2 :: o3 :: o4 :: some (.int x) :: T) (.int x :: st) h := ev_of d_3_76 rfl
theorem d_3_78 : decode (cd 3) 78 = .ok (.iadd, 1) := by rw [cd_3]; decide +kernel
theorem e_3_78 {d : Nat} {h : mM} {L : mLs} {st : List Value} {x y : Int32} : ev d 3 78 L (.int y :: .int x :: st) h = ev d 3 79 L (.int (x + y) :: st) h := ev_of d_3_78 rfl
theorem d_3_79 : decode (cd 3) 79 = .ok (.putfield 19, 3) := by rw [cd_3]; decide +kernel
theorem e_3_79 {d : Nat} {h : mM} {L : mLs} {st : List Value} {a : Nat} {v : Int32} : ev d 3 79 L (.int v :: .ref a :: st) h = if mK h a = 1 then ev d 3 82 L st (wI h a 3 v) else none := ev_pI d_3_79 (by decide +kernel) (by decide +kernel) (by decide +kernel)
theorem d_3_82 : decode (cd 3) 82 = .ok (.iinc 3 1, 3) := by rw [cd_3]; decide +kernel
theorem e_3_82 {d : Nat} {h : mM} {o0 o1 o2 : Option Value} {T : mLs} {x : Int32} {st : List Value} (hl : mLong o2 = false) : ev d 3 82 (o0 :: o1 :: o2 :: some (.int x) :: T) st h = ev d 3 85 (o0 :: o1 :: o2 :: some (.int (x + 1)) :: T) st h := ev_inc d_3_82 (by decide +kernel) rfl rfl (mS1_s (j := 2) hl)
theorem d_3_85 : decode (cd 3) 85 = .ok (.goto (-83), 3) := by rw [cd_3]; decide +kernel
theorem e_3_85 {d : Nat} {h : mM} {L : mLs} {st : List Value} : ev d 3 85 L st h = ev d 3 2 L st h := ev_go d_3_85 (by decide)
theorem d_3_88 : decode (cd 3) 88 = .ok (.return_, 1) := by rw [cd_3]; decide +kernel
theorem e_3_88 {d : Nat} {h : mM} {L : mLs} : ev d 3 88 L [] h = some (none, h) := ev_rv d_3_88 (by decide +kernel)
-- 4: Flow.passChannels
theorem cd_4 : cd 4 = prog_3_method_4_code := rfl
theorem d_4_0 : decode (cd 4) 0 = .ok (.iconst 0, 1) := by rw [cd_4]; decide +kernel
theorem e_4_0 {d : Nat} {h : mM} {L : mLs} {st : List Value} : ev d 4 0 L st h = ev d 4 1 L (.int 0 :: st) h := ev_of d_4_0 rfl
theorem d_4_1 : decode (cd 4) 1 = .ok (.istore_n 2, 1) := by rw [cd_4]; decide +kernel
theorem e_4_1 {d : Nat} {h : mM} {o0 o1 o2 : Option Value} {T : mLs} {x : Int32} {st : List Value} (hl : mLong o1 = false) : ev d 4 1 (o0 :: o1 :: o2 :: T) (.int x :: st) h = ev d 4 2 (o0 :: o1 :: some (.int x) :: T) st h := ev_st_in d_4_1 (by decide +kernel) (mS1_s (j := 1) hl)
theorem d_4_2 : decode (cd 4) 2 = .ok (.iload_n 2, 1) := by rw [cd_4]; decide +kernel
theorem e_4_2 {d : Nat} {h : mM} {o0 o1 : Option Value} {T : mLs} {x : Int32} {st : List Value} : ev d 4 2 (o0 :: o1 :: some (.int x) :: T) st h = ev d 4 3 (o0 :: o1 :: some (.int x) :: T) (.int x :: st) h := ev_of d_4_2 rfl
theorem d_4_3 : decode (cd 4) 3 = .ok (.aload_n 0, 1) := by rw [cd_4]; decide +kernel
theorem e_4_3 {d : Nat} {h : mM} {T : mLs} {x : Nat} {st : List Value} : ev d 4 3 ( some (.ref x) :: T) st h = ev d 4 4 ( some (.ref x) :: T) (.ref x :: st) h := ev_of d_4_3 rfl
theorem d_4_4 : decode (cd 4) 4 = .ok (.getfield 28, 3) := by rw [cd_4]; decide +kernel
theorem e_4_4 {d : Nat} {h : mM} {L : mLs} {st : List Value} {a : Nat} : ev d 4 4 L (.ref a :: st) h = if mK h a = 1 then oB (mR h a 0) (fun b => ev d 4 7 L (.ref b :: st) h) else none := ev_gR d_4_4 (by decide +kernel) (by decide +kernel)
theorem d_4_7 : decode (cd 4) 7 = .ok (.getfield 65, 3) := by rw [cd_4]; decide +kernel
theorem e_4_7 {d : Nat} {h : mM} {L : mLs} {st : List Value} {a : Nat} : ev d 4 7 L (.ref a :: st) h = if mK h a = 8 then ev d 4 10 L (.int (mI h a 5) :: st) h else none := ev_gI d_4_7 (by decide +kernel) (by decide +kernel)
theorem d_4_10 : decode (cd 4) 10 = .ok (.if_icmp .ge 128, 3) := by rw [cd_4]; decide +kernel
theorem e_4_10 {d : Nat} {h : mM} {L : mLs} {st : List Value} {x y : Int32} : ev d 4 10 L (.int y :: .int x :: st) h = if y ≤ x then ev d 4 138 L st h else ev d 4 13 L st h := ev_ic (y ≤ x) inferInstance rfl d_4_10 (by decide)
theorem d_4_13 : decode (cd 4) 13 = .ok (.aload_n 0, 1) := by rw [cd_4]; decide +kernel
theorem e_4_13 {d : Nat} {h : mM} {T : mLs} {x : Nat} {st : List Value} : ev d 4 13 ( some (.ref x) :: T) st h = ev d 4 14 ( some (.ref x) :: T) (.ref x :: st) h := ev_of d_4_13 rfl
theorem d_4_14 : decode (cd 4) 14 = .ok (.getfield 28, 3) := by rw [cd_4]; decide +kernel
theorem e_4_14 {d : Nat} {h : mM} {L : mLs} {st : List Value} {a : Nat} : ev d 4 14 L (.ref a :: st) h = if mK h a = 1 then oB (mR h a 0) (fun b => ev d 4 17 L (.ref b :: st) h) else none := ev_gR d_4_14 (by decide +kernel) (by decide +kernel)
theorem d_4_17 : decode (cd 4) 17 = .ok (.getfield 68, 3) := by rw [cd_4]; decide +kernel
theorem e_4_17 {d : Nat} {h : mM} {L : mLs} {st : List Value} {a : Nat} : ev d 4 17 L (.ref a :: st) h = if mK h a = 8 then oB (mR h a 1) (fun b => ev d 4 20 L (.ref b :: st) h) else none := ev_gR d_4_17 (by decide +kernel) (by decide +kernel)
theorem d_4_20 : decode (cd 4) 20 = .ok (.iload_n 2, 1) := by rw [cd_4]; decide +kernel
theorem e_4_20 {d : Nat} {h : mM} {o0 o1 : Option Value} {T : mLs} {x : Int32} {st : List Value} : ev d 4 20 (o0 :: o1 :: some (.int x) :: T) st h = ev d 4 21 (o0 :: o1 :: some (.int x) :: T) (.int x :: st) h := ev_of d_4_20 rfl
theorem d_4_21 : decode (cd 4) 21 = .ok (.aaload, 1) := by rw [cd_4]; decide +kernel
theorem e_4_21 {d : Nat} {h : mM} {L : mLs} {st : List Value} {a : Nat} {i : Int32} : ev d 4 21 L (.int i :: .ref a :: st) h = if (12 < mK h a ∧ mK h a < 19) ∧ ixOK i (mL h a) = true then oB (mR h a i.toNatClampNeg) (fun b => ev d 4 22 L (.ref b :: st) h) else none := ev_aa d_4_21
theorem d_4_22 : decode (cd 4) 22 = .ok (.astore_n 3, 1) := by rw [cd_4]; decide +kernel
theorem e_4_22 {d : Nat} {h : mM} {o0 o1 o2 o3 : Option Value} {T : mLs} {x : Nat} {st : List Value} (hl : mLong o2 = false) : ev d 4 22 (o0 :: o1 :: o2 :: o3 :: T) (.ref x :: st) h = ev d 4 23 (o0 :: o1 :: o2 :: some (.ref x) :: T) st h := ev_st_rn d_4_22 (by decide +kernel) (mS1_s (j := 2) hl)
theorem d_4_23 : decode (cd 4) 23 = .ok (.aload_n 0, 1) := by rw [cd_4]; decide +kernel
theorem e_4_23 {d : Nat} {h : mM} {T : mLs} {x : Nat} {st : List Value} : ev d 4 23 ( some (.ref x) :: T) st h = ev d 4 24 ( some (.ref x) :: T) (.ref x :: st) h := ev_of d_4_23 rfl
theorem d_4_24 : decode (cd 4) 24 = .ok (.getfield 28, 3) := by rw [cd_4]; decide +kernel
theorem e_4_24 {d : Nat} {h : mM} {L : mLs} {st : List Value} {a : Nat} : ev d 4 24 L (.ref a :: st) h = if mK h a = 1 then oB (mR h a 0) (fun b => ev d 4 27 L (.ref b :: st) h) else none := ev_gR d_4_24 (by decide +kernel) (by decide +kernel)
theorem d_4_27 : decode (cd 4) 27 = .ok (.getfield 52, 3) := by rw [cd_4]; decide +kernel
theorem e_4_27 {d : Nat} {h : mM} {L : mLs} {st : List Value} {a : Nat} : ev d 4 27 L (.ref a :: st) h = if mK h a = 8 then oB (mR h a 0) (fun b => ev d 4 30 L (.ref b :: st) h) else none := ev_gR d_4_27 (by decide +kernel) (by decide +kernel)
theorem d_4_30 : decode (cd 4) 30 = .ok (.aload_n 3, 1) := by rw [cd_4]; decide +kernel
theorem e_4_30 {d : Nat} {h : mM} {o0 o1 o2 : Option Value} {T : mLs} {x : Nat} {st : List Value} : ev d 4 30 (o0 :: o1 :: o2 :: some (.ref x) :: T) st h = ev d 4 31 (o0 :: o1 :: o2 :: some (.ref x) :: T) (.ref x :: st) h := ev_of d_4_30 rfl
theorem d_4_31 : decode (cd 4) 31 = .ok (.getfield 72, 3) := by rw [cd_4]; decide +kernel
theorem e_4_31 {d : Nat} {h : mM} {L : mLs} {st : List Value} {a : Nat} : ev d 4 31 L (.ref a :: st) h = if mK h a = 0 then ev d 4 34 L (.int (mI h a 0) :: st) h else none := ev_gI d_4_31 (by decide +kernel) (by decide +kernel)
theorem d_4_34 : decode (cd 4) 34 = .ok (.aaload, 1) := by rw [cd_4]; decide +kernel
theorem e_4_34 {d : Nat} {h : mM} {L : mLs} {st : List Value} {a : Nat} {i : Int32} : ev d 4 34 L (.int i :: .ref a :: st) h = if (12 < mK h a ∧ mK h a < 19) ∧ ixOK i (mL h a) = true then oB (mR h a i.toNatClampNeg) (fun b => ev d 4 35 L (.ref b :: st) h) else none := ev_aa d_4_34
theorem d_4_35 : decode (cd 4) 35 = .ok (.aload_n 1, 1) := by rw [cd_4]; decide +kernel
theorem e_4_35 {d : Nat} {h : mM} {o0 : Option Value} {T : mLs} {x : Nat} {st : List Value} : ev d 4 35 (o0 :: some (.ref x) :: T) st h = ev d 4 36 (o0 :: some (.ref x) :: T) (.ref x :: st) h := ev_of d_4_35 rfl
theorem d_4_36 : decode (cd 4) 36 = .ok (.aload_n 3, 1) := by rw [cd_4]; decide +kernel
theorem e_4_36 {d : Nat} {h : mM} {o0 o1 o2 : Option Value} {T : mLs} {x : Nat} {st : List Value} : ev d 4 36 (o0 :: o1 :: o2 :: some (.ref x) :: T) st h = ev d 4 37 (o0 :: o1 :: o2 :: some (.ref x) :: T) (.ref x :: st) h := ev_of d_4_36 rfl
theorem d_4_37 : decode (cd 4) 37 = .ok (.getfield 72, 3) := by rw [cd_4]; decide +kernel
theorem e_4_37 {d : Nat} {h : mM} {L : mLs} {st : List Value} {a : Nat} : ev d 4 37 L (.ref a :: st) h = if mK h a = 0 then ev d 4 40 L (.int (mI h a 0) :: st) h else none := ev_gI d_4_37 (by decide +kernel) (by decide +kernel)
theorem d_4_40 : decode (cd 4) 40 = .ok (.iaload, 1) := by rw [cd_4]; decide +kernel
theorem e_4_40 {d : Nat} {h : mM} {L : mLs} {st : List Value} {a : Nat} {i : Int32} : ev d 4 40 L (.int i :: .ref a :: st) h = if (mK h a = 11 ∨ mK h a = 19) ∧ ixOK i (mL h a) = true then ev d 4 41 L (.int (mI h a i.toNatClampNeg) :: st) h else none := ev_ia d_4_40
theorem d_4_41 : decode (cd 4) 41 = .ok (.invokevirtual 77, 3) := by rw [cd_4]; decide +kernel
theorem e_4_41 {d : Nat} {h : mM} {L : mLs} {st : List Value} {a : Nat} {x0 : Int32} (hc : mCat st ≤ 8) : ev (d + 1) 4 41 L (.int x0 :: .ref a :: st) h = if mK h a = 3 then cV (ev d 16 0 [some (.ref a), some (.int x0)] [] h) (fun v h1 => ev (d + 1) 4 44 L (v ++ st) h1) else none := ev_cv (mj := 16) (as := [.int x0]) (rest := st) d_4_41 (by decide +kernel) rfl rfl (by show _ ≤ List.length _; simp only [List.length_cons]; have : na 16 = 1 := rfl; omega) rfl (Nat.le_of_ble_eq_true rfl) hc
theorem d_4_44 : decode (cd 4) 44 = .ok (.istore 4, 2) := by rw [cd_4]; decide +kernel
theorem e_4_44 {d : Nat} {h : mM} {o0 o1 o2 o3 o4 : Option Value} {T : mLs} {x : Int32} {st : List Value} (hl : mLong o3 = false) : ev d 4 44 (o0 :: o1 :: o2 :: o3 :: o4 :: T) (.int x :: st) h = ev d 4 46 (o0 :: o1 :: o2 :: o3 :: some (.int x) :: T) st h := ev_st_i d_4_44 (by decide +kernel) (mS1_s (j := 3) hl)
theorem d_4_46 : decode (cd 4) 46 = .ok (.aload_n 0, 1) := by rw [cd_4]; decide +kernel
theorem e_4_46 {d : Nat} {h : mM} {T : mLs} {x : Nat} {st : List Value} : ev d 4 46 ( some (.ref x) :: T) st h = ev d 4 47 ( some (.ref x) :: T) (.ref x :: st) h := ev_of d_4_46 rfl
theorem d_4_47 : decode (cd 4) 47 = .ok (.getfield 28, 3) := by rw [cd_4]; decide +kernel
theorem e_4_47 {d : Nat} {h : mM} {L : mLs} {st : List Value} {a : Nat} : ev d 4 47 L (.ref a :: st) h = if mK h a = 1 then oB (mR h a 0) (fun b => ev d 4 50 L (.ref b :: st) h) else none := ev_gR d_4_47 (by decide +kernel) (by decide +kernel)
theorem d_4_50 : decode (cd 4) 50 = .ok (.getfield 52, 3) := by rw [cd_4]; decide +kernel
theorem e_4_50 {d : Nat} {h : mM} {L : mLs} {st : List Value} {a : Nat} : ev d 4 50 L (.ref a :: st) h = if mK h a = 8 then oB (mR h a 0) (fun b => ev d 4 53 L (.ref b :: st) h) else none := ev_gR d_4_50 (by decide +kernel) (by decide +kernel)
theorem d_4_53 : decode (cd 4) 53 = .ok (.aload_n 3, 1) := by rw [cd_4]; decide +kernel
theorem e_4_53 {d : Nat} {h : mM} {o0 o1 o2 : Option Value} {T : mLs} {x : Nat} {st : List Value} : ev d 4 53 (o0 :: o1 :: o2 :: some (.ref x) :: T) st h = ev d 4 54 (o0 :: o1 :: o2 :: some (.ref x) :: T) (.ref x :: st) h := ev_of d_4_53 rfl
theorem d_4_54 : decode (cd 4) 54 = .ok (.getfield 81, 3) := by rw [cd_4]; decide +kernel
theorem e_4_54 {d : Nat} {h : mM} {L : mLs} {st : List Value} {a : Nat} : ev d 4 54 L (.ref a :: st) h = if mK h a = 0 then ev d 4 57 L (.int (mI h a 1) :: st) h else none := ev_gI d_4_54 (by decide +kernel) (by decide +kernel)
theorem d_4_57 : decode (cd 4) 57 = .ok (.aaload, 1) := by rw [cd_4]; decide +kernel
theorem e_4_57 {d : Nat} {h : mM} {L : mLs} {st : List Value} {a : Nat} {i : Int32} : ev d 4 57 L (.int i :: .ref a :: st) h = if (12 < mK h a ∧ mK h a < 19) ∧ ixOK i (mL h a) = true then oB (mR h a i.toNatClampNeg) (fun b => ev d 4 58 L (.ref b :: st) h) else none := ev_aa d_4_57
theorem d_4_58 : decode (cd 4) 58 = .ok (.aload_n 1, 1) := by rw [cd_4]; decide +kernel
theorem e_4_58 {d : Nat} {h : mM} {o0 : Option Value} {T : mLs} {x : Nat} {st : List Value} : ev d 4 58 (o0 :: some (.ref x) :: T) st h = ev d 4 59 (o0 :: some (.ref x) :: T) (.ref x :: st) h := ev_of d_4_58 rfl
theorem d_4_59 : decode (cd 4) 59 = .ok (.aload_n 3, 1) := by rw [cd_4]; decide +kernel
theorem e_4_59 {d : Nat} {h : mM} {o0 o1 o2 : Option Value} {T : mLs} {x : Nat} {st : List Value} : ev d 4 59 (o0 :: o1 :: o2 :: some (.ref x) :: T) st h = ev d 4 60 (o0 :: o1 :: o2 :: some (.ref x) :: T) (.ref x :: st) h := ev_of d_4_59 rfl
theorem d_4_60 : decode (cd 4) 60 = .ok (.getfield 81, 3) := by rw [cd_4]; decide +kernel
theorem e_4_60 {d : Nat} {h : mM} {L : mLs} {st : List Value} {a : Nat} : ev d 4 60 L (.ref a :: st) h = if mK h a = 0 then ev d 4 63 L (.int (mI h a 1) :: st) h else none := ev_gI d_4_60 (by decide +kernel) (by decide +kernel)
theorem d_4_63 : decode (cd 4) 63 = .ok (.iaload, 1) := by rw [cd_4]; decide +kernel
theorem e_4_63 {d : Nat} {h : mM} {L : mLs} {st : List Value} {a : Nat} {i : Int32} : ev d 4 63 L (.int i :: .ref a :: st) h = if (mK h a = 11 ∨ mK h a = 19) ∧ ixOK i (mL h a) = true then ev d 4 64 L (.int (mI h a i.toNatClampNeg) :: st) h else none := ev_ia d_4_63
theorem d_4_64 : decode (cd 4) 64 = .ok (.invokevirtual 77, 3) := by rw [cd_4]; decide +kernel
theorem e_4_64 {d : Nat} {h : mM} {L : mLs} {st : List Value} {a : Nat} {x0 : Int32} (hc : mCat st ≤ 8) : ev (d + 1) 4 64 L (.int x0 :: .ref a :: st) h = if mK h a = 3 then cV (ev d 16 0 [some (.ref a), some (.int x0)] [] h) (fun v h1 => ev (d + 1) 4 67 L (v ++ st) h1) else none := ev_cv (mj := 16) (as := [.int x0]) (rest := st) d_4_64 (by decide +kernel) rfl rfl (by show _ ≤ List.length _; simp only [List.length_cons]; have : na 16 = 1 := rfl; omega) rfl (Nat.le_of_ble_eq_true rfl) hc
theorem d_4_67 : decode (cd 4) 67 = .ok (.istore 5, 2) := by rw [cd_4]; decide +kernel
theorem e_4_67 {d : Nat} {h : mM} {o0 o1 o2 o3 o4 o5 : Option Value} {T : mLs} {x : Int32} {st : List Value} (hl : mLong o4 = false) : ev d 4 67 (o0 :: o1 :: o2 :: o3 :: o4 :: o5 :: T) (.int x :: st) h = ev d 4 69 (o0 :: o1 :: o2 :: o3 :: o4 :: some (.int x) :: T) st h := ev_st_i d_4_67 (by decide +kernel) (mS1_s (j := 4) hl)
theorem d_4_69 : decode (cd 4) 69 = .ok (.iload 4, 2) := by rw [cd_4]; decide +kernel
theorem e_4_69 {d : Nat} {h : mM} {o0 o1 o2 o3 : Option Value} {T : mLs} {x : Int32} {st : List Value} : ev d 4 69 (o0 :: o1 :: o2 :: o3 :: some (.int x) :: T) st h = ev d 4 71 (o0 :: o1 :: o2 :: o3 :: some (.int x) :: T) (.int x :: st) h := ev_of d_4_69 rfl
theorem d_4_71 : decode (cd 4) 71 = .ok (.iload 5, 2) := by rw [cd_4]; decide +kernel
theorem e_4_71 {d : Nat} {h : mM} {o0 o1 o2 o3 o4 : Option Value} {T : mLs} {x : Int32} {st : List Value} : ev d 4 71 (o0 :: o1 :: o2 :: o3 :: o4 :: some (.int x) :: T) st h = ev d 4 73 (o0 :: o1 :: o2 :: o3 :: o4 :: some (.int x) :: T) (.int x :: st) h := ev_of d_4_71 rfl
theorem d_4_73 : decode (cd 4) 73 = .ok (.if_icmp .le 29, 3) := by rw [cd_4]; decide +kernel
theorem e_4_73 {d : Nat} {h : mM} {L : mLs} {st : List Value} {x y : Int32} : ev d 4 73 L (.int y :: .int x :: st) h = if x ≤ y then ev d 4 102 L st h else ev d 4 76 L st h := ev_ic (x ≤ y) inferInstance rfl d_4_73 (by decide)
theorem d_4_76 : decode (cd 4) 76 = .ok (.aload_n 0, 1) := by rw [cd_4]; decide +kernel
theorem e_4_76 {d : Nat} {h : mM} {T : mLs} {x : Nat} {st : List Value} : ev d 4 76 ( some (.ref x) :: T) st h = ev d 4 77 ( some (.ref x) :: T) (.ref x :: st) h := ev_of d_4_76 rfl
theorem d_4_77 : decode (cd 4) 77 = .ok (.aload_n 1, 1) := by rw [cd_4]; decide +kernel
theorem e_4_77 {d : Nat} {h : mM} {o0 : Option Value} {T : mLs} {x : Nat} {st : List Value} : ev d 4 77 (o0 :: some (.ref x) :: T) st h = ev d 4 78 (o0 :: some (.ref x) :: T) (.ref x :: st) h := ev_of d_4_77 rfl
theorem d_4_78 : decode (cd 4) 78 = .ok (.aload_n 3, 1) := by rw [cd_4]; decide +kernel
theorem e_4_78 {d : Nat} {h : mM} {o0 o1 o2 : Option Value} {T : mLs} {x : Nat} {st : List Value} : ev d 4 78 (o0 :: o1 :: o2 :: some (.ref x) :: T) st h = ev d 4 79 (o0 :: o1 :: o2 :: some (.ref x) :: T) (.ref x :: st) h := ev_of d_4_78 rfl
theorem d_4_79 : decode (cd 4) 79 = .ok (.getfield 72, 3) := by rw [cd_4]; decide +kernel
theorem e_4_79 {d : Nat} {h : mM} {L : mLs} {st : List Value} {a : Nat} : ev d 4 79 L (.ref a :: st) h = if mK h a = 0 then ev d 4 82 L (.int (mI h a 0) :: st) h else none := ev_gI d_4_79 (by decide +kernel) (by decide +kernel)
theorem d_4_82 : decode (cd 4) 82 = .ok (.aload_n 3, 1) := by rw [cd_4]; decide +kernel
theorem e_4_82 {d : Nat} {h : mM} {o0 o1 o2 : Option Value} {T : mLs} {x : Nat} {st : List Value} : ev d 4 82 (o0 :: o1 :: o2 :: some (.ref x) :: T) st h = ev d 4 83 (o0 :: o1 :: o2 :: some (.ref x) :: T) (.ref x :: st) h := ev_of d_4_82 rfl
theorem d_4_83 : decode (cd 4) 83 = .ok (.getfield 81, 3) := by rw [cd_4]; decide +kernel
theorem e_4_83 {d : Nat} {h : mM} {L : mLs} {st : List Value} {a : Nat} : ev d 4 83 L (.ref a :: st) h = if mK h a = 0 then ev d 4 86 L (.int (mI h a 1) :: st) h else none := ev_gI d_4_83 (by decide +kernel) (by decide +kernel)
theorem d_4_86 : decode (cd 4) 86 = .ok (.aload_n 3, 1) := by rw [cd_4]; decide +kernel
theorem e_4_86 {d : Nat} {h : mM} {o0 o1 o2 : Option Value} {T : mLs} {x : Nat} {st : List Value} : ev d 4 86 (o0 :: o1 :: o2 :: some (.ref x) :: T) st h = ev d 4 87 (o0 :: o1 :: o2 :: some (.ref x) :: T) (.ref x :: st) h := ev_of d_4_86 rfl
theorem d_4_87 : decode (cd 4) 87 = .ok (.getfield 84, 3) := by rw [cd_4]; decide +kernel
theorem e_4_87 {d : Nat} {h : mM} {L : mLs} {st : List Value} {a : Nat} : ev d 4 87 L (.ref a :: st) h = if mK h a = 0 then ev d 4 90 L (.int (mI h a 2) :: st) h else none := ev_gI d_4_87 (by decide +kernel) (by decide +kernel)
theorem d_4_90 : decode (cd 4) 90 = .ok (.iload 4, 2) := by rw [cd_4]; decide +kernel
theorem e_4_90 {d : Nat} {h : mM} {o0 o1 o2 o3 : Option Value} {T : mLs} {x : Int32} {st : List Value} : ev d 4 90 (o0 :: o1 :: o2 :: o3 :: some (.int x) :: T) st h = ev d 4 92 (o0 :: o1 :: o2 :: o3 :: some (.int x) :: T) (.int x :: st) h := ev_of d_4_90 rfl
theorem d_4_92 : decode (cd 4) 92 = .ok (.iload 5, 2) := by rw [cd_4]; decide +kernel
theorem e_4_92 {d : Nat} {h : mM} {o0 o1 o2 o3 o4 : Option Value} {T : mLs} {x : Int32} {st : List Value} : ev d 4 92 (o0 :: o1 :: o2 :: o3 :: o4 :: some (.int x) :: T) st h = ev d 4 94 (o0 :: o1 :: o2 :: o3 :: o4 :: some (.int x) :: T) (.int x :: st) h := ev_of d_4_92 rfl
theorem d_4_94 : decode (cd 4) 94 = .ok (.isub, 1) := by rw [cd_4]; decide +kernel
theorem e_4_94 {d : Nat} {h : mM} {L : mLs} {st : List Value} {x y : Int32} : ev d 4 94 L (.int y :: .int x :: st) h = ev d 4 95 L (.int (x - y) :: st) h := ev_of d_4_94 rfl
theorem d_4_95 : decode (cd 4) 95 = .ok (.imul, 1) := by rw [cd_4]; decide +kernel
theorem e_4_95 {d : Nat} {h : mM} {L : mLs} {st : List Value} {x y : Int32} : ev d 4 95 L (.int y :: .int x :: st) h = ev d 4 96 L (.int (x * y) :: st) h := ev_of d_4_95 rfl
theorem d_4_96 : decode (cd 4) 96 = .ok (.invokevirtual 87, 3) := by rw [cd_4]; decide +kernel
theorem e_4_96 {d : Nat} {h : mM} {L : mLs} {st : List Value} {a : Nat} {x0 : Nat} {x1 : Int32} {x2 : Int32} {x3 : Int32} (hc : mCat st ≤ 8) : ev (d + 1) 4 96 L (.int x3 :: .int x2 :: .int x1 :: .ref x0 :: .ref a :: st) h = if mK h a = 1 then cV (ev d 5 0 [some (.ref a), some (.ref x0), some (.int x1), some (.int x2), some (.int x3), none, none, none, none] [] h) (fun v h1 => ev (d + 1) 4 99 L (v ++ st) h1) else none := ev_cv (mj := 5) (as := [.ref x0, .int x1, .int x2, .int x3]) (rest := st) d_4_96 (by decide +kernel) rfl rfl (by show _ ≤ List.length _; simp only [List.length_cons]; have : na 5 = 4 := rfl; omega) rfl (Nat.le_of_ble_eq_true rfl) hc
theorem d_4_99 : decode (cd 4) 99 = .ok (.goto 33, 3) := by rw [cd_4]; decide +kernel
theorem e_4_99 {d : Nat} {h : mM} {L : mLs} {st : List Value} : ev d 4 99 L st h = ev d 4 132 L st h := ev_go d_4_99 (by decide)
theorem d_4_102 : decode (cd 4) 102 = .ok (.iload 5, 2) := by rw [cd_4]; decide +kernel
theorem e_4_102 {d : Nat} {h : mM} {o0 o1 o2 o3 o4 : Option Value} {T : mLs} {x : Int32} {st : List Value} : ev d 4 102 (o0 :: o1 :: o2 :: o3 :: o4 :: some (.int x) :: T) st h = ev d 4 104 (o0 :: o1 :: o2 :: o3 :: o4 :: some (.int x) :: T) (.int x :: st) h := ev_of d_4_102 rfl
theorem d_4_104 : decode (cd 4) 104 = .ok (.iload 4, 2) := by rw [cd_4]; decide +kernel
theorem e_4_104 {d : Nat} {h : mM} {o0 o1 o2 o3 : Option Value} {T : mLs} {x : Int32} {st : List Value} : ev d 4 104 (o0 :: o1 :: o2 :: o3 :: some (.int x) :: T) st h = ev d 4 106 (o0 :: o1 :: o2 :: o3 :: some (.int x) :: T) (.int x :: st) h := ev_of d_4_104 rfl
theorem d_4_106 : decode (cd 4) 106 = .ok (.if_icmp .le 26, 3) := by rw [cd_4]; decide +kernel
theorem e_4_106 {d : Nat} {h : mM} {L : mLs} {st : List Value} {x y : Int32} : ev d 4 106 L (.int y :: .int x :: st) h = if x ≤ y then ev d 4 132 L st h else ev d 4 109 L st h := ev_ic (x ≤ y) inferInstance rfl d_4_106 (by decide)
theorem d_4_109 : decode (cd 4) 109 = .ok (.aload_n 0, 1) := by rw [cd_4]; decide +kernel
theorem e_4_109 {d : Nat} {h : mM} {T : mLs} {x : Nat} {st : List Value} : ev d 4 109 ( some (.ref x) :: T) st h = ev d 4 110 ( some (.ref x) :: T) (.ref x :: st) h := ev_of d_4_109 rfl
theorem d_4_110 : decode (cd 4) 110 = .ok (.aload_n 1, 1) := by rw [cd_4]; decide +kernel
theorem e_4_110 {d : Nat} {h : mM} {o0 : Option Value} {T : mLs} {x : Nat} {st : List Value} : ev d 4 110 (o0 :: some (.ref x) :: T) st h = ev d 4 111 (o0 :: some (.ref x) :: T) (.ref x :: st) h := ev_of d_4_110 rfl
theorem d_4_111 : decode (cd 4) 111 = .ok (.aload_n 3, 1) := by rw [cd_4]; decide +kernel
theorem e_4_111 {d : Nat} {h : mM} {o0 o1 o2 : Option Value} {T : mLs} {x : Nat} {st : List Value} : ev d 4 111 (o0 :: o1 :: o2 :: some (.ref x) :: T) st h = ev d 4 112 (o0 :: o1 :: o2 :: some (.ref x) :: T) (.ref x :: st) h := ev_of d_4_111 rfl
theorem d_4_112 : decode (cd 4) 112 = .ok (.getfield 81, 3) := by rw [cd_4]; decide +kernel
theorem e_4_112 {d : Nat} {h : mM} {L : mLs} {st : List Value} {a : Nat} : ev d 4 112 L (.ref a :: st) h = if mK h a = 0 then ev d 4 115 L (.int (mI h a 1) :: st) h else none := ev_gI d_4_112 (by decide +kernel) (by decide +kernel)
theorem d_4_115 : decode (cd 4) 115 = .ok (.aload_n 3, 1) := by rw [cd_4]; decide +kernel
theorem e_4_115 {d : Nat} {h : mM} {o0 o1 o2 : Option Value} {T : mLs} {x : Nat} {st : List Value} : ev d 4 115 (o0 :: o1 :: o2 :: some (.ref x) :: T) st h = ev d 4 116 (o0 :: o1 :: o2 :: some (.ref x) :: T) (.ref x :: st) h := ev_of d_4_115 rfl
theorem d_4_116 : decode (cd 4) 116 = .ok (.getfield 72, 3) := by rw [cd_4]; decide +kernel
theorem e_4_116 {d : Nat} {h : mM} {L : mLs} {st : List Value} {a : Nat} : ev d 4 116 L (.ref a :: st) h = if mK h a = 0 then ev d 4 119 L (.int (mI h a 0) :: st) h else none := ev_gI d_4_116 (by decide +kernel) (by decide +kernel)
theorem d_4_119 : decode (cd 4) 119 = .ok (.aload_n 3, 1) := by rw [cd_4]; decide +kernel
theorem e_4_119 {d : Nat} {h : mM} {o0 o1 o2 : Option Value} {T : mLs} {x : Nat} {st : List Value} : ev d 4 119 (o0 :: o1 :: o2 :: some (.ref x) :: T) st h = ev d 4 120 (o0 :: o1 :: o2 :: some (.ref x) :: T) (.ref x :: st) h := ev_of d_4_119 rfl
theorem d_4_120 : decode (cd 4) 120 = .ok (.getfield 84, 3) := by rw [cd_4]; decide +kernel
theorem e_4_120 {d : Nat} {h : mM} {L : mLs} {st : List Value} {a : Nat} : ev d 4 120 L (.ref a :: st) h = if mK h a = 0 then ev d 4 123 L (.int (mI h a 2) :: st) h else none := ev_gI d_4_120 (by decide +kernel) (by decide +kernel)
theorem d_4_123 : decode (cd 4) 123 = .ok (.iload 5, 2) := by rw [cd_4]; decide +kernel
theorem e_4_123 {d : Nat} {h : mM} {o0 o1 o2 o3 o4 : Option Value} {T : mLs} {x : Int32} {st : List Value} : ev d 4 123 (o0 :: o1 :: o2 :: o3 :: o4 :: some (.int x) :: T) st h = ev d 4 125 (o0 :: o1 :: o2 :: o3 :: o4 :: some (.int x) :: T) (.int x :: st) h := ev_of d_4_123 rfl
theorem d_4_125 : decode (cd 4) 125 = .ok (.iload 4, 2) := by rw [cd_4]; decide +kernel
theorem e_4_125 {d : Nat} {h : mM} {o0 o1 o2 o3 : Option Value} {T : mLs} {x : Int32} {st : List Value} : ev d 4 125 (o0 :: o1 :: o2 :: o3 :: some (.int x) :: T) st h = ev d 4 127 (o0 :: o1 :: o2 :: o3 :: some (.int x) :: T) (.int x :: st) h := ev_of d_4_125 rfl
theorem d_4_127 : decode (cd 4) 127 = .ok (.isub, 1) := by rw [cd_4]; decide +kernel
theorem e_4_127 {d : Nat} {h : mM} {L : mLs} {st : List Value} {x y : Int32} : ev d 4 127 L (.int y :: .int x :: st) h = ev d 4 128 L (.int (x - y) :: st) h := ev_of d_4_127 rfl
theorem d_4_128 : decode (cd 4) 128 = .ok (.imul, 1) := by rw [cd_4]; decide +kernel
theorem e_4_128 {d : Nat} {h : mM} {L : mLs} {st : List Value} {x y : Int32} : ev d 4 128 L (.int y :: .int x :: st) h = ev d 4 129 L (.int (x * y) :: st) h := ev_of d_4_128 rfl
theorem d_4_129 : decode (cd 4) 129 = .ok (.invokevirtual 87, 3) := by rw [cd_4]; decide +kernel
theorem e_4_129 {d : Nat} {h : mM} {L : mLs} {st : List Value} {a : Nat} {x0 : Nat} {x1 : Int32} {x2 : Int32} {x3 : Int32} (hc : mCat st ≤ 8) : ev (d + 1) 4 129 L (.int x3 :: .int x2 :: .int x1 :: .ref x0 :: .ref a :: st) h = if mK h a = 1 then cV (ev d 5 0 [some (.ref a), some (.ref x0), some (.int x1), some (.int x2), some (.int x3), none, none, none, none] [] h) (fun v h1 => ev (d + 1) 4 132 L (v ++ st) h1) else none := ev_cv (mj := 5) (as := [.ref x0, .int x1, .int x2, .int x3]) (rest := st) d_4_129 (by decide +kernel) rfl rfl (by show _ ≤ List.length _; simp only [List.length_cons]; have : na 5 = 4 := rfl; omega) rfl (Nat.le_of_ble_eq_true rfl) hc
theorem d_4_132 : decode (cd 4) 132 = .ok (.iinc 2 1, 3) := by rw [cd_4]; decide +kernel
theorem e_4_132 {d : Nat} {h : mM} {o0 o1 : Option Value} {T : mLs} {x : Int32} {st : List Value} (hl : mLong o1 = false) : ev d 4 132 (o0 :: o1 :: some (.int x) :: T) st h = ev d 4 135 (o0 :: o1 :: some (.int (x + 1)) :: T) st h := ev_inc d_4_132 (by decide +kernel) rfl rfl (mS1_s (j := 1) hl)
theorem d_4_135 : decode (cd 4) 135 = .ok (.goto (-133), 3) := by rw [cd_4]; decide +kernel
theorem e_4_135 {d : Nat} {h : mM} {L : mLs} {st : List Value} : ev d 4 135 L st h = ev d 4 2 L st h := ev_go d_4_135 (by decide)
theorem d_4_138 : decode (cd 4) 138 = .ok (.return_, 1) := by rw [cd_4]; decide +kernel
theorem e_4_138 {d : Nat} {h : mM} {L : mLs} : ev d 4 138 L [] h = some (none, h) := ev_rv d_4_138 (by decide +kernel)
-- 5: Flow.lead
theorem cd_5 : cd 5 = prog_3_method_5_code := rfl
theorem d_5_0 : decode (cd 5) 0 = .ok (.aload_n 0, 1) := by rw [cd_5]; decide +kernel
theorem e_5_0 {d : Nat} {h : mM} {T : mLs} {x : Nat} {st : List Value} : ev d 5 0 ( some (.ref x) :: T) st h = ev d 5 1 ( some (.ref x) :: T) (.ref x :: st) h := ev_of d_5_0 rfl
theorem d_5_1 : decode (cd 5) 1 = .ok (.getfield 28, 3) := by rw [cd_5]; decide +kernel
theorem e_5_1 {d : Nat} {h : mM} {L : mLs} {st : List Value} {a : Nat} : ev d 5 1 L (.ref a :: st) h = if mK h a = 1 then oB (mR h a 0) (fun b => ev d 5 4 L (.ref b :: st) h) else none := ev_gR d_5_1 (by decide +kernel) (by decide +kernel)
theorem d_5_4 : decode (cd 5) 4 = .ok (.getfield 52, 3) := by rw [cd_5]; decide +kernel
theorem e_5_4 {d : Nat} {h : mM} {L : mLs} {st : List Value} {a : Nat} : ev d 5 4 L (.ref a :: st) h = if mK h a = 8 then oB (mR h a 0) (fun b => ev d 5 7 L (.ref b :: st) h) else none := ev_gR d_5_4 (by decide +kernel) (by decide +kernel)
theorem d_5_7 : decode (cd 5) 7 = .ok (.iload_n 2, 1) := by rw [cd_5]; decide +kernel
theorem e_5_7 {d : Nat} {h : mM} {o0 o1 : Option Value} {T : mLs} {x : Int32} {st : List Value} : ev d 5 7 (o0 :: o1 :: some (.int x) :: T) st h = ev d 5 8 (o0 :: o1 :: some (.int x) :: T) (.int x :: st) h := ev_of d_5_7 rfl
theorem d_5_8 : decode (cd 5) 8 = .ok (.aaload, 1) := by rw [cd_5]; decide +kernel
theorem e_5_8 {d : Nat} {h : mM} {L : mLs} {st : List Value} {a : Nat} {i : Int32} : ev d 5 8 L (.int i :: .ref a :: st) h = if (12 < mK h a ∧ mK h a < 19) ∧ ixOK i (mL h a) = true then oB (mR h a i.toNatClampNeg) (fun b => ev d 5 9 L (.ref b :: st) h) else none := ev_aa d_5_8
theorem d_5_9 : decode (cd 5) 9 = .ok (.getfield 91, 3) := by rw [cd_5]; decide +kernel
theorem e_5_9 {d : Nat} {h : mM} {L : mLs} {st : List Value} {a : Nat} : ev d 5 9 L (.ref a :: st) h = if mK h a = 3 then ev d 5 12 L (.int (mI h a 0) :: st) h else none := ev_gI d_5_9 (by decide +kernel) (by decide +kernel)
theorem d_5_12 : decode (cd 5) 12 = .ok (.istore 5, 2) := by rw [cd_5]; decide +kernel
theorem e_5_12 {d : Nat} {h : mM} {o0 o1 o2 o3 o4 o5 : Option Value} {T : mLs} {x : Int32} {st : List Value} (hl : mLong o4 = false) : ev d 5 12 (o0 :: o1 :: o2 :: o3 :: o4 :: o5 :: T) (.int x :: st) h = ev d 5 14 (o0 :: o1 :: o2 :: o3 :: o4 :: some (.int x) :: T) st h := ev_st_i d_5_12 (by decide +kernel) (mS1_s (j := 4) hl)
theorem d_5_14 : decode (cd 5) 14 = .ok (.aload_n 0, 1) := by rw [cd_5]; decide +kernel
theorem e_5_14 {d : Nat} {h : mM} {T : mLs} {x : Nat} {st : List Value} : ev d 5 14 ( some (.ref x) :: T) st h = ev d 5 15 ( some (.ref x) :: T) (.ref x :: st) h := ev_of d_5_14 rfl
theorem d_5_15 : decode (cd 5) 15 = .ok (.getfield 28, 3) := by rw [cd_5]; decide +kernel
theorem e_5_15 {d : Nat} {h : mM} {L : mLs} {st : List Value} {a : Nat} : ev d 5 15 L (.ref a :: st) h = if mK h a = 1 then oB (mR h a 0) (fun b => ev d 5 18 L (.ref b :: st) h) else none := ev_gR d_5_15 (by decide +kernel) (by decide +kernel)
theorem d_5_18 : decode (cd 5) 18 = .ok (.getfield 52, 3) := by rw [cd_5]; decide +kernel
theorem e_5_18 {d : Nat} {h : mM} {L : mLs} {st : List Value} {a : Nat} : ev d 5 18 L (.ref a :: st) h = if mK h a = 8 then oB (mR h a 0) (fun b => ev d 5 21 L (.ref b :: st) h) else none := ev_gR d_5_18 (by decide +kernel) (by decide +kernel)
theorem d_5_21 : decode (cd 5) 21 = .ok (.iload_n 3, 1) := by rw [cd_5]; decide +kernel
theorem e_5_21 {d : Nat} {h : mM} {o0 o1 o2 : Option Value} {T : mLs} {x : Int32} {st : List Value} : ev d 5 21 (o0 :: o1 :: o2 :: some (.int x) :: T) st h = ev d 5 22 (o0 :: o1 :: o2 :: some (.int x) :: T) (.int x :: st) h := ev_of d_5_21 rfl
theorem d_5_22 : decode (cd 5) 22 = .ok (.aaload, 1) := by rw [cd_5]; decide +kernel
theorem e_5_22 {d : Nat} {h : mM} {L : mLs} {st : List Value} {a : Nat} {i : Int32} : ev d 5 22 L (.int i :: .ref a :: st) h = if (12 < mK h a ∧ mK h a < 19) ∧ ixOK i (mL h a) = true then oB (mR h a i.toNatClampNeg) (fun b => ev d 5 23 L (.ref b :: st) h) else none := ev_aa d_5_22
theorem d_5_23 : decode (cd 5) 23 = .ok (.getfield 91, 3) := by rw [cd_5]; decide +kernel
theorem e_5_23 {d : Nat} {h : mM} {L : mLs} {st : List Value} {a : Nat} : ev d 5 23 L (.ref a :: st) h = if mK h a = 3 then ev d 5 26 L (.int (mI h a 0) :: st) h else none := ev_gI d_5_23 (by decide +kernel) (by decide +kernel)
theorem d_5_26 : decode (cd 5) 26 = .ok (.istore 6, 2) := by rw [cd_5]; decide +kernel
theorem e_5_26 {d : Nat} {h : mM} {o0 o1 o2 o3 o4 o5 o6 : Option Value} {T : mLs} {x : Int32} {st : List Value} (hl : mLong o5 = false) : ev d 5 26 (o0 :: o1 :: o2 :: o3 :: o4 :: o5 :: o6 :: T) (.int x :: st) h = ev d 5 28 (o0 :: o1 :: o2 :: o3 :: o4 :: o5 :: some (.int x) :: T) st h := ev_st_i d_5_26 (by decide +kernel) (mS1_s (j := 5) hl)
theorem d_5_28 : decode (cd 5) 28 = .ok (.aload_n 1, 1) := by rw [cd_5]; decide +kernel
theorem e_5_28 {d : Nat} {h : mM} {o0 : Option Value} {T : mLs} {x : Nat} {st : List Value} : ev d 5 28 (o0 :: some (.ref x) :: T) st h = ev d 5 29 (o0 :: some (.ref x) :: T) (.ref x :: st) h := ev_of d_5_28 rfl
theorem d_5_29 : decode (cd 5) 29 = .ok (.iload_n 2, 1) := by rw [cd_5]; decide +kernel
theorem e_5_29 {d : Nat} {h : mM} {o0 o1 : Option Value} {T : mLs} {x : Int32} {st : List Value} : ev d 5 29 (o0 :: o1 :: some (.int x) :: T) st h = ev d 5 30 (o0 :: o1 :: some (.int x) :: T) (.int x :: st) h := ev_of d_5_29 rfl
theorem d_5_30 : decode (cd 5) 30 = .ok (.iaload, 1) := by rw [cd_5]; decide +kernel
theorem e_5_30 {d : Nat} {h : mM} {L : mLs} {st : List Value} {a : Nat} {i : Int32} : ev d 5 30 L (.int i :: .ref a :: st) h = if (mK h a = 11 ∨ mK h a = 19) ∧ ixOK i (mL h a) = true then ev d 5 31 L (.int (mI h a i.toNatClampNeg) :: st) h else none := ev_ia d_5_30
theorem d_5_31 : decode (cd 5) 31 = .ok (.iload 6, 2) := by rw [cd_5]; decide +kernel
theorem e_5_31 {d : Nat} {h : mM} {o0 o1 o2 o3 o4 o5 : Option Value} {T : mLs} {x : Int32} {st : List Value} : ev d 5 31 (o0 :: o1 :: o2 :: o3 :: o4 :: o5 :: some (.int x) :: T) st h = ev d 5 33 (o0 :: o1 :: o2 :: o3 :: o4 :: o5 :: some (.int x) :: T) (.int x :: st) h := ev_of d_5_31 rfl
theorem d_5_33 : decode (cd 5) 33 = .ok (.imul, 1) := by rw [cd_5]; decide +kernel
theorem e_5_33 {d : Nat} {h : mM} {L : mLs} {st : List Value} {x y : Int32} : ev d 5 33 L (.int y :: .int x :: st) h = ev d 5 34 L (.int (x * y) :: st) h := ev_of d_5_33 rfl
theorem d_5_34 : decode (cd 5) 34 = .ok (.aload_n 1, 1) := by rw [cd_5]; decide +kernel
theorem e_5_34 {d : Nat} {h : mM} {o0 : Option Value} {T : mLs} {x : Nat} {st : List Value} : ev d 5 34 (o0 :: some (.ref x) :: T) st h = ev d 5 35 (o0 :: some (.ref x) :: T) (.ref x :: st) h := ev_of d_5_34 rfl
theorem d_5_35 : decode (cd 5) 35 = .ok (.iload_n 3, 1) := by rw [cd_5]; decide +kernel
theorem e_5_35 {d : Nat} {h : mM} {o0 o1 o2 : Option Value} {T : mLs} {x : Int32} {st : List Value} : ev d 5 35 (o0 :: o1 :: o2 :: some (.int x) :: T) st h = ev d 5 36 (o0 :: o1 :: o2 :: some (.int x) :: T) (.int x :: st) h := ev_of d_5_35 rfl
theorem d_5_36 : decode (cd 5) 36 = .ok (.iaload, 1) := by rw [cd_5]; decide +kernel
theorem e_5_36 {d : Nat} {h : mM} {L : mLs} {st : List Value} {a : Nat} {i : Int32} : ev d 5 36 L (.int i :: .ref a :: st) h = if (mK h a = 11 ∨ mK h a = 19) ∧ ixOK i (mL h a) = true then ev d 5 37 L (.int (mI h a i.toNatClampNeg) :: st) h else none := ev_ia d_5_36
theorem d_5_37 : decode (cd 5) 37 = .ok (.iload 5, 2) := by rw [cd_5]; decide +kernel
theorem e_5_37 {d : Nat} {h : mM} {o0 o1 o2 o3 o4 : Option Value} {T : mLs} {x : Int32} {st : List Value} : ev d 5 37 (o0 :: o1 :: o2 :: o3 :: o4 :: some (.int x) :: T) st h = ev d 5 39 (o0 :: o1 :: o2 :: o3 :: o4 :: some (.int x) :: T) (.int x :: st) h := ev_of d_5_37 rfl
theorem d_5_39 : decode (cd 5) 39 = .ok (.imul, 1) := by rw [cd_5]; decide +kernel
theorem e_5_39 {d : Nat} {h : mM} {L : mLs} {st : List Value} {x y : Int32} : ev d 5 39 L (.int y :: .int x :: st) h = ev d 5 40 L (.int (x * y) :: st) h := ev_of d_5_39 rfl
theorem d_5_40 : decode (cd 5) 40 = .ok (.isub, 1) := by rw [cd_5]; decide +kernel
theorem e_5_40 {d : Nat} {h : mM} {L : mLs} {st : List Value} {x y : Int32} : ev d 5 40 L (.int y :: .int x :: st) h = ev d 5 41 L (.int (x - y) :: st) h := ev_of d_5_40 rfl
theorem d_5_41 : decode (cd 5) 41 = .ok (.iload 5, 2) := by rw [cd_5]; decide +kernel
theorem e_5_41 {d : Nat} {h : mM} {o0 o1 o2 o3 o4 : Option Value} {T : mLs} {x : Int32} {st : List Value} : ev d 5 41 (o0 :: o1 :: o2 :: o3 :: o4 :: some (.int x) :: T) st h = ev d 5 43 (o0 :: o1 :: o2 :: o3 :: o4 :: some (.int x) :: T) (.int x :: st) h := ev_of d_5_41 rfl
theorem d_5_43 : decode (cd 5) 43 = .ok (.iload 6, 2) := by rw [cd_5]; decide +kernel
theorem e_5_43 {d : Nat} {h : mM} {o0 o1 o2 o3 o4 o5 : Option Value} {T : mLs} {x : Int32} {st : List Value} : ev d 5 43 (o0 :: o1 :: o2 :: o3 :: o4 :: o5 :: some (.int x) :: T) st h = ev d 5 45 (o0 :: o1 :: o2 :: o3 :: o4 :: o5 :: some (.int x) :: T) (.int x :: st) h := ev_of d_5_43 rfl
theorem d_5_45 : decode (cd 5) 45 = .ok (.iadd, 1) := by rw [cd_5]; decide +kernel
theorem e_5_45 {d : Nat} {h : mM} {L : mLs} {st : List Value} {x y : Int32} : ev d 5 45 L (.int y :: .int x :: st) h = ev d 5 46 L (.int (x + y) :: st) h := ev_of d_5_45 rfl
theorem d_5_46 : decode (cd 5) 46 = .ok (.invokestatic 94, 3) := by rw [cd_5]; decide +kernel
theorem e_5_46 {d : Nat} {h : mM} {L : mLs} {st : List Value} {x0 : Int32} {x1 : Int32} (hc : mCat st ≤ 8) : ev (d + 1) 5 46 L (.int x1 :: .int x0 :: st) h = cV (ev d 77 0 [some (.int x0), some (.int x1)] [] h) (fun v h1 => ev (d + 1) 5 49 L (v ++ st) h1) := ev_cs (kd := 3) (mj := 77) (as := [.int x0, .int x1]) (rest := st) d_5_46 (by decide +kernel) (by decide) rfl rfl (by show _ ≤ List.length _; simp only [List.length_cons]; have : na 77 = 2 := rfl; omega) rfl (Nat.le_of_ble_eq_true rfl) hc
theorem d_5_49 : decode (cd 5) 49 = .ok (.istore 7, 2) := by rw [cd_5]; decide +kernel
theorem e_5_49 {d : Nat} {h : mM} {o0 o1 o2 o3 o4 o5 o6 o7 : Option Value} {T : mLs} {x : Int32} {st : List Value} (hl : mLong o6 = false) : ev d 5 49 (o0 :: o1 :: o2 :: o3 :: o4 :: o5 :: o6 :: o7 :: T) (.int x :: st) h = ev d 5 51 (o0 :: o1 :: o2 :: o3 :: o4 :: o5 :: o6 :: some (.int x) :: T) st h := ev_st_i d_5_49 (by decide +kernel) (mS1_s (j := 6) hl)
theorem d_5_51 : decode (cd 5) 51 = .ok (.iload 4, 2) := by rw [cd_5]; decide +kernel
theorem e_5_51 {d : Nat} {h : mM} {o0 o1 o2 o3 : Option Value} {T : mLs} {x : Int32} {st : List Value} : ev d 5 51 (o0 :: o1 :: o2 :: o3 :: some (.int x) :: T) st h = ev d 5 53 (o0 :: o1 :: o2 :: o3 :: some (.int x) :: T) (.int x :: st) h := ev_of d_5_51 rfl
theorem d_5_53 : decode (cd 5) 53 = .ok (.iload 7, 2) := by rw [cd_5]; decide +kernel
theorem e_5_53 {d : Nat} {h : mM} {o0 o1 o2 o3 o4 o5 o6 : Option Value} {T : mLs} {x : Int32} {st : List Value} : ev d 5 53 (o0 :: o1 :: o2 :: o3 :: o4 :: o5 :: o6 :: some (.int x) :: T) st h = ev d 5 55 (o0 :: o1 :: o2 :: o3 :: o4 :: o5 :: o6 :: some (.int x) :: T) (.int x :: st) h := ev_of d_5_53 rfl
theorem d_5_55 : decode (cd 5) 55 = .ok (.invokestatic 97, 3) := by rw [cd_5]; decide +kernel
theorem e_5_55 {d : Nat} {h : mM} {L : mLs} {st : List Value} {x y : Int32} (hc : mCat st ≤ 8) : ev d 5 55 L (.int y :: .int x :: st) h = ev d 5 58 L (.int (if y < x then y else x) :: st) h := ev_min (mj := 0) d_5_55 (by decide +kernel) hc
theorem d_5_58 : decode (cd 5) 58 = .ok (.istore 8, 2) := by rw [cd_5]; decide +kernel
theorem e_5_58 {d : Nat} {h : mM} {o0 o1 o2 o3 o4 o5 o6 o7 o8 : Option Value} {T : mLs} {x : Int32} {st : List Value} (hl : mLong o7 = false) : ev d 5 58 (o0 :: o1 :: o2 :: o3 :: o4 :: o5 :: o6 :: o7 :: o8 :: T) (.int x :: st) h = ev d 5 60 (o0 :: o1 :: o2 :: o3 :: o4 :: o5 :: o6 :: o7 :: some (.int x) :: T) st h := ev_st_i d_5_58 (by decide +kernel) (mS1_s (j := 7) hl)
theorem d_5_60 : decode (cd 5) 60 = .ok (.aload_n 1, 1) := by rw [cd_5]; decide +kernel
theorem e_5_60 {d : Nat} {h : mM} {o0 : Option Value} {T : mLs} {x : Nat} {st : List Value} : ev d 5 60 (o0 :: some (.ref x) :: T) st h = ev d 5 61 (o0 :: some (.ref x) :: T) (.ref x :: st) h := ev_of d_5_60 rfl
theorem d_5_61 : decode (cd 5) 61 = .ok (.iload_n 2, 1) := by rw [cd_5]; decide +kernel
theorem e_5_61 {d : Nat} {h : mM} {o0 o1 : Option Value} {T : mLs} {x : Int32} {st : List Value} : ev d 5 61 (o0 :: o1 :: some (.int x) :: T) st h = ev d 5 62 (o0 :: o1 :: some (.int x) :: T) (.int x :: st) h := ev_of d_5_61 rfl
theorem d_5_62 : decode (cd 5) 62 = .ok (.dup2, 1) := by rw [cd_5]; decide +kernel
theorem e_5_62 {d : Nat} {h : mM} {L : mLs} {st : List Value} {a : Nat} {i : Int32} : ev d 5 62 L (.int i :: .ref a :: st) h = ev d 5 63 L (.int i :: .ref a :: .int i :: .ref a :: st) h := ev_of d_5_62 rfl
theorem d_5_63 : decode (cd 5) 63 = .ok (.iaload, 1) := by rw [cd_5]; decide +kernel
theorem e_5_63 {d : Nat} {h : mM} {L : mLs} {st : List Value} {a : Nat} {i : Int32} : ev d 5 63 L (.int i :: .ref a :: st) h = if (mK h a = 11 ∨ mK h a = 19) ∧ ixOK i (mL h a) = true then ev d 5 64 L (.int (mI h a i.toNatClampNeg) :: st) h else none := ev_ia d_5_63
theorem d_5_64 : decode (cd 5) 64 = .ok (.iload 8, 2) := by rw [cd_5]; decide +kernel
theorem e_5_64 {d : Nat} {h : mM} {o0 o1 o2 o3 o4 o5 o6 o7 : Option Value} {T : mLs} {x : Int32} {st : List Value} : ev d 5 64 (o0 :: o1 :: o2 :: o3 :: o4 :: o5 :: o6 :: o7 :: some (.int x) :: T) st h = ev d 5 66 (o0 :: o1 :: o2 :: o3 :: o4 :: o5 :: o6 :: o7 :: some (.int x) :: T) (.int x :: st) h := ev_of d_5_64 rfl
theorem d_5_66 : decode (cd 5) 66 = .ok (.isub, 1) := by rw [cd_5]; decide +kernel
theorem e_5_66 {d : Nat} {h : mM} {L : mLs} {st : List Value} {x y : Int32} : ev d 5 66 L (.int y :: .int x :: st) h = ev d 5 67 L (.int (x - y) :: st) h := ev_of d_5_66 rfl
theorem d_5_67 : decode (cd 5) 67 = .ok (.iastore, 1) := by rw [cd_5]; decide +kernel
theorem e_5_67 {d : Nat} {h : mM} {L : mLs} {st : List Value} {a : Nat} {i v : Int32} : ev d 5 67 L (.int v :: .int i :: .ref a :: st) h = if mK h a = 11 ∧ ixOK i (mL h a) = true then ev d 5 68 L st (wI h a i.toNatClampNeg v) else none := ev_is d_5_67
theorem d_5_68 : decode (cd 5) 68 = .ok (.aload_n 1, 1) := by rw [cd_5]; decide +kernel
theorem e_5_68 {d : Nat} {h : mM} {o0 : Option Value} {T : mLs} {x : Nat} {st : List Value} : ev d 5 68 (o0 :: some (.ref x) :: T) st h = ev d 5 69 (o0 :: some (.ref x) :: T) (.ref x :: st) h := ev_of d_5_68 rfl
theorem d_5_69 : decode (cd 5) 69 = .ok (.iload_n 3, 1) := by rw [cd_5]; decide +kernel
theorem e_5_69 {d : Nat} {h : mM} {o0 o1 o2 : Option Value} {T : mLs} {x : Int32} {st : List Value} : ev d 5 69 (o0 :: o1 :: o2 :: some (.int x) :: T) st h = ev d 5 70 (o0 :: o1 :: o2 :: some (.int x) :: T) (.int x :: st) h := ev_of d_5_69 rfl
theorem d_5_70 : decode (cd 5) 70 = .ok (.dup2, 1) := by rw [cd_5]; decide +kernel
theorem e_5_70 {d : Nat} {h : mM} {L : mLs} {st : List Value} {a : Nat} {i : Int32} : ev d 5 70 L (.int i :: .ref a :: st) h = ev d 5 71 L (.int i :: .ref a :: .int i :: .ref a :: st) h := ev_of d_5_70 rfl
theorem d_5_71 : decode (cd 5) 71 = .ok (.iaload, 1) := by rw [cd_5]; decide +kernel
theorem e_5_71 {d : Nat} {h : mM} {L : mLs} {st : List Value} {a : Nat} {i : Int32} : ev d 5 71 L (.int i :: .ref a :: st) h = if (mK h a = 11 ∨ mK h a = 19) ∧ ixOK i (mL h a) = true then ev d 5 72 L (.int (mI h a i.toNatClampNeg) :: st) h else none := ev_ia d_5_71
theorem d_5_72 : decode (cd 5) 72 = .ok (.iload 8, 2) := by rw [cd_5]; decide +kernel
theorem e_5_72 {d : Nat} {h : mM} {o0 o1 o2 o3 o4 o5 o6 o7 : Option Value} {T : mLs} {x : Int32} {st : List Value} : ev d 5 72 (o0 :: o1 :: o2 :: o3 :: o4 :: o5 :: o6 :: o7 :: some (.int x) :: T) st h = ev d 5 74 (o0 :: o1 :: o2 :: o3 :: o4 :: o5 :: o6 :: o7 :: some (.int x) :: T) (.int x :: st) h := ev_of d_5_72 rfl
theorem d_5_74 : decode (cd 5) 74 = .ok (.iadd, 1) := by rw [cd_5]; decide +kernel
theorem e_5_74 {d : Nat} {h : mM} {L : mLs} {st : List Value} {x y : Int32} : ev d 5 74 L (.int y :: .int x :: st) h = ev d 5 75 L (.int (x + y) :: st) h := ev_of d_5_74 rfl
theorem d_5_75 : decode (cd 5) 75 = .ok (.iastore, 1) := by rw [cd_5]; decide +kernel
theorem e_5_75 {d : Nat} {h : mM} {L : mLs} {st : List Value} {a : Nat} {i v : Int32} : ev d 5 75 L (.int v :: .int i :: .ref a :: st) h = if mK h a = 11 ∧ ixOK i (mL h a) = true then ev d 5 76 L st (wI h a i.toNatClampNeg v) else none := ev_is d_5_75
theorem d_5_76 : decode (cd 5) 76 = .ok (.return_, 1) := by rw [cd_5]; decide +kernel
theorem e_5_76 {d : Nat} {h : mM} {L : mLs} : ev d 5 76 L [] h = some (none, h) := ev_rv d_5_76 (by decide +kernel)
-- 6: Flow.runMills
theorem cd_6 : cd 6 = prog_3_method_6_code := rfl
theorem d_6_0 : decode (cd 6) 0 = .ok (.iconst 0, 1) := by rw [cd_6]; decide +kernel
theorem e_6_0 {d : Nat} {h : mM} {L : mLs} {st : List Value} : ev d 6 0 L st h = ev d 6 1 L (.int 0 :: st) h := ev_of d_6_0 rfl
theorem d_6_1 : decode (cd 6) 1 = .ok (.istore 4, 2) := by rw [cd_6]; decide +kernel
theorem e_6_1 {d : Nat} {h : mM} {o0 o1 o2 o3 o4 : Option Value} {T : mLs} {x : Int32} {st : List Value} (hl : mLong o3 = false) : ev d 6 1 (o0 :: o1 :: o2 :: o3 :: o4 :: T) (.int x :: st) h = ev d 6 3 (o0 :: o1 :: o2 :: o3 :: some (.int x) :: T) st h := ev_st_i d_6_1 (by decide +kernel) (mS1_s (j := 3) hl)
theorem d_6_3 : decode (cd 6) 3 = .ok (.iload 4, 2) := by rw [cd_6]; decide +kernel
theorem e_6_3 {d : Nat} {h : mM} {o0 o1 o2 o3 : Option Value} {T : mLs} {x : Int32} {st : List Value} : ev d 6 3 (o0 :: o1 :: o2 :: o3 :: some (.int x) :: T) st h = ev d 6 5 (o0 :: o1 :: o2 :: o3 :: some (.int x) :: T) (.int x :: st) h := ev_of d_6_3 rfl
theorem d_6_5 : decode (cd 6) 5 = .ok (.bipush 12, 2) := by rw [cd_6]; decide +kernel
theorem e_6_5 {d : Nat} {h : mM} {L : mLs} {st : List Value} : ev d 6 5 L st h = ev d 6 7 L (.int 12 :: st) h := ev_of d_6_5 rfl
theorem d_6_7 : decode (cd 6) 7 = .ok (.if_icmp .ge 17, 3) := by rw [cd_6]; decide +kernel
theorem e_6_7 {d : Nat} {h : mM} {L : mLs} {st : List Value} {x y : Int32} : ev d 6 7 L (.int y :: .int x :: st) h = if y ≤ x then ev d 6 24 L st h else ev d 6 10 L st h := ev_ic (y ≤ x) inferInstance rfl d_6_7 (by decide)
theorem d_6_10 : decode (cd 6) 10 = .ok (.aload_n 0, 1) := by rw [cd_6]; decide +kernel
theorem e_6_10 {d : Nat} {h : mM} {T : mLs} {x : Nat} {st : List Value} : ev d 6 10 ( some (.ref x) :: T) st h = ev d 6 11 ( some (.ref x) :: T) (.ref x :: st) h := ev_of d_6_10 rfl
theorem d_6_11 : decode (cd 6) 11 = .ok (.getfield 9, 3) := by rw [cd_6]; decide +kernel
theorem e_6_11 {d : Nat} {h : mM} {L : mLs} {st : List Value} {a : Nat} : ev d 6 11 L (.ref a :: st) h = if mK h a = 1 then oB (mR h a 1) (fun b => ev d 6 14 L (.ref b :: st) h) else none := ev_gR d_6_11 (by decide +kernel) (by decide +kernel)
theorem d_6_14 : decode (cd 6) 14 = .ok (.iload 4, 2) := by rw [cd_6]; decide +kernel
theorem e_6_14 {d : Nat} {h : mM} {o0 o1 o2 o3 : Option Value} {T : mLs} {x : Int32} {st : List Value} : ev d 6 14 (o0 :: o1 :: o2 :: o3 :: some (.int x) :: T) st h = ev d 6 16 (o0 :: o1 :: o2 :: o3 :: some (.int x) :: T) (.int x :: st) h := ev_of d_6_14 rfl
theorem d_6_16 : decode (cd 6) 16 = .ok (.iconst 0, 1) := by rw [cd_6]; decide +kernel
theorem e_6_16 {d : Nat} {h : mM} {L : mLs} {st : List Value} : ev d 6 16 L st h = ev d 6 17 L (.int 0 :: st) h := ev_of d_6_16 rfl
theorem d_6_17 : decode (cd 6) 17 = .ok (.iastore, 1) := by rw [cd_6]; decide +kernel
theorem e_6_17 {d : Nat} {h : mM} {L : mLs} {st : List Value} {a : Nat} {i v : Int32} : ev d 6 17 L (.int v :: .int i :: .ref a :: st) h = if mK h a = 11 ∧ ixOK i (mL h a) = true then ev d 6 18 L st (wI h a i.toNatClampNeg v) else none := ev_is d_6_17
theorem d_6_18 : decode (cd 6) 18 = .ok (.iinc 4 1, 3) := by rw [cd_6]; decide +kernel
theorem e_6_18 {d : Nat} {h : mM} {o0 o1 o2 o3 : Option Value} {T : mLs} {x : Int32} {st : List Value} (hl : mLong o3 = false) : ev d 6 18 (o0 :: o1 :: o2 :: o3 :: some (.int x) :: T) st h = ev d 6 21 (o0 :: o1 :: o2 :: o3 :: some (.int (x + 1)) :: T) st h := ev_inc d_6_18 (by decide +kernel) rfl rfl (mS1_s (j := 3) hl)
theorem d_6_21 : decode (cd 6) 21 = .ok (.goto (-18), 3) := by rw [cd_6]; decide +kernel
theorem e_6_21 {d : Nat} {h : mM} {L : mLs} {st : List Value} : ev d 6 21 L st h = ev d 6 3 L st h := ev_go d_6_21 (by decide)
theorem d_6_24 : decode (cd 6) 24 = .ok (.iconst 0, 1) := by rw [cd_6]; decide +kernel
theorem e_6_24 {d : Nat} {h : mM} {L : mLs} {st : List Value} : ev d 6 24 L st h = ev d 6 25 L (.int 0 :: st) h := ev_of d_6_24 rfl
theorem d_6_25 : decode (cd 6) 25 = .ok (.istore 4, 2) := by rw [cd_6]; decide +kernel
theorem e_6_25 {d : Nat} {h : mM} {o0 o1 o2 o3 o4 : Option Value} {T : mLs} {x : Int32} {st : List Value} (hl : mLong o3 = false) : ev d 6 25 (o0 :: o1 :: o2 :: o3 :: o4 :: T) (.int x :: st) h = ev d 6 27 (o0 :: o1 :: o2 :: o3 :: some (.int x) :: T) st h := ev_st_i d_6_25 (by decide +kernel) (mS1_s (j := 3) hl)
theorem d_6_27 : decode (cd 6) 27 = .ok (.iload 4, 2) := by rw [cd_6]; decide +kernel
theorem e_6_27 {d : Nat} {h : mM} {o0 o1 o2 o3 : Option Value} {T : mLs} {x : Int32} {st : List Value} : ev d 6 27 (o0 :: o1 :: o2 :: o3 :: some (.int x) :: T) st h = ev d 6 29 (o0 :: o1 :: o2 :: o3 :: some (.int x) :: T) (.int x :: st) h := ev_of d_6_27 rfl
theorem d_6_29 : decode (cd 6) 29 = .ok (.aload_n 0, 1) := by rw [cd_6]; decide +kernel
theorem e_6_29 {d : Nat} {h : mM} {T : mLs} {x : Nat} {st : List Value} : ev d 6 29 ( some (.ref x) :: T) st h = ev d 6 30 ( some (.ref x) :: T) (.ref x :: st) h := ev_of d_6_29 rfl
theorem d_6_30 : decode (cd 6) 30 = .ok (.getfield 28, 3) := by rw [cd_6]; decide +kernel
theorem e_6_30 {d : Nat} {h : mM} {L : mLs} {st : List Value} {a : Nat} : ev d 6 30 L (.ref a :: st) h = if mK h a = 1 then oB (mR h a 0) (fun b => ev d 6 33 L (.ref b :: st) h) else none := ev_gR d_6_30 (by decide +kernel) (by decide +kernel)
theorem d_6_33 : decode (cd 6) 33 = .ok (.getfield 102, 3) := by rw [cd_6]; decide +kernel
theorem e_6_33 {d : Nat} {h : mM} {L : mLs} {st : List Value} {a : Nat} : ev d 6 33 L (.ref a :: st) h = if mK h a = 8 then ev d 6 36 L (.int (mI h a 6) :: st) h else none := ev_gI d_6_33 (by decide +kernel) (by decide +kernel)
theorem d_6_36 : decode (cd 6) 36 = .ok (.if_icmp .ge 35, 3) := by rw [cd_6]; decide +kernel
theorem e_6_36 {d : Nat} {h : mM} {L : mLs} {st : List Value} {x y : Int32} : ev d 6 36 L (.int y :: .int x :: st) h = if y ≤ x then ev d 6 71 L st h else ev d 6 39 L st h := ev_ic (y ≤ x) inferInstance rfl d_6_36 (by decide)
theorem d_6_39 : decode (cd 6) 39 = .ok (.aload_n 0, 1) := by rw [cd_6]; decide +kernel
theorem e_6_39 {d : Nat} {h : mM} {T : mLs} {x : Nat} {st : List Value} : ev d 6 39 ( some (.ref x) :: T) st h = ev d 6 40 ( some (.ref x) :: T) (.ref x :: st) h := ev_of d_6_39 rfl
theorem d_6_40 : decode (cd 6) 40 = .ok (.getfield 28, 3) := by rw [cd_6]; decide +kernel
theorem e_6_40 {d : Nat} {h : mM} {L : mLs} {st : List Value} {a : Nat} : ev d 6 40 L (.ref a :: st) h = if mK h a = 1 then oB (mR h a 0) (fun b => ev d 6 43 L (.ref b :: st) h) else none := ev_gR d_6_40 (by decide +kernel) (by decide +kernel)
theorem d_6_43 : decode (cd 6) 43 = .ok (.getfield 105, 3) := by rw [cd_6]; decide +kernel
theorem e_6_43 {d : Nat} {h : mM} {L : mLs} {st : List Value} {a : Nat} : ev d 6 43 L (.ref a :: st) h = if mK h a = 8 then oB (mR h a 3) (fun b => ev d 6 46 L (.ref b :: st) h) else none := ev_gR d_6_43 (by decide +kernel) (by decide +kernel)
theorem d_6_46 : decode (cd 6) 46 = .ok (.iload 4, 2) := by rw [cd_6]; decide +kernel
theorem e_6_46 {d : Nat} {h : mM} {o0 o1 o2 o3 : Option Value} {T : mLs} {x : Int32} {st : List Value} : ev d 6 46 (o0 :: o1 :: o2 :: o3 :: some (.int x) :: T) st h = ev d 6 48 (o0 :: o1 :: o2 :: o3 :: some (.int x) :: T) (.int x :: st) h := ev_of d_6_46 rfl
theorem d_6_48 : decode (cd 6) 48 = .ok (.iaload, 1) := by rw [cd_6]; decide +kernel
theorem e_6_48 {d : Nat} {h : mM} {L : mLs} {st : List Value} {a : Nat} {i : Int32} : ev d 6 48 L (.int i :: .ref a :: st) h = if (mK h a = 11 ∨ mK h a = 19) ∧ ixOK i (mL h a) = true then ev d 6 49 L (.int (mI h a i.toNatClampNeg) :: st) h else none := ev_ia d_6_48
theorem d_6_49 : decode (cd 6) 49 = .ok (.istore 5, 2) := by rw [cd_6]; decide +kernel
theorem e_6_49 {d : Nat} {h : mM} {o0 o1 o2 o3 o4 o5 : Option Value} {T : mLs} {x : Int32} {st : List Value} (hl : mLong o4 = false) : ev d 6 49 (o0 :: o1 :: o2 :: o3 :: o4 :: o5 :: T) (.int x :: st) h = ev d 6 51 (o0 :: o1 :: o2 :: o3 :: o4 :: some (.int x) :: T) st h := ev_st_i d_6_49 (by decide +kernel) (mS1_s (j := 4) hl)
theorem d_6_51 : decode (cd 6) 51 = .ok (.iload 5, 2) := by rw [cd_6]; decide +kernel
theorem e_6_51 {d : Nat} {h : mM} {o0 o1 o2 o3 o4 : Option Value} {T : mLs} {x : Int32} {st : List Value} : ev d 6 51 (o0 :: o1 :: o2 :: o3 :: o4 :: some (.int x) :: T) st h = ev d 6 53 (o0 :: o1 :: o2 :: o3 :: o4 :: some (.int x) :: T) (.int x :: st) h := ev_of d_6_51 rfl
theorem d_6_53 : decode (cd 6) 53 = .ok (.iload_n 3, 1) := by rw [cd_6]; decide +kernel
theorem e_6_53 {d : Nat} {h : mM} {o0 o1 o2 : Option Value} {T : mLs} {x : Int32} {st : List Value} : ev d 6 53 (o0 :: o1 :: o2 :: some (.int x) :: T) st h = ev d 6 54 (o0 :: o1 :: o2 :: some (.int x) :: T) (.int x :: st) h := ev_of d_6_53 rfl
theorem d_6_54 : decode (cd 6) 54 = .ok (.if_icmp .eq 11, 3) := by rw [cd_6]; decide +kernel
theorem e_6_54 {d : Nat} {h : mM} {L : mLs} {st : List Value} {x y : Int32} : ev d 6 54 L (.int y :: .int x :: st) h = if x = y then ev d 6 65 L st h else ev d 6 57 L st h := ev_ic (x = y) inferInstance rfl d_6_54 (by decide)
theorem d_6_57 : decode (cd 6) 57 = .ok (.aload_n 0, 1) := by rw [cd_6]; decide +kernel
theorem e_6_57 {d : Nat} {h : mM} {T : mLs} {x : Nat} {st : List Value} : ev d 6 57 ( some (.ref x) :: T) st h = ev d 6 58 ( some (.ref x) :: T) (.ref x :: st) h := ev_of d_6_57 rfl
theorem d_6_58 : decode (cd 6) 58 = .ok (.aload_n 1, 1) := by rw [cd_6]; decide +kernel
theorem e_6_58 {d : Nat} {h : mM} {o0 : Option Value} {T : mLs} {x : Nat} {st : List Value} : ev d 6 58 (o0 :: some (.ref x) :: T) st h = ev d 6 59 (o0 :: some (.ref x) :: T) (.ref x :: st) h := ev_of d_6_58 rfl
theorem d_6_59 : decode (cd 6) 59 = .ok (.iload_n 2, 1) := by rw [cd_6]; decide +kernel
theorem e_6_59 {d : Nat} {h : mM} {o0 o1 : Option Value} {T : mLs} {x : Int32} {st : List Value} : ev d 6 59 (o0 :: o1 :: some (.int x) :: T) st h = ev d 6 60 (o0 :: o1 :: some (.int x) :: T) (.int x :: st) h := ev_of d_6_59 rfl
theorem d_6_60 : decode (cd 6) 60 = .ok (.iload 5, 2) := by rw [cd_6]; decide +kernel
theorem e_6_60 {d : Nat} {h : mM} {o0 o1 o2 o3 o4 : Option Value} {T : mLs} {x : Int32} {st : List Value} : ev d 6 60 (o0 :: o1 :: o2 :: o3 :: o4 :: some (.int x) :: T) st h = ev d 6 62 (o0 :: o1 :: o2 :: o3 :: o4 :: some (.int x) :: T) (.int x :: st) h := ev_of d_6_60 rfl
theorem d_6_62 : decode (cd 6) 62 = .ok (.invokevirtual 108, 3) := by rw [cd_6]; decide +kernel
theorem e_6_62 {d : Nat} {h : mM} {L : mLs} {st : List Value} {a : Nat} {x0 : Nat} {x1 : Int32} {x2 : Int32} (hc : mCat st ≤ 8) : ev (d + 1) 6 62 L (.int x2 :: .int x1 :: .ref x0 :: .ref a :: st) h = if mK h a = 1 then cV (ev d 7 0 [some (.ref a), some (.ref x0), some (.int x1), some (.int x2), none, none, none, none, none, none, none] [] h) (fun v h1 => ev (d + 1) 6 65 L (v ++ st) h1) else none := ev_cv (mj := 7) (as := [.ref x0, .int x1, .int x2]) (rest := st) d_6_62 (by decide +kernel) rfl rfl (by show _ ≤ List.length _; simp only [List.length_cons]; have : na 7 = 3 := rfl; omega) rfl (Nat.le_of_ble_eq_true rfl) hc
theorem d_6_65 : decode (cd 6) 65 = .ok (.iinc 4 1, 3) := by rw [cd_6]; decide +kernel
theorem e_6_65 {d : Nat} {h : mM} {o0 o1 o2 o3 : Option Value} {T : mLs} {x : Int32} {st : List Value} (hl : mLong o3 = false) : ev d 6 65 (o0 :: o1 :: o2 :: o3 :: some (.int x) :: T) st h = ev d 6 68 (o0 :: o1 :: o2 :: o3 :: some (.int (x + 1)) :: T) st h := ev_inc d_6_65 (by decide +kernel) rfl rfl (mS1_s (j := 3) hl)
theorem d_6_68 : decode (cd 6) 68 = .ok (.goto (-41), 3) := by rw [cd_6]; decide +kernel
theorem e_6_68 {d : Nat} {h : mM} {L : mLs} {st : List Value} : ev d 6 68 L st h = ev d 6 27 L st h := ev_go d_6_68 (by decide)
theorem d_6_71 : decode (cd 6) 71 = .ok (.return_, 1) := by rw [cd_6]; decide +kernel
theorem e_6_71 {d : Nat} {h : mM} {L : mLs} : ev d 6 71 L [] h = some (none, h) := ev_rv d_6_71 (by decide +kernel)
-- 7: Flow.runStones
theorem cd_7 : cd 7 = prog_3_method_7_code := rfl
theorem d_7_0 : decode (cd 7) 0 = .ok (.aload_n 0, 1) := by rw [cd_7]; decide +kernel
theorem e_7_0 {d : Nat} {h : mM} {T : mLs} {x : Nat} {st : List Value} : ev d 7 0 ( some (.ref x) :: T) st h = ev d 7 1 ( some (.ref x) :: T) (.ref x :: st) h := ev_of d_7_0 rfl
theorem d_7_1 : decode (cd 7) 1 = .ok (.getfield 28, 3) := by rw [cd_7]; decide +kernel
theorem e_7_1 {d : Nat} {h : mM} {L : mLs} {st : List Value} {a : Nat} : ev d 7 1 L (.ref a :: st) h = if mK h a = 1 then oB (mR h a 0) (fun b => ev d 7 4 L (.ref b :: st) h) else none := ev_gR d_7_1 (by decide +kernel) (by decide +kernel)
theorem d_7_4 : decode (cd 7) 4 = .ok (.getfield 111, 3) := by rw [cd_7]; decide +kernel
theorem e_7_4 {d : Nat} {h : mM} {L : mLs} {st : List Value} {a : Nat} : ev d 7 4 L (.ref a :: st) h = if mK h a = 8 then oB (mR h a 2) (fun b => ev d 7 7 L (.ref b :: st) h) else none := ev_gR d_7_4 (by decide +kernel) (by decide +kernel)
theorem d_7_7 : decode (cd 7) 7 = .ok (.iload_n 3, 1) := by rw [cd_7]; decide +kernel
theorem e_7_7 {d : Nat} {h : mM} {o0 o1 o2 : Option Value} {T : mLs} {x : Int32} {st : List Value} : ev d 7 7 (o0 :: o1 :: o2 :: some (.int x) :: T) st h = ev d 7 8 (o0 :: o1 :: o2 :: some (.int x) :: T) (.int x :: st) h := ev_of d_7_7 rfl
theorem d_7_8 : decode (cd 7) 8 = .ok (.aaload, 1) := by rw [cd_7]; decide +kernel
theorem e_7_8 {d : Nat} {h : mM} {L : mLs} {st : List Value} {a : Nat} {i : Int32} : ev d 7 8 L (.int i :: .ref a :: st) h = if (12 < mK h a ∧ mK h a < 19) ∧ ixOK i (mL h a) = true then oB (mR h a i.toNatClampNeg) (fun b => ev d 7 9 L (.ref b :: st) h) else none := ev_aa d_7_8
theorem d_7_9 : decode (cd 7) 9 = .ok (.astore 4, 2) := by rw [cd_7]; decide +kernel
theorem e_7_9 {d : Nat} {h : mM} {o0 o1 o2 o3 o4 : Option Value} {T : mLs} {x : Nat} {st : List Value} (hl : mLong o3 = false) : ev d 7 9 (o0 :: o1 :: o2 :: o3 :: o4 :: T) (.ref x :: st) h = ev d 7 11 (o0 :: o1 :: o2 :: o3 :: some (.ref x) :: T) st h := ev_st_r d_7_9 (by decide +kernel) (mS1_s (j := 3) hl)
theorem d_7_11 : decode (cd 7) 11 = .ok (.aload_n 0, 1) := by rw [cd_7]; decide +kernel
theorem e_7_11 {d : Nat} {h : mM} {T : mLs} {x : Nat} {st : List Value} : ev d 7 11 ( some (.ref x) :: T) st h = ev d 7 12 ( some (.ref x) :: T) (.ref x :: st) h := ev_of d_7_11 rfl
theorem d_7_12 : decode (cd 7) 12 = .ok (.getfield 28, 3) := by rw [cd_7]; decide +kernel
theorem e_7_12 {d : Nat} {h : mM} {L : mLs} {st : List Value} {a : Nat} : ev d 7 12 L (.ref a :: st) h = if mK h a = 1 then oB (mR h a 0) (fun b => ev d 7 15 L (.ref b :: st) h) else none := ev_gR d_7_12 (by decide +kernel) (by decide +kernel)
theorem d_7_15 : decode (cd 7) 15 = .ok (.getfield 52, 3) := by rw [cd_7]; decide +kernel
theorem e_7_15 {d : Nat} {h : mM} {L : mLs} {st : List Value} {a : Nat} : ev d 7 15 L (.ref a :: st) h = if mK h a = 8 then oB (mR h a 0) (fun b => ev d 7 18 L (.ref b :: st) h) else none := ev_gR d_7_15 (by decide +kernel) (by decide +kernel)
theorem d_7_18 : decode (cd 7) 18 = .ok (.aload 4, 2) := by rw [cd_7]; decide +kernel
theorem e_7_18 {d : Nat} {h : mM} {o0 o1 o2 o3 : Option Value} {T : mLs} {x : Nat} {st : List Value} : ev d 7 18 (o0 :: o1 :: o2 :: o3 :: some (.ref x) :: T) st h = ev d 7 20 (o0 :: o1 :: o2 :: o3 :: some (.ref x) :: T) (.ref x :: st) h := ev_of d_7_18 rfl
theorem d_7_20 : decode (cd 7) 20 = .ok (.getfield 115, 3) := by rw [cd_7]; decide +kernel
theorem e_7_20 {d : Nat} {h : mM} {L : mLs} {st : List Value} {a : Nat} : ev d 7 20 L (.ref a :: st) h = if mK h a = 2 then ev d 7 23 L (.int (mI h a 3) :: st) h else none := ev_gI d_7_20 (by decide +kernel) (by decide +kernel)
theorem d_7_23 : decode (cd 7) 23 = .ok (.aaload, 1) := by rw [cd_7]; decide +kernel
theorem e_7_23 {d : Nat} {h : mM} {L : mLs} {st : List Value} {a : Nat} {i : Int32} : ev d 7 23 L (.int i :: .ref a :: st) h = if (12 < mK h a ∧ mK h a < 19) ∧ ixOK i (mL h a) = true then oB (mR h a i.toNatClampNeg) (fun b => ev d 7 24 L (.ref b :: st) h) else none := ev_aa d_7_23
theorem d_7_24 : decode (cd 7) 24 = .ok (.astore 5, 2) := by rw [cd_7]; decide +kernel
theorem e_7_24 {d : Nat} {h : mM} {o0 o1 o2 o3 o4 o5 : Option Value} {T : mLs} {x : Nat} {st : List Value} (hl : mLong o4 = false) : ev d 7 24 (o0 :: o1 :: o2 :: o3 :: o4 :: o5 :: T) (.ref x :: st) h = ev d 7 26 (o0 :: o1 :: o2 :: o3 :: o4 :: some (.ref x) :: T) st h := ev_st_r d_7_24 (by decide +kernel) (mS1_s (j := 4) hl)
theorem d_7_26 : decode (cd 7) 26 = .ok (.aload_n 0, 1) := by rw [cd_7]; decide +kernel
theorem e_7_26 {d : Nat} {h : mM} {T : mLs} {x : Nat} {st : List Value} : ev d 7 26 ( some (.ref x) :: T) st h = ev d 7 27 ( some (.ref x) :: T) (.ref x :: st) h := ev_of d_7_26 rfl
theorem d_7_27 : decode (cd 7) 27 = .ok (.getfield 28, 3) := by rw [cd_7]; decide +kernel
theorem e_7_27 {d : Nat} {h : mM} {L : mLs} {st : List Value} {a : Nat} : ev d 7 27 L (.ref a :: st) h = if mK h a = 1 then oB (mR h a 0) (fun b => ev d 7 30 L (.ref b :: st) h) else none := ev_gR d_7_27 (by decide +kernel) (by decide +kernel)
theorem d_7_30 : decode (cd 7) 30 = .ok (.aload 4, 2) := by rw [cd_7]; decide +kernel
theorem e_7_30 {d : Nat} {h : mM} {o0 o1 o2 o3 : Option Value} {T : mLs} {x : Nat} {st : List Value} : ev d 7 30 (o0 :: o1 :: o2 :: o3 :: some (.ref x) :: T) st h = ev d 7 32 (o0 :: o1 :: o2 :: o3 :: some (.ref x) :: T) (.ref x :: st) h := ev_of d_7_30 rfl
theorem d_7_32 : decode (cd 7) 32 = .ok (.invokevirtual 120, 3) := by rw [cd_7]; decide +kernel
theorem e_7_32 {d : Nat} {h : mM} {L : mLs} {st : List Value} {a : Nat} {x0 : Nat} (hc : mCat st ≤ 8) : ev (d + 1) 7 32 L (.ref x0 :: .ref a :: st) h = if mK h a = 8 then cV (ev d 36 0 [some (.ref a), some (.ref x0), none, none, none] [] h) (fun v h1 => ev (d + 1) 7 35 L (v ++ st) h1) else none := ev_cv (mj := 36) (as := [.ref x0]) (rest := st) d_7_32 (by decide +kernel) rfl rfl (by show _ ≤ List.length _; simp only [List.length_cons]; have : na 36 = 1 := rfl; omega) rfl (Nat.le_of_ble_eq_true rfl) hc
theorem d_7_35 : decode (cd 7) 35 = .ok (.istore 6, 2) := by rw [cd_7]; decide +kernel
theorem e_7_35 {d : Nat} {h : mM} {o0 o1 o2 o3 o4 o5 o6 : Option Value} {T : mLs} {x : Int32} {st : List Value} (hl : mLong o5 = false) : ev d 7 35 (o0 :: o1 :: o2 :: o3 :: o4 :: o5 :: o6 :: T) (.int x :: st) h = ev d 7 37 (o0 :: o1 :: o2 :: o3 :: o4 :: o5 :: some (.int x) :: T) st h := ev_st_i d_7_35 (by decide +kernel) (mS1_s (j := 5) hl)
theorem d_7_37 : decode (cd 7) 37 = .ok (.iconst 0, 1) := by rw [cd_7]; decide +kernel
theorem e_7_37 {d : Nat} {h : mM} {L : mLs} {st : List Value} : ev d 7 37 L st h = ev d 7 38 L (.int 0 :: st) h := ev_of d_7_37 rfl
theorem d_7_38 : decode (cd 7) 38 = .ok (.istore 7, 2) := by rw [cd_7]; decide +kernel
theorem e_7_38 {d : Nat} {h : mM} {o0 o1 o2 o3 o4 o5 o6 o7 : Option Value} {T : mLs} {x : Int32} {st : List Value} (hl : mLong o6 = false) : ev d 7 38 (o0 :: o1 :: o2 :: o3 :: o4 :: o5 :: o6 :: o7 :: T) (.int x :: st) h = ev d 7 40 (o0 :: o1 :: o2 :: o3 :: o4 :: o5 :: o6 :: some (.int x) :: T) st h := ev_st_i d_7_38 (by decide +kernel) (mS1_s (j := 6) hl)
theorem d_7_40 : decode (cd 7) 40 = .ok (.iload 7, 2) := by rw [cd_7]; decide +kernel
theorem e_7_40 {d : Nat} {h : mM} {o0 o1 o2 o3 o4 o5 o6 : Option Value} {T : mLs} {x : Int32} {st : List Value} : ev d 7 40 (o0 :: o1 :: o2 :: o3 :: o4 :: o5 :: o6 :: some (.int x) :: T) st h = ev d 7 42 (o0 :: o1 :: o2 :: o3 :: o4 :: o5 :: o6 :: some (.int x) :: T) (.int x :: st) h := ev_of d_7_40 rfl
theorem d_7_42 : decode (cd 7) 42 = .ok (.aload 4, 2) := by rw [cd_7]; decide +kernel
theorem e_7_42 {d : Nat} {h : mM} {o0 o1 o2 o3 : Option Value} {T : mLs} {x : Nat} {st : List Value} : ev d 7 42 (o0 :: o1 :: o2 :: o3 :: some (.ref x) :: T) st h = ev d 7 44 (o0 :: o1 :: o2 :: o3 :: some (.ref x) :: T) (.ref x :: st) h := ev_of d_7_42 rfl
theorem d_7_44 : decode (cd 7) 44 = .ok (.getfield 124, 3) := by rw [cd_7]; decide +kernel
theorem e_7_44 {d : Nat} {h : mM} {L : mLs} {st : List Value} {a : Nat} : ev d 7 44 L (.ref a :: st) h = if mK h a = 2 then ev d 7 47 L (.int (mI h a 7) :: st) h else none := ev_gI d_7_44 (by decide +kernel) (by decide +kernel)
theorem d_7_47 : decode (cd 7) 47 = .ok (.if_icmp .ge 100, 3) := by rw [cd_7]; decide +kernel
theorem e_7_47 {d : Nat} {h : mM} {L : mLs} {st : List Value} {x y : Int32} : ev d 7 47 L (.int y :: .int x :: st) h = if y ≤ x then ev d 7 147 L st h else ev d 7 50 L st h := ev_ic (y ≤ x) inferInstance rfl d_7_47 (by decide)
theorem d_7_50 : decode (cd 7) 50 = .ok (.aload 4, 2) := by rw [cd_7]; decide +kernel
theorem e_7_50 {d : Nat} {h : mM} {o0 o1 o2 o3 : Option Value} {T : mLs} {x : Nat} {st : List Value} : ev d 7 50 (o0 :: o1 :: o2 :: o3 :: some (.ref x) :: T) st h = ev d 7 52 (o0 :: o1 :: o2 :: o3 :: some (.ref x) :: T) (.ref x :: st) h := ev_of d_7_50 rfl
theorem d_7_52 : decode (cd 7) 52 = .ok (.getfield 127, 3) := by rw [cd_7]; decide +kernel
theorem e_7_52 {d : Nat} {h : mM} {L : mLs} {st : List Value} {a : Nat} : ev d 7 52 L (.ref a :: st) h = if mK h a = 2 then oB (mR h a 0) (fun b => ev d 7 55 L (.ref b :: st) h) else none := ev_gR d_7_52 (by decide +kernel) (by decide +kernel)
theorem d_7_55 : decode (cd 7) 55 = .ok (.iload 7, 2) := by rw [cd_7]; decide +kernel
theorem e_7_55 {d : Nat} {h : mM} {o0 o1 o2 o3 o4 o5 o6 : Option Value} {T : mLs} {x : Int32} {st : List Value} : ev d 7 55 (o0 :: o1 :: o2 :: o3 :: o4 :: o5 :: o6 :: some (.int x) :: T) st h = ev d 7 57 (o0 :: o1 :: o2 :: o3 :: o4 :: o5 :: o6 :: some (.int x) :: T) (.int x :: st) h := ev_of d_7_55 rfl
theorem d_7_57 : decode (cd 7) 57 = .ok (.aaload, 1) := by rw [cd_7]; decide +kernel
theorem e_7_57 {d : Nat} {h : mM} {L : mLs} {st : List Value} {a : Nat} {i : Int32} : ev d 7 57 L (.int i :: .ref a :: st) h = if (12 < mK h a ∧ mK h a < 19) ∧ ixOK i (mL h a) = true then oB (mR h a i.toNatClampNeg) (fun b => ev d 7 58 L (.ref b :: st) h) else none := ev_aa d_7_57
theorem d_7_58 : decode (cd 7) 58 = .ok (.astore 8, 2) := by rw [cd_7]; decide +kernel
theorem e_7_58 {d : Nat} {h : mM} {o0 o1 o2 o3 o4 o5 o6 o7 o8 : Option Value} {T : mLs} {x : Nat} {st : List Value} (hl : mLong o7 = false) : ev d 7 58 (o0 :: o1 :: o2 :: o3 :: o4 :: o5 :: o6 :: o7 :: o8 :: T) (.ref x :: st) h = ev d 7 60 (o0 :: o1 :: o2 :: o3 :: o4 :: o5 :: o6 :: o7 :: some (.ref x) :: T) st h := ev_st_r d_7_58 (by decide +kernel) (mS1_s (j := 7) hl)
theorem d_7_60 : decode (cd 7) 60 = .ok (.aload_n 1, 1) := by rw [cd_7]; decide +kernel
theorem e_7_60 {d : Nat} {h : mM} {o0 : Option Value} {T : mLs} {x : Nat} {st : List Value} : ev d 7 60 (o0 :: some (.ref x) :: T) st h = ev d 7 61 (o0 :: some (.ref x) :: T) (.ref x :: st) h := ev_of d_7_60 rfl
theorem d_7_61 : decode (cd 7) 61 = .ok (.aload 4, 2) := by rw [cd_7]; decide +kernel
theorem e_7_61 {d : Nat} {h : mM} {o0 o1 o2 o3 : Option Value} {T : mLs} {x : Nat} {st : List Value} : ev d 7 61 (o0 :: o1 :: o2 :: o3 :: some (.ref x) :: T) st h = ev d 7 63 (o0 :: o1 :: o2 :: o3 :: some (.ref x) :: T) (.ref x :: st) h := ev_of d_7_61 rfl
theorem d_7_63 : decode (cd 7) 63 = .ok (.getfield 115, 3) := by rw [cd_7]; decide +kernel
theorem e_7_63 {d : Nat} {h : mM} {L : mLs} {st : List Value} {a : Nat} : ev d 7 63 L (.ref a :: st) h = if mK h a = 2 then ev d 7 66 L (.int (mI h a 3) :: st) h else none := ev_gI d_7_63 (by decide +kernel) (by decide +kernel)
theorem d_7_66 : decode (cd 7) 66 = .ok (.iaload, 1) := by rw [cd_7]; decide +kernel
theorem e_7_66 {d : Nat} {h : mM} {L : mLs} {st : List Value} {a : Nat} {i : Int32} : ev d 7 66 L (.int i :: .ref a :: st) h = if (mK h a = 11 ∨ mK h a = 19) ∧ ixOK i (mL h a) = true then ev d 7 67 L (.int (mI h a i.toNatClampNeg) :: st) h else none := ev_ia d_7_66
theorem d_7_67 : decode (cd 7) 67 = .ok (.istore 9, 2) := by rw [cd_7]; decide +kernel
theorem e_7_67 {d : Nat} {h : mM} {o0 o1 o2 o3 o4 o5 o6 o7 o8 o9 : Option Value} {T : mLs} {x : Int32} {st : List Value} (hl : mLong o8 = false) : ev d 7 67 (o0 :: o1 :: o2 :: o3 :: o4 :: o5 :: o6 :: o7 :: o8 :: o9 :: T) (.int x :: st) h = ev d 7 69 (o0 :: o1 :: o2 :: o3 :: o4 :: o5 :: o6 :: o7 :: o8 :: some (.int x) :: T) st h := ev_st_i d_7_67 (by decide +kernel) (mS1_s (j := 8) hl)
theorem d_7_69 : decode (cd 7) 69 = .ok (.aload 5, 2) := by rw [cd_7]; decide +kernel
theorem e_7_69 {d : Nat} {h : mM} {o0 o1 o2 o3 o4 : Option Value} {T : mLs} {x : Nat} {st : List Value} : ev d 7 69 (o0 :: o1 :: o2 :: o3 :: o4 :: some (.ref x) :: T) st h = ev d 7 71 (o0 :: o1 :: o2 :: o3 :: o4 :: some (.ref x) :: T) (.ref x :: st) h := ev_of d_7_69 rfl
theorem d_7_71 : decode (cd 7) 71 = .ok (.iload 9, 2) := by rw [cd_7]; decide +kernel
theorem e_7_71 {d : Nat} {h : mM} {o0 o1 o2 o3 o4 o5 o6 o7 o8 : Option Value} {T : mLs} {x : Int32} {st : List Value} : ev d 7 71 (o0 :: o1 :: o2 :: o3 :: o4 :: o5 :: o6 :: o7 :: o8 :: some (.int x) :: T) st h = ev d 7 73 (o0 :: o1 :: o2 :: o3 :: o4 :: o5 :: o6 :: o7 :: o8 :: some (.int x) :: T) (.int x :: st) h := ev_of d_7_71 rfl
theorem d_7_73 : decode (cd 7) 73 = .ok (.invokevirtual 77, 3) := by rw [cd_7]; decide +kernel
theorem e_7_73 {d : Nat} {h : mM} {L : mLs} {st : List Value} {a : Nat} {x0 : Int32} (hc : mCat st ≤ 8) : ev (d + 1) 7 73 L (.int x0 :: .ref a :: st) h = if mK h a = 3 then cV (ev d 16 0 [some (.ref a), some (.int x0)] [] h) (fun v h1 => ev (d + 1) 7 76 L (v ++ st) h1) else none := ev_cv (mj := 16) (as := [.int x0]) (rest := st) d_7_73 (by decide +kernel) rfl rfl (by show _ ≤ List.length _; simp only [List.length_cons]; have : na 16 = 1 := rfl; omega) rfl (Nat.le_of_ble_eq_true rfl) hc
theorem d_7_76 : decode (cd 7) 76 = .ok (.iload_n 2, 1) := by rw [cd_7]; decide +kernel
theorem e_7_76 {d : Nat} {h : mM} {o0 o1 : Option Value} {T : mLs} {x : Int32} {st : List Value} : ev d 7 76 (o0 :: o1 :: some (.int x) :: T) st h = ev d 7 77 (o0 :: o1 :: some (.int x) :: T) (.int x :: st) h := ev_of d_7_76 rfl
theorem d_7_77 : decode (cd 7) 77 = .ok (.isub, 1) := by rw [cd_7]; decide +kernel
theorem e_7_77 {d : Nat} {h : mM} {L : mLs} {st : List Value} {x y : Int32} : ev d 7 77 L (.int y :: .int x :: st) h = ev d 7 78 L (.int (x - y) :: st) h := ev_of d_7_77 rfl
theorem d_7_78 : decode (cd 7) 78 = .ok (.istore 10, 2) := by rw [cd_7]; decide +kernel
theorem e_7_78 {d : Nat} {h : mM} {o0 o1 o2 o3 o4 o5 o6 o7 o8 o9 o10 : Option Value} {T : mLs} {x : Int32} {st : List Value} (hl : mLong o9 = false) : ev d 7 78 (o0 :: o1 :: o2 :: o3 :: o4 :: o5 :: o6 :: o7 :: o8 :: o9 :: o10 :: T) (.int x :: st) h = ev d 7 80 (o0 :: o1 :: o2 :: o3 :: o4 :: o5 :: o6 :: o7 :: o8 :: o9 :: some (.int x) :: T) st h := ev_st_i d_7_78 (by decide +kernel) (mS1_s (j := 9) hl)
theorem d_7_80 : decode (cd 7) 80 = .ok (.aload 8, 2) := by rw [cd_7]; decide +kernel
theorem e_7_80 {d : Nat} {h : mM} {o0 o1 o2 o3 o4 o5 o6 o7 : Option Value} {T : mLs} {x : Nat} {st : List Value} : ev d 7 80 (o0 :: o1 :: o2 :: o3 :: o4 :: o5 :: o6 :: o7 :: some (.ref x) :: T) st h = ev d 7 82 (o0 :: o1 :: o2 :: o3 :: o4 :: o5 :: o6 :: o7 :: some (.ref x) :: T) (.ref x :: st) h := ev_of d_7_80 rfl
theorem d_7_82 : decode (cd 7) 82 = .ok (.iload 10, 2) := by rw [cd_7]; decide +kernel
theorem e_7_82 {d : Nat} {h : mM} {o0 o1 o2 o3 o4 o5 o6 o7 o8 o9 : Option Value} {T : mLs} {x : Int32} {st : List Value} : ev d 7 82 (o0 :: o1 :: o2 :: o3 :: o4 :: o5 :: o6 :: o7 :: o8 :: o9 :: some (.int x) :: T) st h = ev d 7 84 (o0 :: o1 :: o2 :: o3 :: o4 :: o5 :: o6 :: o7 :: o8 :: o9 :: some (.int x) :: T) (.int x :: st) h := ev_of d_7_82 rfl
theorem d_7_84 : decode (cd 7) 84 = .ok (.iload 9, 2) := by rw [cd_7]; decide +kernel
theorem e_7_84 {d : Nat} {h : mM} {o0 o1 o2 o3 o4 o5 o6 o7 o8 : Option Value} {T : mLs} {x : Int32} {st : List Value} : ev d 7 84 (o0 :: o1 :: o2 :: o3 :: o4 :: o5 :: o6 :: o7 :: o8 :: some (.int x) :: T) st h = ev d 7 86 (o0 :: o1 :: o2 :: o3 :: o4 :: o5 :: o6 :: o7 :: o8 :: some (.int x) :: T) (.int x :: st) h := ev_of d_7_84 rfl
theorem d_7_86 : decode (cd 7) 86 = .ok (.iload 6, 2) := by rw [cd_7]; decide +kernel
theorem e_7_86 {d : Nat} {h : mM} {o0 o1 o2 o3 o4 o5 : Option Value} {T : mLs} {x : Int32} {st : List Value} : ev d 7 86 (o0 :: o1 :: o2 :: o3 :: o4 :: o5 :: some (.int x) :: T) st h = ev d 7 88 (o0 :: o1 :: o2 :: o3 :: o4 :: o5 :: some (.int x) :: T) (.int x :: st) h := ev_of d_7_86 rfl
theorem d_7_88 : decode (cd 7) 88 = .ok (.invokevirtual 131, 3) := by rw [cd_7]; decide +kernel
theorem e_7_88 {d : Nat} {h : mM} {L : mLs} {st : List Value} {a : Nat} {x0 : Int32} {x1 : Int32} {x2 : Int32} (hc : mCat st ≤ 8) : ev (d + 1) 7 88 L (.int x2 :: .int x1 :: .int x0 :: .ref a :: st) h = if mK h a = 6 then cV (ev d 28 0 [some (.ref a), some (.int x0), some (.int x1), some (.int x2)] [] h) (fun v h1 => ev (d + 1) 7 91 L (v ++ st) h1) else none := ev_cv (mj := 28) (as := [.int x0, .int x1, .int x2]) (rest := st) d_7_88 (by decide +kernel) rfl rfl (by show _ ≤ List.length _; simp only [List.length_cons]; have : na 28 = 3 := rfl; omega) rfl (Nat.le_of_ble_eq_true rfl) hc
theorem d_7_91 : decode (cd 7) 91 = .ok (.ifCond .eq 50, 3) := by rw [cd_7]; decide +kernel
theorem e_7_91 {d : Nat} {h : mM} {L : mLs} {st : List Value} {x : Int32} : ev d 7 91 L (.int x :: st) h = if x = 0 then ev d 7 141 L st h else ev d 7 94 L st h := ev_if (x = 0) inferInstance rfl d_7_91 (by decide)
theorem d_7_94 : decode (cd 7) 94 = .ok (.aload_n 1, 1) := by rw [cd_7]; decide +kernel
theorem e_7_94 {d : Nat} {h : mM} {o0 : Option Value} {T : mLs} {x : Nat} {st : List Value} : ev d 7 94 (o0 :: some (.ref x) :: T) st h = ev d 7 95 (o0 :: some (.ref x) :: T) (.ref x :: st) h := ev_of d_7_94 rfl
theorem d_7_95 : decode (cd 7) 95 = .ok (.aload 4, 2) := by rw [cd_7]; decide +kernel
theorem e_7_95 {d : Nat} {h : mM} {o0 o1 o2 o3 : Option Value} {T : mLs} {x : Nat} {st : List Value} : ev d 7 95 (o0 :: o1 :: o2 :: o3 :: some (.ref x) :: T) st h = ev d 7 97 (o0 :: o1 :: o2 :: o3 :: some (.ref x) :: T) (.ref x :: st) h := ev_of d_7_95 rfl
theorem d_7_97 : decode (cd 7) 97 = .ok (.getfield 115, 3) := by rw [cd_7]; decide +kernel
theorem e_7_97 {d : Nat} {h : mM} {L : mLs} {st : List Value} {a : Nat} : ev d 7 97 L (.ref a :: st) h = if mK h a = 2 then ev d 7 100 L (.int (mI h a 3) :: st) h else none := ev_gI d_7_97 (by decide +kernel) (by decide +kernel)
theorem d_7_100 : decode (cd 7) 100 = .ok (.iload 9, 2) := by rw [cd_7]; decide +kernel
theorem e_7_100 {d : Nat} {h : mM} {o0 o1 o2 o3 o4 o5 o6 o7 o8 : Option Value} {T : mLs} {x : Int32} {st : List Value} : ev d 7 100 (o0 :: o1 :: o2 :: o3 :: o4 :: o5 :: o6 :: o7 :: o8 :: some (.int x) :: T) st h = ev d 7 102 (o0 :: o1 :: o2 :: o3 :: o4 :: o5 :: o6 :: o7 :: o8 :: some (.int x) :: T) (.int x :: st) h := ev_of d_7_100 rfl
theorem d_7_102 : decode (cd 7) 102 = .ok (.aload 8, 2) := by rw [cd_7]; decide +kernel
theorem e_7_102 {d : Nat} {h : mM} {o0 o1 o2 o3 o4 o5 o6 o7 : Option Value} {T : mLs} {x : Nat} {st : List Value} : ev d 7 102 (o0 :: o1 :: o2 :: o3 :: o4 :: o5 :: o6 :: o7 :: some (.ref x) :: T) st h = ev d 7 104 (o0 :: o1 :: o2 :: o3 :: o4 :: o5 :: o6 :: o7 :: some (.ref x) :: T) (.ref x :: st) h := ev_of d_7_102 rfl
theorem d_7_104 : decode (cd 7) 104 = .ok (.getfield 137, 3) := by rw [cd_7]; decide +kernel
theorem e_7_104 {d : Nat} {h : mM} {L : mLs} {st : List Value} {a : Nat} : ev d 7 104 L (.ref a :: st) h = if mK h a = 6 then ev d 7 107 L (.int (mI h a 1) :: st) h else none := ev_gI d_7_104 (by decide +kernel) (by decide +kernel)
theorem d_7_107 : decode (cd 7) 107 = .ok (.isub, 1) := by rw [cd_7]; decide +kernel
theorem e_7_107 {d : Nat} {h : mM} {L : mLs} {st : List Value} {x y : Int32} : ev d 7 107 L (.int y :: .int x :: st) h = ev d 7 108 L (.int (x - y) :: st) h := ev_of d_7_107 rfl
theorem d_7_108 : decode (cd 7) 108 = .ok (.iastore, 1) := by rw [cd_7]; decide +kernel
theorem e_7_108 {d : Nat} {h : mM} {L : mLs} {st : List Value} {a : Nat} {i v : Int32} : ev d 7 108 L (.int v :: .int i :: .ref a :: st) h = if mK h a = 11 ∧ ixOK i (mL h a) = true then ev d 7 109 L st (wI h a i.toNatClampNeg v) else none := ev_is d_7_108
theorem d_7_109 : decode (cd 7) 109 = .ok (.aload_n 0, 1) := by rw [cd_7]; decide +kernel
theorem e_7_109 {d : Nat} {h : mM} {T : mLs} {x : Nat} {st : List Value} : ev d 7 109 ( some (.ref x) :: T) st h = ev d 7 110 ( some (.ref x) :: T) (.ref x :: st) h := ev_of d_7_109 rfl
theorem d_7_110 : decode (cd 7) 110 = .ok (.dup, 1) := by rw [cd_7]; decide +kernel
theorem e_7_110r {d : Nat} {h : mM} {L : mLs} {st : List Value} {a : Nat} : ev d 7 110 L (.ref a :: st) h = ev d 7 111 L (.ref a :: .ref a :: st) h := ev_of d_7_110 rfl
theorem e_7_110i {d : Nat} {h : mM} {L : mLs} {st : List Value} {x : Int32} : ev d 7 110 L (.int x :: st) h = ev d 7 111 L (.int x :: .int x :: st) h := ev_of d_7_110 rfl
theorem d_7_111 : decode (cd 7) 111 = .ok (.getfield 25, 3) := by rw [cd_7]; decide +kernel
theorem e_7_111 {d : Nat} {h : mM} {L : mLs} {st : List Value} {a : Nat} : ev d 7 111 L (.ref a :: st) h = if mK h a = 1 then ev d 7 114 L (.int (mI h a 5) :: st) h else none := ev_gI d_7_111 (by decide +kernel) (by decide +kernel)
theorem d_7_114 : decode (cd 7) 114 = .ok (.aload 8, 2) := by rw [cd_7]; decide +kernel
theorem e_7_114 {d : Nat} {h : mM} {o0 o1 o2 o3 o4 o5 o6 o7 : Option Value} {T : mLs} {x : Nat} {st : List Value} : ev d 7 114 (o0 :: o1 :: o2 :: o3 :: o4 :: o5 :: o6 :: o7 :: some (.ref x) :: T) st h = ev d 7 116 (o0 :: o1 :: o2 :: o3 :: o4 :: o5 :: o6 :: o7 :: some (.ref x) :: T) (.ref x :: st) h := ev_of d_7_114 rfl
theorem d_7_116 : decode (cd 7) 116 = .ok (.getfield 137, 3) := by rw [cd_7]; decide +kernel
theorem e_7_116 {d : Nat} {h : mM} {L : mLs} {st : List Value} {a : Nat} : ev d 7 116 L (.ref a :: st) h = if mK h a = 6 then ev d 7 119 L (.int (mI h a 1) :: st) h else none := ev_gI d_7_116 (by decide +kernel) (by decide +kernel)
theorem d_7_119 : decode (cd 7) 119 = .ok (.iadd, 1) := by rw [cd_7]; decide +kernel
theorem e_7_119 {d : Nat} {h : mM} {L : mLs} {st : List Value} {x y : Int32} : ev d 7 119 L (.int y :: .int x :: st) h = ev d 7 120 L (.int (x + y) :: st) h := ev_of d_7_119 rfl
theorem d_7_120 : decode (cd 7) 120 = .ok (.putfield 25, 3) := by rw [cd_7]; decide +kernel
theorem e_7_120 {d : Nat} {h : mM} {L : mLs} {st : List Value} {a : Nat} {v : Int32} : ev d 7 120 L (.int v :: .ref a :: st) h = if mK h a = 1 then ev d 7 123 L st (wI h a 5 v) else none := ev_pI d_7_120 (by decide +kernel) (by decide +kernel) (by decide +kernel)
theorem d_7_123 : decode (cd 7) 123 = .ok (.aload_n 0, 1) := by rw [cd_7]; decide +kernel
theorem e_7_123 {d : Nat} {h : mM} {T : mLs} {x : Nat} {st : List Value} : ev d 7 123 ( some (.ref x) :: T) st h = ev d 7 124 ( some (.ref x) :: T) (.ref x :: st) h := ev_of d_7_123 rfl
theorem d_7_124 : decode (cd 7) 124 = .ok (.getfield 9, 3) := by rw [cd_7]; decide +kernel
theorem e_7_124 {d : Nat} {h : mM} {L : mLs} {st : List Value} {a : Nat} : ev d 7 124 L (.ref a :: st) h = if mK h a = 1 then oB (mR h a 1) (fun b => ev d 7 127 L (.ref b :: st) h) else none := ev_gR d_7_124 (by decide +kernel) (by decide +kernel)
theorem d_7_127 : decode (cd 7) 127 = .ok (.iload_n 3, 1) := by rw [cd_7]; decide +kernel
theorem e_7_127 {d : Nat} {h : mM} {o0 o1 o2 : Option Value} {T : mLs} {x : Int32} {st : List Value} : ev d 7 127 (o0 :: o1 :: o2 :: some (.int x) :: T) st h = ev d 7 128 (o0 :: o1 :: o2 :: some (.int x) :: T) (.int x :: st) h := ev_of d_7_127 rfl
theorem d_7_128 : decode (cd 7) 128 = .ok (.iconst 3, 1) := by rw [cd_7]; decide +kernel
theorem e_7_128 {d : Nat} {h : mM} {L : mLs} {st : List Value} : ev d 7 128 L st h = ev d 7 129 L (.int 3 :: st) h := ev_of d_7_128 rfl
theorem d_7_129 : decode (cd 7) 129 = .ok (.imul, 1) := by rw [cd_7]; decide +kernel
theorem e_7_129 {d : Nat} {h : mM} {L : mLs} {st : List Value} {x y : Int32} : ev d 7 129 L (.int y :: .int x :: st) h = ev d 7 130 L (.int (x * y) :: st) h := ev_of d_7_129 rfl
theorem d_7_130 : decode (cd 7) 130 = .ok (.iload 7, 2) := by rw [cd_7]; decide +kernel
theorem e_7_130 {d : Nat} {h : mM} {o0 o1 o2 o3 o4 o5 o6 : Option Value} {T : mLs} {x : Int32} {st : List Value} : ev d 7 130 (o0 :: o1 :: o2 :: o3 :: o4 :: o5 :: o6 :: some (.int x) :: T) st h = ev d 7 132 (o0 :: o1 :: o2 :: o3 :: o4 :: o5 :: o6 :: some (.int x) :: T) (.int x :: st) h := ev_of d_7_130 rfl
theorem d_7_132 : decode (cd 7) 132 = .ok (.iadd, 1) := by rw [cd_7]; decide +kernel
theorem e_7_132 {d : Nat} {h : mM} {L : mLs} {st : List Value} {x y : Int32} : ev d 7 132 L (.int y :: .int x :: st) h = ev d 7 133 L (.int (x + y) :: st) h := ev_of d_7_132 rfl
theorem d_7_133 : decode (cd 7) 133 = .ok (.aload 8, 2) := by rw [cd_7]; decide +kernel
theorem e_7_133 {d : Nat} {h : mM} {o0 o1 o2 o3 o4 o5 o6 o7 : Option Value} {T : mLs} {x : Nat} {st : List Value} : ev d 7 133 (o0 :: o1 :: o2 :: o3 :: o4 :: o5 :: o6 :: o7 :: some (.ref x) :: T) st h = ev d 7 135 (o0 :: o1 :: o2 :: o3 :: o4 :: o5 :: o6 :: o7 :: some (.ref x) :: T) (.ref x :: st) h := ev_of d_7_133 rfl
theorem d_7_135 : decode (cd 7) 135 = .ok (.iload 10, 2) := by rw [cd_7]; decide +kernel
theorem e_7_135 {d : Nat} {h : mM} {o0 o1 o2 o3 o4 o5 o6 o7 o8 o9 : Option Value} {T : mLs} {x : Int32} {st : List Value} : ev d 7 135 (o0 :: o1 :: o2 :: o3 :: o4 :: o5 :: o6 :: o7 :: o8 :: o9 :: some (.int x) :: T) st h = ev d 7 137 (o0 :: o1 :: o2 :: o3 :: o4 :: o5 :: o6 :: o7 :: o8 :: o9 :: some (.int x) :: T) (.int x :: st) h := ev_of d_7_135 rfl
theorem d_7_137 : decode (cd 7) 137 = .ok (.invokevirtual 140, 3) := by rw [cd_7]; decide +kernel
theorem e_7_137 {d : Nat} {h : mM} {L : mLs} {st : List Value} {a : Nat} {x0 : Int32} (hc : mCat st ≤ 8) : ev (d + 1) 7 137 L (.int x0 :: .ref a :: st) h = if mK h a = 6 then cV (ev d 29 0 [some (.ref a), some (.int x0)] [] h) (fun v h1 => ev (d + 1) 7 140 L (v ++ st) h1) else none := ev_cv (mj := 29) (as := [.int x0]) (rest := st) d_7_137 (by decide +kernel) rfl rfl (by show _ ≤ List.length _; simp only [List.length_cons]; have : na 29 = 1 := rfl; omega) rfl (Nat.le_of_ble_eq_true rfl) hc
theorem d_7_140 : decode (cd 7) 140 = .ok (.iastore, 1) := by rw [cd_7]; decide +kernel
theorem e_7_140 {d : Nat} {h : mM} {L : mLs} {st : List Value} {a : Nat} {i v : Int32} : ev d 7 140 L (.int v :: .int i :: .ref a :: st) h = if mK h a = 11 ∧ ixOK i (mL h a) = true then ev d 7 141 L st (wI h a i.toNatClampNeg v) else none := ev_is d_7_140
theorem d_7_141 : decode (cd 7) 141 = .ok (.iinc 7 1, 3) := by rw [cd_7]; decide +kernel
theorem e_7_141 {d : Nat} {h : mM} {o0 o1 o2 o3 o4 o5 o6 : Option Value} {T : mLs} {x : Int32} {st : List Value} (hl : mLong o6 = false) : ev d 7 141 (o0 :: o1 :: o2 :: o3 :: o4 :: o5 :: o6 :: some (.int x) :: T) st h = ev d 7 144 (o0 :: o1 :: o2 :: o3 :: o4 :: o5 :: o6 :: some (.int (x + 1)) :: T) st h := ev_inc d_7_141 (by decide +kernel) rfl rfl (mS1_s (j := 6) hl)
theorem d_7_144 : decode (cd 7) 144 = .ok (.goto (-104), 3) := by rw [cd_7]; decide +kernel
theorem e_7_144 {d : Nat} {h : mM} {L : mLs} {st : List Value} : ev d 7 144 L st h = ev d 7 40 L st h := ev_go d_7_144 (by decide)
theorem d_7_147 : decode (cd 7) 147 = .ok (.return_, 1) := by rw [cd_7]; decide +kernel
theorem e_7_147 {d : Nat} {h : mM} {L : mLs} : ev d 7 147 L [] h = some (none, h) := ev_rv d_7_147 (by decide +kernel)
-- 8: Flow.spillBanks
theorem cd_8 : cd 8 = prog_3_method_8_code := rfl
theorem d_8_0 : decode (cd 8) 0 = .ok (.iconst 0, 1) := by rw [cd_8]; decide +kernel
theorem e_8_0 {d : Nat} {h : mM} {L : mLs} {st : List Value} : ev d 8 0 L st h = ev d 8 1 L (.int 0 :: st) h := ev_of d_8_0 rfl
theorem d_8_1 : decode (cd 8) 1 = .ok (.istore_n 2, 1) := by rw [cd_8]; decide +kernel
theorem e_8_1 {d : Nat} {h : mM} {o0 o1 o2 : Option Value} {T : mLs} {x : Int32} {st : List Value} (hl : mLong o1 = false) : ev d 8 1 (o0 :: o1 :: o2 :: T) (.int x :: st) h = ev d 8 2 (o0 :: o1 :: some (.int x) :: T) st h := ev_st_in d_8_1 (by decide +kernel) (mS1_s (j := 1) hl)
theorem d_8_2 : decode (cd 8) 2 = .ok (.iload_n 2, 1) := by rw [cd_8]; decide +kernel
theorem e_8_2 {d : Nat} {h : mM} {o0 o1 : Option Value} {T : mLs} {x : Int32} {st : List Value} : ev d 8 2 (o0 :: o1 :: some (.int x) :: T) st h = ev d 8 3 (o0 :: o1 :: some (.int x) :: T) (.int x :: st) h := ev_of d_8_2 rfl
theorem d_8_3 : decode (cd 8) 3 = .ok (.aload_n 0, 1) := by rw [cd_8]; decide +kernel
theorem e_8_3 {d : Nat} {h : mM} {T : mLs} {x : Nat} {st : List Value} : ev d 8 3 ( some (.ref x) :: T) st h = ev d 8 4 ( some (.ref x) :: T) (.ref x :: st) h := ev_of d_8_3 rfl
theorem d_8_4 : decode (cd 8) 4 = .ok (.getfield 28, 3) := by rw [cd_8]; decide +kernel
theorem e_8_4 {d : Nat} {h : mM} {L : mLs} {st : List Value} {a : Nat} : ev d 8 4 L (.ref a :: st) h = if mK h a = 1 then oB (mR h a 0) (fun b => ev d 8 7 L (.ref b :: st) h) else none := ev_gR d_8_4 (by decide +kernel) (by decide +kernel)
theorem d_8_7 : decode (cd 8) 7 = .ok (.getfield 47, 3) := by rw [cd_8]; decide +kernel
theorem e_8_7 {d : Nat} {h : mM} {L : mLs} {st : List Value} {a : Nat} : ev d 8 7 L (.ref a :: st) h = if mK h a = 8 then ev d 8 10 L (.int (mI h a 4) :: st) h else none := ev_gI d_8_7 (by decide +kernel) (by decide +kernel)
theorem d_8_10 : decode (cd 8) 10 = .ok (.if_icmp .ge 47, 3) := by rw [cd_8]; decide +kernel
theorem e_8_10 {d : Nat} {h : mM} {L : mLs} {st : List Value} {x y : Int32} : ev d 8 10 L (.int y :: .int x :: st) h = if y ≤ x then ev d 8 57 L st h else ev d 8 13 L st h := ev_ic (y ≤ x) inferInstance rfl d_8_10 (by decide)
theorem d_8_13 : decode (cd 8) 13 = .ok (.aload_n 1, 1) := by rw [cd_8]; decide +kernel
theorem e_8_13 {d : Nat} {h : mM} {o0 : Option Value} {T : mLs} {x : Nat} {st : List Value} : ev d 8 13 (o0 :: some (.ref x) :: T) st h = ev d 8 14 (o0 :: some (.ref x) :: T) (.ref x :: st) h := ev_of d_8_13 rfl
theorem d_8_14 : decode (cd 8) 14 = .ok (.iload_n 2, 1) := by rw [cd_8]; decide +kernel
theorem e_8_14 {d : Nat} {h : mM} {o0 o1 : Option Value} {T : mLs} {x : Int32} {st : List Value} : ev d 8 14 (o0 :: o1 :: some (.int x) :: T) st h = ev d 8 15 (o0 :: o1 :: some (.int x) :: T) (.int x :: st) h := ev_of d_8_14 rfl
theorem d_8_15 : decode (cd 8) 15 = .ok (.iaload, 1) := by rw [cd_8]; decide +kernel
theorem e_8_15 {d : Nat} {h : mM} {L : mLs} {st : List Value} {a : Nat} {i : Int32} : ev d 8 15 L (.int i :: .ref a :: st) h = if (mK h a = 11 ∨ mK h a = 19) ∧ ixOK i (mL h a) = true then ev d 8 16 L (.int (mI h a i.toNatClampNeg) :: st) h else none := ev_ia d_8_15
theorem d_8_16 : decode (cd 8) 16 = .ok (.aload_n 0, 1) := by rw [cd_8]; decide +kernel
theorem e_8_16 {d : Nat} {h : mM} {T : mLs} {x : Nat} {st : List Value} : ev d 8 16 ( some (.ref x) :: T) st h = ev d 8 17 ( some (.ref x) :: T) (.ref x :: st) h := ev_of d_8_16 rfl
theorem d_8_17 : decode (cd 8) 17 = .ok (.getfield 28, 3) := by rw [cd_8]; decide +kernel
theorem e_8_17 {d : Nat} {h : mM} {L : mLs} {st : List Value} {a : Nat} : ev d 8 17 L (.ref a :: st) h = if mK h a = 1 then oB (mR h a 0) (fun b => ev d 8 20 L (.ref b :: st) h) else none := ev_gR d_8_17 (by decide +kernel) (by decide +kernel)
theorem d_8_20 : decode (cd 8) 20 = .ok (.getfield 52, 3) := by rw [cd_8]; decide +kernel
theorem e_8_20 {d : Nat} {h : mM} {L : mLs} {st : List Value} {a : Nat} : ev d 8 20 L (.ref a :: st) h = if mK h a = 8 then oB (mR h a 0) (fun b => ev d 8 23 L (.ref b :: st) h) else none := ev_gR d_8_20 (by decide +kernel) (by decide +kernel)
theorem d_8_23 : decode (cd 8) 23 = .ok (.iload_n 2, 1) := by rw [cd_8]; decide +kernel
theorem e_8_23 {d : Nat} {h : mM} {o0 o1 : Option Value} {T : mLs} {x : Int32} {st : List Value} : ev d 8 23 (o0 :: o1 :: some (.int x) :: T) st h = ev d 8 24 (o0 :: o1 :: some (.int x) :: T) (.int x :: st) h := ev_of d_8_23 rfl
theorem d_8_24 : decode (cd 8) 24 = .ok (.aaload, 1) := by rw [cd_8]; decide +kernel
theorem e_8_24 {d : Nat} {h : mM} {L : mLs} {st : List Value} {a : Nat} {i : Int32} : ev d 8 24 L (.int i :: .ref a :: st) h = if (12 < mK h a ∧ mK h a < 19) ∧ ixOK i (mL h a) = true then oB (mR h a i.toNatClampNeg) (fun b => ev d 8 25 L (.ref b :: st) h) else none := ev_aa d_8_24
theorem d_8_25 : decode (cd 8) 25 = .ok (.invokevirtual 143, 3) := by rw [cd_8]; decide +kernel
theorem e_8_25 {d : Nat} {h : mM} {L : mLs} {st : List Value} {a : Nat} (hc : mCat st ≤ 8) : ev (d + 1) 8 25 L (.ref a :: st) h = if mK h a = 3 then cV (ev d 17 0 [some (.ref a)] [] h) (fun v h1 => ev (d + 1) 8 28 L (v ++ st) h1) else none := ev_cv (mj := 17) (as := []) (rest := st) d_8_25 (by decide +kernel) rfl rfl (by show _ ≤ List.length _; simp only [List.length_cons]; have : na 17 = 0 := rfl; omega) rfl (Nat.le_of_ble_eq_true rfl) hc
theorem d_8_28 : decode (cd 8) 28 = .ok (.isub, 1) := by rw [cd_8]; decide +kernel
theorem e_8_28 {d : Nat} {h : mM} {L : mLs} {st : List Value} {x y : Int32} : ev d 8 28 L (.int y :: .int x :: st) h = ev d 8 29 L (.int (x - y) :: st) h := ev_of d_8_28 rfl
theorem d_8_29 : decode (cd 8) 29 = .ok (.istore_n 3, 1) := by rw [cd_8]; decide +kernel
theorem e_8_29 {d : Nat} {h : mM} {o0 o1 o2 o3 : Option Value} {T : mLs} {x : Int32} {st : List Value} (hl : mLong o2 = false) : ev d 8 29 (o0 :: o1 :: o2 :: o3 :: T) (.int x :: st) h = ev d 8 30 (o0 :: o1 :: o2 :: some (.int x) :: T) st h := ev_st_in d_8_29 (by decide +kernel) (mS1_s (j := 2) hl)
theorem d_8_30 : decode (cd 8) 30 = .ok (.iload_n 3, 1) := by rw [cd_8]; decide +kernel
theorem e_8_30 {d : Nat} {h : mM} {o0 o1 o2 : Option Value} {T : mLs} {x : Int32} {st : List Value} : ev d 8 30 (o0 :: o1 :: o2 :: some (.int x) :: T) st h = ev d 8 31 (o0 :: o1 :: o2 :: some (.int x) :: T) (.int x :: st) h := ev_of d_8_30 rfl
theorem d_8_31 : decode (cd 8) 31 = .ok (.ifCond .le 20, 3) := by rw [cd_8]; decide +kernel
theorem e_8_31 {d : Nat} {h : mM} {L : mLs} {st : List Value} {x : Int32} : ev d 8 31 L (.int x :: st) h = if x ≤ 0 then ev d 8 51 L st h else ev d 8 34 L st h := ev_if (x ≤ 0) inferInstance rfl d_8_31 (by decide)
theorem d_8_34 : decode (cd 8) 34 = .ok (.aload_n 1, 1) := by rw [cd_8]; decide +kernel
theorem e_8_34 {d : Nat} {h : mM} {o0 : Option Value} {T : mLs} {x : Nat} {st : List Value} : ev d 8 34 (o0 :: some (.ref x) :: T) st h = ev d 8 35 (o0 :: some (.ref x) :: T) (.ref x :: st) h := ev_of d_8_34 rfl
theorem d_8_35 : decode (cd 8) 35 = .ok (.iload_n 2, 1) := by rw [cd_8]; decide +kernel
theorem e_8_35 {d : Nat} {h : mM} {o0 o1 : Option Value} {T : mLs} {x : Int32} {st : List Value} : ev d 8 35 (o0 :: o1 :: some (.int x) :: T) st h = ev d 8 36 (o0 :: o1 :: some (.int x) :: T) (.int x :: st) h := ev_of d_8_35 rfl
theorem d_8_36 : decode (cd 8) 36 = .ok (.dup2, 1) := by rw [cd_8]; decide +kernel
theorem e_8_36 {d : Nat} {h : mM} {L : mLs} {st : List Value} {a : Nat} {i : Int32} : ev d 8 36 L (.int i :: .ref a :: st) h = ev d 8 37 L (.int i :: .ref a :: .int i :: .ref a :: st) h := ev_of d_8_36 rfl
theorem d_8_37 : decode (cd 8) 37 = .ok (.iaload, 1) := by rw [cd_8]; decide +kernel
theorem e_8_37 {d : Nat} {h : mM} {L : mLs} {st : List Value} {a : Nat} {i : Int32} : ev d 8 37 L (.int i :: .ref a :: st) h = if (mK h a = 11 ∨ mK h a = 19) ∧ ixOK i (mL h a) = true then ev d 8 38 L (.int (mI h a i.toNatClampNeg) :: st) h else none := ev_ia d_8_37
theorem d_8_38 : decode (cd 8) 38 = .ok (.iload_n 3, 1) := by rw [cd_8]; decide +kernel
theorem e_8_38 {d : Nat} {h : mM} {o0 o1 o2 : Option Value} {T : mLs} {x : Int32} {st : List Value} : ev d 8 38 (o0 :: o1 :: o2 :: some (.int x) :: T) st h = ev d 8 39 (o0 :: o1 :: o2 :: some (.int x) :: T) (.int x :: st) h := ev_of d_8_38 rfl
theorem d_8_39 : decode (cd 8) 39 = .ok (.isub, 1) := by rw [cd_8]; decide +kernel
theorem e_8_39 {d : Nat} {h : mM} {L : mLs} {st : List Value} {x y : Int32} : ev d 8 39 L (.int y :: .int x :: st) h = ev d 8 40 L (.int (x - y) :: st) h := ev_of d_8_39 rfl
theorem d_8_40 : decode (cd 8) 40 = .ok (.iastore, 1) := by rw [cd_8]; decide +kernel
theorem e_8_40 {d : Nat} {h : mM} {L : mLs} {st : List Value} {a : Nat} {i v : Int32} : ev d 8 40 L (.int v :: .int i :: .ref a :: st) h = if mK h a = 11 ∧ ixOK i (mL h a) = true then ev d 8 41 L st (wI h a i.toNatClampNeg v) else none := ev_is d_8_40
theorem d_8_41 : decode (cd 8) 41 = .ok (.aload_n 0, 1) := by rw [cd_8]; decide +kernel
theorem e_8_41 {d : Nat} {h : mM} {T : mLs} {x : Nat} {st : List Value} : ev d 8 41 ( some (.ref x) :: T) st h = ev d 8 42 ( some (.ref x) :: T) (.ref x :: st) h := ev_of d_8_41 rfl
theorem d_8_42 : decode (cd 8) 42 = .ok (.dup, 1) := by rw [cd_8]; decide +kernel
theorem e_8_42r {d : Nat} {h : mM} {L : mLs} {st : List Value} {a : Nat} : ev d 8 42 L (.ref a :: st) h = ev d 8 43 L (.ref a :: .ref a :: st) h := ev_of d_8_42 rfl
theorem e_8_42i {d : Nat} {h : mM} {L : mLs} {st : List Value} {x : Int32} : ev d 8 42 L (.int x :: st) h = ev d 8 43 L (.int x :: .int x :: st) h := ev_of d_8_42 rfl
theorem d_8_43 : decode (cd 8) 43 = .ok (.getfield 22, 3) := by rw [cd_8]; decide +kernel
theorem e_8_43 {d : Nat} {h : mM} {L : mLs} {st : List Value} {a : Nat} : ev d 8 43 L (.ref a :: st) h = if mK h a = 1 then ev d 8 46 L (.int (mI h a 4) :: st) h else none := ev_gI d_8_43 (by decide +kernel) (by decide +kernel)
theorem d_8_46 : decode (cd 8) 46 = .ok (.iload_n 3, 1) := by rw [cd_8]; decide +kernel
theorem e_8_46 {d : Nat} {h : mM} {o0 o1 o2 : Option Value} {T : mLs} {x : Int32} {st : List Value} : ev d 8 46 (o0 :: o1 :: o2 :: some (.int x) :: T) st h = ev d 8 47 (o0 :: o1 :: o2 :: some (.int x) :: T) (.int x :: st) h := ev_of d_8_46 rfl
theorem d_8_47 : decode (cd 8) 47 = .ok (.iadd, 1) := by rw [cd_8]; decide +kernel
theorem e_8_47 {d : Nat} {h : mM} {L : mLs} {st : List Value} {x y : Int32} : ev d 8 47 L (.int y :: .int x :: st) h = ev d 8 48 L (.int (x + y) :: st) h := ev_of d_8_47 rfl
theorem d_8_48 : decode (cd 8) 48 = .ok (.putfield 22, 3) := by rw [cd_8]; decide +kernel
theorem e_8_48 {d : Nat} {h : mM} {L : mLs} {st : List Value} {a : Nat} {v : Int32} : ev d 8 48 L (.int v :: .ref a :: st) h = if mK h a = 1 then ev d 8 51 L st (wI h a 4 v) else none := ev_pI d_8_48 (by decide +kernel) (by decide +kernel) (by decide +kernel)
theorem d_8_51 : decode (cd 8) 51 = .ok (.iinc 2 1, 3) := by rw [cd_8]; decide +kernel
theorem e_8_51 {d : Nat} {h : mM} {o0 o1 : Option Value} {T : mLs} {x : Int32} {st : List Value} (hl : mLong o1 = false) : ev d 8 51 (o0 :: o1 :: some (.int x) :: T) st h = ev d 8 54 (o0 :: o1 :: some (.int (x + 1)) :: T) st h := ev_inc d_8_51 (by decide +kernel) rfl rfl (mS1_s (j := 1) hl)
theorem d_8_54 : decode (cd 8) 54 = .ok (.goto (-52), 3) := by rw [cd_8]; decide +kernel
theorem e_8_54 {d : Nat} {h : mM} {L : mLs} {st : List Value} : ev d 8 54 L st h = ev d 8 2 L st h := ev_go d_8_54 (by decide)
theorem d_8_57 : decode (cd 8) 57 = .ok (.return_, 1) := by rw [cd_8]; decide +kernel
theorem e_8_57 {d : Nat} {h : mM} {L : mLs} : ev d 8 57 L [] h = some (none, h) := ev_rv d_8_57 (by decide +kernel)
-- 9: Flow.groundBy
theorem cd_9 : cd 9 = prog_3_method_9_code := rfl
theorem d_9_0 : decode (cd 9) 0 = .ok (.iconst 0, 1) := by rw [cd_9]; decide +kernel
theorem e_9_0 {d : Nat} {h : mM} {L : mLs} {st : List Value} : ev d 9 0 L st h = ev d 9 1 L (.int 0 :: st) h := ev_of d_9_0 rfl
theorem d_9_1 : decode (cd 9) 1 = .ok (.istore_n 2, 1) := by rw [cd_9]; decide +kernel
theorem e_9_1 {d : Nat} {h : mM} {o0 o1 o2 : Option Value} {T : mLs} {x : Int32} {st : List Value} (hl : mLong o1 = false) : ev d 9 1 (o0 :: o1 :: o2 :: T) (.int x :: st) h = ev d 9 2 (o0 :: o1 :: some (.int x) :: T) st h := ev_st_in d_9_1 (by decide +kernel) (mS1_s (j := 1) hl)
theorem d_9_2 : decode (cd 9) 2 = .ok (.iconst 0, 1) := by rw [cd_9]; decide +kernel
theorem e_9_2 {d : Nat} {h : mM} {L : mLs} {st : List Value} : ev d 9 2 L st h = ev d 9 3 L (.int 0 :: st) h := ev_of d_9_2 rfl
theorem d_9_3 : decode (cd 9) 3 = .ok (.istore_n 3, 1) := by rw [cd_9]; decide +kernel
theorem e_9_3 {d : Nat} {h : mM} {o0 o1 o2 o3 : Option Value} {T : mLs} {x : Int32} {st : List Value} (hl : mLong o2 = false) : ev d 9 3 (o0 :: o1 :: o2 :: o3 :: T) (.int x :: st) h = ev d 9 4 (o0 :: o1 :: o2 :: some (.int x) :: T) st h := ev_st_in d_9_3 (by decide +kernel) (mS1_s (j := 2) hl)
theorem d_9_4 : decode (cd 9) 4 = .ok (.iload_n 3, 1) := by rw [cd_9]; decide +kernel
theorem e_9_4 {d : Nat} {h : mM} {o0 o1 o2 : Option Value} {T : mLs} {x : Int32} {st : List Value} : ev d 9 4 (o0 :: o1 :: o2 :: some (.int x) :: T) st h = ev d 9 5 (o0 :: o1 :: o2 :: some (.int x) :: T) (.int x :: st) h := ev_of d_9_4 rfl
theorem d_9_5 : decode (cd 9) 5 = .ok (.iconst 3, 1) := by rw [cd_9]; decide +kernel
theorem e_9_5 {d : Nat} {h : mM} {L : mLs} {st : List Value} : ev d 9 5 L st h = ev d 9 6 L (.int 3 :: st) h := ev_of d_9_5 rfl
theorem d_9_6 : decode (cd 9) 6 = .ok (.if_icmp .ge 22, 3) := by rw [cd_9]; decide +kernel
theorem e_9_6 {d : Nat} {h : mM} {L : mLs} {st : List Value} {x y : Int32} : ev d 9 6 L (.int y :: .int x :: st) h = if y ≤ x then ev d 9 28 L st h else ev d 9 9 L st h := ev_ic (y ≤ x) inferInstance rfl d_9_6 (by decide)
theorem d_9_9 : decode (cd 9) 9 = .ok (.iload_n 2, 1) := by rw [cd_9]; decide +kernel
theorem e_9_9 {d : Nat} {h : mM} {o0 o1 : Option Value} {T : mLs} {x : Int32} {st : List Value} : ev d 9 9 (o0 :: o1 :: some (.int x) :: T) st h = ev d 9 10 (o0 :: o1 :: some (.int x) :: T) (.int x :: st) h := ev_of d_9_9 rfl
theorem d_9_10 : decode (cd 9) 10 = .ok (.aload_n 0, 1) := by rw [cd_9]; decide +kernel
theorem e_9_10 {d : Nat} {h : mM} {T : mLs} {x : Nat} {st : List Value} : ev d 9 10 ( some (.ref x) :: T) st h = ev d 9 11 ( some (.ref x) :: T) (.ref x :: st) h := ev_of d_9_10 rfl
theorem d_9_11 : decode (cd 9) 11 = .ok (.getfield 9, 3) := by rw [cd_9]; decide +kernel
theorem e_9_11 {d : Nat} {h : mM} {L : mLs} {st : List Value} {a : Nat} : ev d 9 11 L (.ref a :: st) h = if mK h a = 1 then oB (mR h a 1) (fun b => ev d 9 14 L (.ref b :: st) h) else none := ev_gR d_9_11 (by decide +kernel) (by decide +kernel)
theorem d_9_14 : decode (cd 9) 14 = .ok (.iload_n 1, 1) := by rw [cd_9]; decide +kernel
theorem e_9_14 {d : Nat} {h : mM} {o0 : Option Value} {T : mLs} {x : Int32} {st : List Value} : ev d 9 14 (o0 :: some (.int x) :: T) st h = ev d 9 15 (o0 :: some (.int x) :: T) (.int x :: st) h := ev_of d_9_14 rfl
theorem d_9_15 : decode (cd 9) 15 = .ok (.iconst 3, 1) := by rw [cd_9]; decide +kernel
theorem e_9_15 {d : Nat} {h : mM} {L : mLs} {st : List Value} : ev d 9 15 L st h = ev d 9 16 L (.int 3 :: st) h := ev_of d_9_15 rfl
theorem d_9_16 : decode (cd 9) 16 = .ok (.imul, 1) := by rw [cd_9]; decide +kernel
theorem e_9_16 {d : Nat} {h : mM} {L : mLs} {st : List Value} {x y : Int32} : ev d 9 16 L (.int y :: .int x :: st) h = ev d 9 17 L (.int (x * y) :: st) h := ev_of d_9_16 rfl
theorem d_9_17 : decode (cd 9) 17 = .ok (.iload_n 3, 1) := by rw [cd_9]; decide +kernel
theorem e_9_17 {d : Nat} {h : mM} {o0 o1 o2 : Option Value} {T : mLs} {x : Int32} {st : List Value} : ev d 9 17 (o0 :: o1 :: o2 :: some (.int x) :: T) st h = ev d 9 18 (o0 :: o1 :: o2 :: some (.int x) :: T) (.int x :: st) h := ev_of d_9_17 rfl
theorem d_9_18 : decode (cd 9) 18 = .ok (.iadd, 1) := by rw [cd_9]; decide +kernel
theorem e_9_18 {d : Nat} {h : mM} {L : mLs} {st : List Value} {x y : Int32} : ev d 9 18 L (.int y :: .int x :: st) h = ev d 9 19 L (.int (x + y) :: st) h := ev_of d_9_18 rfl
theorem d_9_19 : decode (cd 9) 19 = .ok (.iaload, 1) := by rw [cd_9]; decide +kernel
theorem e_9_19 {d : Nat} {h : mM} {L : mLs} {st : List Value} {a : Nat} {i : Int32} : ev d 9 19 L (.int i :: .ref a :: st) h = if (mK h a = 11 ∨ mK h a = 19) ∧ ixOK i (mL h a) = true then ev d 9 20 L (.int (mI h a i.toNatClampNeg) :: st) h else none := ev_ia d_9_19
theorem d_9_20 : decode (cd 9) 20 = .ok (.iadd, 1) := by rw [cd_9]; decide +kernel
theorem e_9_20 {d : Nat} {h : mM} {L : mLs} {st : List Value} {x y : Int32} : ev d 9 20 L (.int y :: .int x :: st) h = ev d 9 21 L (.int (x + y) :: st) h := ev_of d_9_20 rfl
theorem d_9_21 : decode (cd 9) 21 = .ok (.istore_n 2, 1) := by rw [cd_9]; decide +kernel
theorem e_9_21 {d : Nat} {h : mM} {o0 o1 o2 : Option Value} {T : mLs} {x : Int32} {st : List Value} (hl : mLong o1 = false) : ev d 9 21 (o0 :: o1 :: o2 :: T) (.int x :: st) h = ev d 9 22 (o0 :: o1 :: some (.int x) :: T) st h := ev_st_in d_9_21 (by decide +kernel) (mS1_s (j := 1) hl)
theorem d_9_22 : decode (cd 9) 22 = .ok (.iinc 3 1, 3) := by rw [cd_9]; decide +kernel
theorem e_9_22 {d : Nat} {h : mM} {o0 o1 o2 : Option Value} {T : mLs} {x : Int32} {st : List Value} (hl : mLong o2 = false) : ev d 9 22 (o0 :: o1 :: o2 :: some (.int x) :: T) st h = ev d 9 25 (o0 :: o1 :: o2 :: some (.int (x + 1)) :: T) st h := ev_inc d_9_22 (by decide +kernel) rfl rfl (mS1_s (j := 2) hl)
theorem d_9_25 : decode (cd 9) 25 = .ok (.goto (-21), 3) := by rw [cd_9]; decide +kernel
theorem e_9_25 {d : Nat} {h : mM} {L : mLs} {st : List Value} : ev d 9 25 L st h = ev d 9 4 L st h := ev_go d_9_25 (by decide)
theorem d_9_28 : decode (cd 9) 28 = .ok (.iload_n 2, 1) := by rw [cd_9]; decide +kernel
theorem e_9_28 {d : Nat} {h : mM} {o0 o1 : Option Value} {T : mLs} {x : Int32} {st : List Value} : ev d 9 28 (o0 :: o1 :: some (.int x) :: T) st h = ev d 9 29 (o0 :: o1 :: some (.int x) :: T) (.int x :: st) h := ev_of d_9_28 rfl
theorem d_9_29 : decode (cd 9) 29 = .ok (.ireturn, 1) := by rw [cd_9]; decide +kernel
theorem e_9_29 {d : Nat} {h : mM} {L : mLs} {v : Int32} : ev d 9 29 L [.int v] h = some (some (.int v), h) := ev_ri d_9_29 (by decide +kernel)
-- 10: Flow.stonesThatRan
theorem cd_10 : cd 10 = prog_3_method_10_code := rfl
theorem d_10_0 : decode (cd 10) 0 = .ok (.iconst 0, 1) := by rw [cd_10]; decide +kernel
theorem e_10_0 {d : Nat} {h : mM} {L : mLs} {st : List Value} : ev d 10 0 L st h = ev d 10 1 L (.int 0 :: st) h := ev_of d_10_0 rfl
theorem d_10_1 : decode (cd 10) 1 = .ok (.istore_n 2, 1) := by rw [cd_10]; decide +kernel
theorem e_10_1 {d : Nat} {h : mM} {o0 o1 o2 : Option Value} {T : mLs} {x : Int32} {st : List Value} (hl : mLong o1 = false) : ev d 10 1 (o0 :: o1 :: o2 :: T) (.int x :: st) h = ev d 10 2 (o0 :: o1 :: some (.int x) :: T) st h := ev_st_in d_10_1 (by decide +kernel) (mS1_s (j := 1) hl)
theorem d_10_2 : decode (cd 10) 2 = .ok (.iconst 0, 1) := by rw [cd_10]; decide +kernel
theorem e_10_2 {d : Nat} {h : mM} {L : mLs} {st : List Value} : ev d 10 2 L st h = ev d 10 3 L (.int 0 :: st) h := ev_of d_10_2 rfl
theorem d_10_3 : decode (cd 10) 3 = .ok (.istore_n 3, 1) := by rw [cd_10]; decide +kernel
theorem e_10_3 {d : Nat} {h : mM} {o0 o1 o2 o3 : Option Value} {T : mLs} {x : Int32} {st : List Value} (hl : mLong o2 = false) : ev d 10 3 (o0 :: o1 :: o2 :: o3 :: T) (.int x :: st) h = ev d 10 4 (o0 :: o1 :: o2 :: some (.int x) :: T) st h := ev_st_in d_10_3 (by decide +kernel) (mS1_s (j := 2) hl)
theorem d_10_4 : decode (cd 10) 4 = .ok (.iload_n 3, 1) := by rw [cd_10]; decide +kernel
theorem e_10_4 {d : Nat} {h : mM} {o0 o1 o2 : Option Value} {T : mLs} {x : Int32} {st : List Value} : ev d 10 4 (o0 :: o1 :: o2 :: some (.int x) :: T) st h = ev d 10 5 (o0 :: o1 :: o2 :: some (.int x) :: T) (.int x :: st) h := ev_of d_10_4 rfl
theorem d_10_5 : decode (cd 10) 5 = .ok (.iconst 3, 1) := by rw [cd_10]; decide +kernel
theorem e_10_5 {d : Nat} {h : mM} {L : mLs} {st : List Value} : ev d 10 5 L st h = ev d 10 6 L (.int 3 :: st) h := ev_of d_10_5 rfl
theorem d_10_6 : decode (cd 10) 6 = .ok (.if_icmp .ge 25, 3) := by rw [cd_10]; decide +kernel
theorem e_10_6 {d : Nat} {h : mM} {L : mLs} {st : List Value} {x y : Int32} : ev d 10 6 L (.int y :: .int x :: st) h = if y ≤ x then ev d 10 31 L st h else ev d 10 9 L st h := ev_ic (y ≤ x) inferInstance rfl d_10_6 (by decide)
theorem d_10_9 : decode (cd 10) 9 = .ok (.aload_n 0, 1) := by rw [cd_10]; decide +kernel
theorem e_10_9 {d : Nat} {h : mM} {T : mLs} {x : Nat} {st : List Value} : ev d 10 9 ( some (.ref x) :: T) st h = ev d 10 10 ( some (.ref x) :: T) (.ref x :: st) h := ev_of d_10_9 rfl
theorem d_10_10 : decode (cd 10) 10 = .ok (.getfield 9, 3) := by rw [cd_10]; decide +kernel
theorem e_10_10 {d : Nat} {h : mM} {L : mLs} {st : List Value} {a : Nat} : ev d 10 10 L (.ref a :: st) h = if mK h a = 1 then oB (mR h a 1) (fun b => ev d 10 13 L (.ref b :: st) h) else none := ev_gR d_10_10 (by decide +kernel) (by decide +kernel)
theorem d_10_13 : decode (cd 10) 13 = .ok (.iload_n 1, 1) := by rw [cd_10]; decide +kernel
theorem e_10_13 {d : Nat} {h : mM} {o0 : Option Value} {T : mLs} {x : Int32} {st : List Value} : ev d 10 13 (o0 :: some (.int x) :: T) st h = ev d 10 14 (o0 :: some (.int x) :: T) (.int x :: st) h := ev_of d_10_13 rfl
theorem d_10_14 : decode (cd 10) 14 = .ok (.iconst 3, 1) := by rw [cd_10]; decide +kernel
theorem e_10_14 {d : Nat} {h : mM} {L : mLs} {st : List Value} : ev d 10 14 L st h = ev d 10 15 L (.int 3 :: st) h := ev_of d_10_14 rfl
theorem d_10_15 : decode (cd 10) 15 = .ok (.imul, 1) := by rw [cd_10]; decide +kernel
theorem e_10_15 {d : Nat} {h : mM} {L : mLs} {st : List Value} {x y : Int32} : ev d 10 15 L (.int y :: .int x :: st) h = ev d 10 16 L (.int (x * y) :: st) h := ev_of d_10_15 rfl
theorem d_10_16 : decode (cd 10) 16 = .ok (.iload_n 3, 1) := by rw [cd_10]; decide +kernel
theorem e_10_16 {d : Nat} {h : mM} {o0 o1 o2 : Option Value} {T : mLs} {x : Int32} {st : List Value} : ev d 10 16 (o0 :: o1 :: o2 :: some (.int x) :: T) st h = ev d 10 17 (o0 :: o1 :: o2 :: some (.int x) :: T) (.int x :: st) h := ev_of d_10_16 rfl
theorem d_10_17 : decode (cd 10) 17 = .ok (.iadd, 1) := by rw [cd_10]; decide +kernel
theorem e_10_17 {d : Nat} {h : mM} {L : mLs} {st : List Value} {x y : Int32} : ev d 10 17 L (.int y :: .int x :: st) h = ev d 10 18 L (.int (x + y) :: st) h := ev_of d_10_17 rfl
theorem d_10_18 : decode (cd 10) 18 = .ok (.iaload, 1) := by rw [cd_10]; decide +kernel
theorem e_10_18 {d : Nat} {h : mM} {L : mLs} {st : List Value} {a : Nat} {i : Int32} : ev d 10 18 L (.int i :: .ref a :: st) h = if (mK h a = 11 ∨ mK h a = 19) ∧ ixOK i (mL h a) = true then ev d 10 19 L (.int (mI h a i.toNatClampNeg) :: st) h else none := ev_ia d_10_18
theorem d_10_19 : decode (cd 10) 19 = .ok (.ifCond .le 6, 3) := by rw [cd_10]; decide +kernel
theorem e_10_19 {d : Nat} {h : mM} {L : mLs} {st : List Value} {x : Int32} : ev d 10 19 L (.int x :: st) h = if x ≤ 0 then ev d 10 25 L st h else ev d 10 22 L st h := ev_if (x ≤ 0) inferInstance rfl d_10_19 (by decide)
theorem d_10_22 : decode (cd 10) 22 = .ok (.iinc 2 1, 3) := by rw [cd_10]; decide +kernel
theorem e_10_22 {d : Nat} {h : mM} {o0 o1 : Option Value} {T : mLs} {x : Int32} {st : List Value} (hl : mLong o1 = false) : ev d 10 22 (o0 :: o1 :: some (.int x) :: T) st h = ev d 10 25 (o0 :: o1 :: some (.int (x + 1)) :: T) st h := ev_inc d_10_22 (by decide +kernel) rfl rfl (mS1_s (j := 1) hl)
theorem d_10_25 : decode (cd 10) 25 = .ok (.iinc 3 1, 3) := by rw [cd_10]; decide +kernel
theorem e_10_25 {d : Nat} {h : mM} {o0 o1 o2 : Option Value} {T : mLs} {x : Int32} {st : List Value} (hl : mLong o2 = false) : ev d 10 25 (o0 :: o1 :: o2 :: some (.int x) :: T) st h = ev d 10 28 (o0 :: o1 :: o2 :: some (.int (x + 1)) :: T) st h := ev_inc d_10_25 (by decide +kernel) rfl rfl (mS1_s (j := 2) hl)
theorem d_10_28 : decode (cd 10) 28 = .ok (.goto (-24), 3) := by rw [cd_10]; decide +kernel
theorem e_10_28 {d : Nat} {h : mM} {L : mLs} {st : List Value} : ev d 10 28 L st h = ev d 10 4 L st h := ev_go d_10_28 (by decide)
theorem d_10_31 : decode (cd 10) 31 = .ok (.iload_n 2, 1) := by rw [cd_10]; decide +kernel
theorem e_10_31 {d : Nat} {h : mM} {o0 o1 : Option Value} {T : mLs} {x : Int32} {st : List Value} : ev d 10 31 (o0 :: o1 :: some (.int x) :: T) st h = ev d 10 32 (o0 :: o1 :: some (.int x) :: T) (.int x :: st) h := ev_of d_10_31 rfl
theorem d_10_32 : decode (cd 10) 32 = .ok (.ireturn, 1) := by rw [cd_10]; decide +kernel
theorem e_10_32 {d : Nat} {h : mM} {L : mLs} {v : Int32} : ev d 10 32 L [.int v] h = some (some (.int v), h) := ev_ri d_10_32 (by decide +kernel)
-- 11: Mill.<init>
theorem cd_11 : cd 11 = prog_4_method_1_code := rfl
theorem d_11_0 : decode (cd 11) 0 = .ok (.aload_n 0, 1) := by rw [cd_11]; decide +kernel
theorem e_11_0 {d : Nat} {h : mM} {T : mLs} {x : Nat} {st : List Value} : ev d 11 0 ( some (.ref x) :: T) st h = ev d 11 1 ( some (.ref x) :: T) (.ref x :: st) h := ev_of d_11_0 rfl
theorem d_11_1 : decode (cd 11) 1 = .ok (.invokespecial 3, 3) := by rw [cd_11]; decide +kernel
theorem e_11_1 {d : Nat} {h : mM} {L : mLs} {st : List Value} {a : Nat} (hc : mCat st ≤ 8) : ev d 11 1 L (.ref a :: st) h = ev d 11 4 L st h := ev_obj (mj := 0) d_11_1 (by decide +kernel) hc
theorem d_11_4 : decode (cd 11) 4 = .ok (.aload_n 0, 1) := by rw [cd_11]; decide +kernel
theorem e_11_4 {d : Nat} {h : mM} {T : mLs} {x : Nat} {st : List Value} : ev d 11 4 ( some (.ref x) :: T) st h = ev d 11 5 ( some (.ref x) :: T) (.ref x :: st) h := ev_of d_11_4 rfl
theorem d_11_5 : decode (cd 11) 5 = .ok (.iconst 3, 1) := by rw [cd_11]; decide +kernel
theorem e_11_5 {d : Nat} {h : mM} {L : mLs} {st : List Value} : ev d 11 5 L st h = ev d 11 6 L (.int 3 :: st) h := ev_of d_11_5 rfl
theorem d_11_6 : decode (cd 11) 6 = .ok (.anewarray 9, 3) := by rw [cd_11]; decide +kernel
theorem e_11_6 {d : Nat} {h : mM} {L : mLs} {st : List Value} {n : Int32} (hn : ¬ n < 0) (h1 : n.toNatClampNeg ≤ 1000) : ev d 11 6 L (.int n :: st) h = ev d 11 9 L (.ref (mN h) :: st) (wN h 16 n.toNatClampNeg) := ev_anew d_11_6 (by decide +kernel : nGet (ow 11) 9 = some 6) (by decide) hn h1
theorem d_11_9 : decode (cd 11) 9 = .ok (.putfield 11, 3) := by rw [cd_11]; decide +kernel
theorem e_11_9 {d : Nat} {h : mM} {L : mLs} {st : List Value} {a b : Nat} : ev d 11 9 L (.ref b :: .ref a :: st) h = if mK h a = 2 then ev d 11 12 L st (wR h a 0 (some b)) else none := ev_pR d_11_9 (by decide +kernel) (by decide +kernel) (by decide +kernel)
theorem d_11_12 : decode (cd 11) 12 = .ok (.aload_n 0, 1) := by rw [cd_11]; decide +kernel
theorem e_11_12 {d : Nat} {h : mM} {T : mLs} {x : Nat} {st : List Value} : ev d 11 12 ( some (.ref x) :: T) st h = ev d 11 13 ( some (.ref x) :: T) (.ref x :: st) h := ev_of d_11_12 rfl
theorem d_11_13 : decode (cd 11) 13 = .ok (.bipush 12, 2) := by rw [cd_11]; decide +kernel
theorem e_11_13 {d : Nat} {h : mM} {L : mLs} {st : List Value} : ev d 11 13 L st h = ev d 11 15 L (.int 12 :: st) h := ev_of d_11_13 rfl
theorem d_11_15 : decode (cd 11) 15 = .ok (.anewarray 17, 3) := by rw [cd_11]; decide +kernel
theorem e_11_15 {d : Nat} {h : mM} {L : mLs} {st : List Value} {n : Int32} (hn : ¬ n < 0) (h1 : n.toNatClampNeg ≤ 1000) : ev d 11 15 L (.int n :: st) h = ev d 11 18 L (.ref (mN h) :: st) (wN h 17 n.toNatClampNeg) := ev_anew d_11_15 (by decide +kernel : nGet (ow 11) 17 = some 4) (by decide) hn h1
theorem d_11_18 : decode (cd 11) 18 = .ok (.putfield 19, 3) := by rw [cd_11]; decide +kernel
theorem e_11_18 {d : Nat} {h : mM} {L : mLs} {st : List Value} {a b : Nat} : ev d 11 18 L (.ref b :: .ref a :: st) h = if mK h a = 2 then ev d 11 21 L st (wR h a 1 (some b)) else none := ev_pR d_11_18 (by decide +kernel) (by decide +kernel) (by decide +kernel)
theorem d_11_21 : decode (cd 11) 21 = .ok (.aload_n 0, 1) := by rw [cd_11]; decide +kernel
theorem e_11_21 {d : Nat} {h : mM} {T : mLs} {x : Nat} {st : List Value} : ev d 11 21 ( some (.ref x) :: T) st h = ev d 11 22 ( some (.ref x) :: T) (.ref x :: st) h := ev_of d_11_21 rfl
theorem d_11_22 : decode (cd 11) 22 = .ok (.iconst 0, 1) := by rw [cd_11]; decide +kernel
theorem e_11_22 {d : Nat} {h : mM} {L : mLs} {st : List Value} : ev d 11 22 L st h = ev d 11 23 L (.int 0 :: st) h := ev_of d_11_22 rfl
theorem d_11_23 : decode (cd 11) 23 = .ok (.putfield 23, 3) := by rw [cd_11]; decide +kernel
theorem e_11_23 {d : Nat} {h : mM} {L : mLs} {st : List Value} {a : Nat} {v : Int32} : ev d 11 23 L (.int v :: .ref a :: st) h = if mK h a = 2 then ev d 11 26 L st (wI h a 2 v) else none := ev_pI d_11_23 (by decide +kernel) (by decide +kernel) (by decide +kernel)
theorem d_11_26 : decode (cd 11) 26 = .ok (.aload_n 0, 1) := by rw [cd_11]; decide +kernel
theorem e_11_26 {d : Nat} {h : mM} {T : mLs} {x : Nat} {st : List Value} : ev d 11 26 ( some (.ref x) :: T) st h = ev d 11 27 ( some (.ref x) :: T) (.ref x :: st) h := ev_of d_11_26 rfl
theorem d_11_27 : decode (cd 11) 27 = .ok (.iconst 0, 1) := by rw [cd_11]; decide +kernel
theorem e_11_27 {d : Nat} {h : mM} {L : mLs} {st : List Value} : ev d 11 27 L st h = ev d 11 28 L (.int 0 :: st) h := ev_of d_11_27 rfl
theorem d_11_28 : decode (cd 11) 28 = .ok (.putfield 27, 3) := by rw [cd_11]; decide +kernel
theorem e_11_28 {d : Nat} {h : mM} {L : mLs} {st : List Value} {a : Nat} {v : Int32} : ev d 11 28 L (.int v :: .ref a :: st) h = if mK h a = 2 then ev d 11 31 L st (wI h a 3 v) else none := ev_pI d_11_28 (by decide +kernel) (by decide +kernel) (by decide +kernel)
theorem d_11_31 : decode (cd 11) 31 = .ok (.aload_n 0, 1) := by rw [cd_11]; decide +kernel
theorem e_11_31 {d : Nat} {h : mM} {T : mLs} {x : Nat} {st : List Value} : ev d 11 31 ( some (.ref x) :: T) st h = ev d 11 32 ( some (.ref x) :: T) (.ref x :: st) h := ev_of d_11_31 rfl
theorem d_11_32 : decode (cd 11) 32 = .ok (.iconst 0, 1) := by rw [cd_11]; decide +kernel
theorem e_11_32 {d : Nat} {h : mM} {L : mLs} {st : List Value} : ev d 11 32 L st h = ev d 11 33 L (.int 0 :: st) h := ev_of d_11_32 rfl
theorem d_11_33 : decode (cd 11) 33 = .ok (.putfield 30, 3) := by rw [cd_11]; decide +kernel
theorem e_11_33 {d : Nat} {h : mM} {L : mLs} {st : List Value} {a : Nat} {v : Int32} : ev d 11 33 L (.int v :: .ref a :: st) h = if mK h a = 2 then ev d 11 36 L st (wI h a 4 v) else none := ev_pI d_11_33 (by decide +kernel) (by decide +kernel) (by decide +kernel)
theorem d_11_36 : decode (cd 11) 36 = .ok (.aload_n 0, 1) := by rw [cd_11]; decide +kernel
theorem e_11_36 {d : Nat} {h : mM} {T : mLs} {x : Nat} {st : List Value} : ev d 11 36 ( some (.ref x) :: T) st h = ev d 11 37 ( some (.ref x) :: T) (.ref x :: st) h := ev_of d_11_36 rfl
theorem d_11_37 : decode (cd 11) 37 = .ok (.iconst 0, 1) := by rw [cd_11]; decide +kernel
theorem e_11_37 {d : Nat} {h : mM} {L : mLs} {st : List Value} : ev d 11 37 L st h = ev d 11 38 L (.int 0 :: st) h := ev_of d_11_37 rfl
theorem d_11_38 : decode (cd 11) 38 = .ok (.putfield 33, 3) := by rw [cd_11]; decide +kernel
theorem e_11_38 {d : Nat} {h : mM} {L : mLs} {st : List Value} {a : Nat} {v : Int32} : ev d 11 38 L (.int v :: .ref a :: st) h = if mK h a = 2 then ev d 11 41 L st (wI h a 5 v) else none := ev_pI d_11_38 (by decide +kernel) (by decide +kernel) (by decide +kernel)
theorem d_11_41 : decode (cd 11) 41 = .ok (.aload_n 0, 1) := by rw [cd_11]; decide +kernel
theorem e_11_41 {d : Nat} {h : mM} {T : mLs} {x : Nat} {st : List Value} : ev d 11 41 ( some (.ref x) :: T) st h = ev d 11 42 ( some (.ref x) :: T) (.ref x :: st) h := ev_of d_11_41 rfl
theorem d_11_42 : decode (cd 11) 42 = .ok (.iconst 0, 1) := by rw [cd_11]; decide +kernel
theorem e_11_42 {d : Nat} {h : mM} {L : mLs} {st : List Value} : ev d 11 42 L st h = ev d 11 43 L (.int 0 :: st) h := ev_of d_11_42 rfl
theorem d_11_43 : decode (cd 11) 43 = .ok (.putfield 36, 3) := by rw [cd_11]; decide +kernel
theorem e_11_43 {d : Nat} {h : mM} {L : mLs} {st : List Value} {a : Nat} {v : Int32} : ev d 11 43 L (.int v :: .ref a :: st) h = if mK h a = 2 then ev d 11 46 L st (wI h a 6 v) else none := ev_pI d_11_43 (by decide +kernel) (by decide +kernel) (by decide +kernel)
theorem d_11_46 : decode (cd 11) 46 = .ok (.aload_n 0, 1) := by rw [cd_11]; decide +kernel
theorem e_11_46 {d : Nat} {h : mM} {T : mLs} {x : Nat} {st : List Value} : ev d 11 46 ( some (.ref x) :: T) st h = ev d 11 47 ( some (.ref x) :: T) (.ref x :: st) h := ev_of d_11_46 rfl
theorem d_11_47 : decode (cd 11) 47 = .ok (.iconst 0, 1) := by rw [cd_11]; decide +kernel
theorem e_11_47 {d : Nat} {h : mM} {L : mLs} {st : List Value} : ev d 11 47 L st h = ev d 11 48 L (.int 0 :: st) h := ev_of d_11_47 rfl
theorem d_11_48 : decode (cd 11) 48 = .ok (.putfield 39, 3) := by rw [cd_11]; decide +kernel
theorem e_11_48 {d : Nat} {h : mM} {L : mLs} {st : List Value} {a : Nat} {v : Int32} : ev d 11 48 L (.int v :: .ref a :: st) h = if mK h a = 2 then ev d 11 51 L st (wI h a 7 v) else none := ev_pI d_11_48 (by decide +kernel) (by decide +kernel) (by decide +kernel)
theorem d_11_51 : decode (cd 11) 51 = .ok (.aload_n 0, 1) := by rw [cd_11]; decide +kernel
theorem e_11_51 {d : Nat} {h : mM} {T : mLs} {x : Nat} {st : List Value} : ev d 11 51 ( some (.ref x) :: T) st h = ev d 11 52 ( some (.ref x) :: T) (.ref x :: st) h := ev_of d_11_51 rfl
theorem d_11_52 : decode (cd 11) 52 = .ok (.iconst 0, 1) := by rw [cd_11]; decide +kernel
theorem e_11_52 {d : Nat} {h : mM} {L : mLs} {st : List Value} : ev d 11 52 L st h = ev d 11 53 L (.int 0 :: st) h := ev_of d_11_52 rfl
theorem d_11_53 : decode (cd 11) 53 = .ok (.putfield 42, 3) := by rw [cd_11]; decide +kernel
theorem e_11_53 {d : Nat} {h : mM} {L : mLs} {st : List Value} {a : Nat} {v : Int32} : ev d 11 53 L (.int v :: .ref a :: st) h = if mK h a = 2 then ev d 11 56 L st (wI h a 8 v) else none := ev_pI d_11_53 (by decide +kernel) (by decide +kernel) (by decide +kernel)
theorem d_11_56 : decode (cd 11) 56 = .ok (.aload_n 0, 1) := by rw [cd_11]; decide +kernel
theorem e_11_56 {d : Nat} {h : mM} {T : mLs} {x : Nat} {st : List Value} : ev d 11 56 ( some (.ref x) :: T) st h = ev d 11 57 ( some (.ref x) :: T) (.ref x :: st) h := ev_of d_11_56 rfl
theorem d_11_57 : decode (cd 11) 57 = .ok (.iconst 0, 1) := by rw [cd_11]; decide +kernel
theorem e_11_57 {d : Nat} {h : mM} {L : mLs} {st : List Value} : ev d 11 57 L st h = ev d 11 58 L (.int 0 :: st) h := ev_of d_11_57 rfl
theorem d_11_58 : decode (cd 11) 58 = .ok (.putfield 45, 3) := by rw [cd_11]; decide +kernel
theorem e_11_58 {d : Nat} {h : mM} {L : mLs} {st : List Value} {a : Nat} {v : Int32} : ev d 11 58 L (.int v :: .ref a :: st) h = if mK h a = 2 then ev d 11 61 L st (wI h a 9 v) else none := ev_pI d_11_58 (by decide +kernel) (by decide +kernel) (by decide +kernel)
theorem d_11_61 : decode (cd 11) 61 = .ok (.aload_n 0, 1) := by rw [cd_11]; decide +kernel
theorem e_11_61 {d : Nat} {h : mM} {T : mLs} {x : Nat} {st : List Value} : ev d 11 61 ( some (.ref x) :: T) st h = ev d 11 62 ( some (.ref x) :: T) (.ref x :: st) h := ev_of d_11_61 rfl
theorem d_11_62 : decode (cd 11) 62 = .ok (.iconst 0, 1) := by rw [cd_11]; decide +kernel
theorem e_11_62 {d : Nat} {h : mM} {L : mLs} {st : List Value} : ev d 11 62 L st h = ev d 11 63 L (.int 0 :: st) h := ev_of d_11_62 rfl
theorem d_11_63 : decode (cd 11) 63 = .ok (.putfield 48, 3) := by rw [cd_11]; decide +kernel
theorem e_11_63 {d : Nat} {h : mM} {L : mLs} {st : List Value} {a : Nat} {v : Int32} : ev d 11 63 L (.int v :: .ref a :: st) h = if mK h a = 2 then ev d 11 66 L st (wI h a 10 v) else none := ev_pI d_11_63 (by decide +kernel) (by decide +kernel) (by decide +kernel)
theorem d_11_66 : decode (cd 11) 66 = .ok (.aload_n 0, 1) := by rw [cd_11]; decide +kernel
theorem e_11_66 {d : Nat} {h : mM} {T : mLs} {x : Nat} {st : List Value} : ev d 11 66 ( some (.ref x) :: T) st h = ev d 11 67 ( some (.ref x) :: T) (.ref x :: st) h := ev_of d_11_66 rfl
theorem d_11_67 : decode (cd 11) 67 = .ok (.iconst 0, 1) := by rw [cd_11]; decide +kernel
theorem e_11_67 {d : Nat} {h : mM} {L : mLs} {st : List Value} : ev d 11 67 L st h = ev d 11 68 L (.int 0 :: st) h := ev_of d_11_67 rfl
theorem d_11_68 : decode (cd 11) 68 = .ok (.putfield 51, 3) := by rw [cd_11]; decide +kernel
theorem e_11_68 {d : Nat} {h : mM} {L : mLs} {st : List Value} {a : Nat} {v : Int32} : ev d 11 68 L (.int v :: .ref a :: st) h = if mK h a = 2 then ev d 11 71 L st (wI h a 11 v) else none := ev_pI d_11_68 (by decide +kernel) (by decide +kernel) (by decide +kernel)
theorem d_11_71 : decode (cd 11) 71 = .ok (.aload_n 0, 1) := by rw [cd_11]; decide +kernel
theorem e_11_71 {d : Nat} {h : mM} {T : mLs} {x : Nat} {st : List Value} : ev d 11 71 ( some (.ref x) :: T) st h = ev d 11 72 ( some (.ref x) :: T) (.ref x :: st) h := ev_of d_11_71 rfl
theorem d_11_72 : decode (cd 11) 72 = .ok (.iconst 0, 1) := by rw [cd_11]; decide +kernel
theorem e_11_72 {d : Nat} {h : mM} {L : mLs} {st : List Value} : ev d 11 72 L st h = ev d 11 73 L (.int 0 :: st) h := ev_of d_11_72 rfl
theorem d_11_73 : decode (cd 11) 73 = .ok (.putfield 54, 3) := by rw [cd_11]; decide +kernel
theorem e_11_73 {d : Nat} {h : mM} {L : mLs} {st : List Value} {a : Nat} {v : Int32} : ev d 11 73 L (.int v :: .ref a :: st) h = if mK h a = 2 then ev d 11 76 L st (wI h a 12 v) else none := ev_pI d_11_73 (by decide +kernel) (by decide +kernel) (by decide +kernel)
theorem d_11_76 : decode (cd 11) 76 = .ok (.aload_n 0, 1) := by rw [cd_11]; decide +kernel
theorem e_11_76 {d : Nat} {h : mM} {T : mLs} {x : Nat} {st : List Value} : ev d 11 76 ( some (.ref x) :: T) st h = ev d 11 77 ( some (.ref x) :: T) (.ref x :: st) h := ev_of d_11_76 rfl
theorem d_11_77 : decode (cd 11) 77 = .ok (.iconst 0, 1) := by rw [cd_11]; decide +kernel
theorem e_11_77 {d : Nat} {h : mM} {L : mLs} {st : List Value} : ev d 11 77 L st h = ev d 11 78 L (.int 0 :: st) h := ev_of d_11_77 rfl
theorem d_11_78 : decode (cd 11) 78 = .ok (.putfield 57, 3) := by rw [cd_11]; decide +kernel
theorem e_11_78 {d : Nat} {h : mM} {L : mLs} {st : List Value} {a : Nat} {v : Int32} : ev d 11 78 L (.int v :: .ref a :: st) h = if mK h a = 2 then ev d 11 81 L st (wI h a 13 v) else none := ev_pI d_11_78 (by decide +kernel) (by decide +kernel) (by decide +kernel)
theorem d_11_81 : decode (cd 11) 81 = .ok (.aload_n 0, 1) := by rw [cd_11]; decide +kernel
theorem e_11_81 {d : Nat} {h : mM} {T : mLs} {x : Nat} {st : List Value} : ev d 11 81 ( some (.ref x) :: T) st h = ev d 11 82 ( some (.ref x) :: T) (.ref x :: st) h := ev_of d_11_81 rfl
theorem d_11_82 : decode (cd 11) 82 = .ok (.iconst 0, 1) := by rw [cd_11]; decide +kernel
theorem e_11_82 {d : Nat} {h : mM} {L : mLs} {st : List Value} : ev d 11 82 L st h = ev d 11 83 L (.int 0 :: st) h := ev_of d_11_82 rfl
theorem d_11_83 : decode (cd 11) 83 = .ok (.putfield 60, 3) := by rw [cd_11]; decide +kernel
theorem e_11_83 {d : Nat} {h : mM} {L : mLs} {st : List Value} {a : Nat} {v : Int32} : ev d 11 83 L (.int v :: .ref a :: st) h = if mK h a = 2 then ev d 11 86 L st (wI h a 14 v) else none := ev_pI d_11_83 (by decide +kernel) (by decide +kernel) (by decide +kernel)
theorem d_11_86 : decode (cd 11) 86 = .ok (.iconst 0, 1) := by rw [cd_11]; decide +kernel
theorem e_11_86 {d : Nat} {h : mM} {L : mLs} {st : List Value} : ev d 11 86 L st h = ev d 11 87 L (.int 0 :: st) h := ev_of d_11_86 rfl
theorem d_11_87 : decode (cd 11) 87 = .ok (.istore_n 1, 1) := by rw [cd_11]; decide +kernel
theorem e_11_87 {d : Nat} {h : mM} {o0 o1 : Option Value} {T : mLs} {x : Int32} {st : List Value} (hl : mLong o0 = false) : ev d 11 87 (o0 :: o1 :: T) (.int x :: st) h = ev d 11 88 (o0 :: some (.int x) :: T) st h := ev_st_in d_11_87 (by decide +kernel) (mS1_s (j := 0) hl)
theorem d_11_88 : decode (cd 11) 88 = .ok (.iload_n 1, 1) := by rw [cd_11]; decide +kernel
theorem e_11_88 {d : Nat} {h : mM} {o0 : Option Value} {T : mLs} {x : Int32} {st : List Value} : ev d 11 88 (o0 :: some (.int x) :: T) st h = ev d 11 89 (o0 :: some (.int x) :: T) (.int x :: st) h := ev_of d_11_88 rfl
theorem d_11_89 : decode (cd 11) 89 = .ok (.iconst 3, 1) := by rw [cd_11]; decide +kernel
theorem e_11_89 {d : Nat} {h : mM} {L : mLs} {st : List Value} : ev d 11 89 L st h = ev d 11 90 L (.int 3 :: st) h := ev_of d_11_89 rfl
theorem d_11_90 : decode (cd 11) 90 = .ok (.if_icmp .ge 22, 3) := by rw [cd_11]; decide +kernel
theorem e_11_90 {d : Nat} {h : mM} {L : mLs} {st : List Value} {x y : Int32} : ev d 11 90 L (.int y :: .int x :: st) h = if y ≤ x then ev d 11 112 L st h else ev d 11 93 L st h := ev_ic (y ≤ x) inferInstance rfl d_11_90 (by decide)
theorem d_11_93 : decode (cd 11) 93 = .ok (.aload_n 0, 1) := by rw [cd_11]; decide +kernel
theorem e_11_93 {d : Nat} {h : mM} {T : mLs} {x : Nat} {st : List Value} : ev d 11 93 ( some (.ref x) :: T) st h = ev d 11 94 ( some (.ref x) :: T) (.ref x :: st) h := ev_of d_11_93 rfl
theorem d_11_94 : decode (cd 11) 94 = .ok (.getfield 11, 3) := by rw [cd_11]; decide +kernel
theorem e_11_94 {d : Nat} {h : mM} {L : mLs} {st : List Value} {a : Nat} : ev d 11 94 L (.ref a :: st) h = if mK h a = 2 then oB (mR h a 0) (fun b => ev d 11 97 L (.ref b :: st) h) else none := ev_gR d_11_94 (by decide +kernel) (by decide +kernel)
theorem d_11_97 : decode (cd 11) 97 = .ok (.iload_n 1, 1) := by rw [cd_11]; decide +kernel
theorem e_11_97 {d : Nat} {h : mM} {o0 : Option Value} {T : mLs} {x : Int32} {st : List Value} : ev d 11 97 (o0 :: some (.int x) :: T) st h = ev d 11 98 (o0 :: some (.int x) :: T) (.int x :: st) h := ev_of d_11_97 rfl
theorem d_11_98 : decode (cd 11) 98 = .ok (.new 9, 3) := by rw [cd_11]; decide +kernel
theorem e_11_98 {d : Nat} {h : mM} {L : mLs} {st : List Value} : ev d 11 98 L st h = ev d 11 101 L (.ref (mN h) :: st) (wN h 6 5) := ev_new d_11_98 (by decide +kernel)
theorem d_11_101 : decode (cd 11) 101 = .ok (.dup, 1) := by rw [cd_11]; decide +kernel
theorem e_11_101r {d : Nat} {h : mM} {L : mLs} {st : List Value} {a : Nat} : ev d 11 101 L (.ref a :: st) h = ev d 11 102 L (.ref a :: .ref a :: st) h := ev_of d_11_101 rfl
theorem e_11_101i {d : Nat} {h : mM} {L : mLs} {st : List Value} {x : Int32} : ev d 11 101 L (.int x :: st) h = ev d 11 102 L (.int x :: .int x :: st) h := ev_of d_11_101 rfl
theorem d_11_102 : decode (cd 11) 102 = .ok (.invokespecial 63, 3) := by rw [cd_11]; decide +kernel
theorem e_11_102 {d : Nat} {h : mM} {L : mLs} {st : List Value} {a : Nat} (hc : mCat st ≤ 8) : ev (d + 1) 11 102 L (.ref a :: st) h = cV (ev d 27 0 [some (.ref a)] [] h) (fun v h1 => ev (d + 1) 11 105 L (v ++ st) h1) := ev_ci (kd := 4) (mj := 27) (as := []) (rest := st) d_11_102 (by decide +kernel) (by decide) rfl rfl (by show _ ≤ List.length _; simp only [List.length_cons]; have : na 27 = 0 := rfl; omega) rfl (Nat.le_of_ble_eq_true rfl) hc
theorem d_11_105 : decode (cd 11) 105 = .ok (.aastore, 1) := by rw [cd_11]; decide +kernel
theorem e_11_105 {d : Nat} {h : mM} {L : mLs} {st : List Value} {a b : Nat} {i : Int32} : ev d 11 105 L (.ref b :: .int i :: .ref a :: st) h = if (12 < mK h a ∧ mK h a < 18) ∧ mK h b = mEl (mK h a) ∧ ixOK i (mL h a) = true then ev d 11 106 L st (wR h a i.toNatClampNeg (some b)) else none := ev_as d_11_105
theorem d_11_106 : decode (cd 11) 106 = .ok (.iinc 1 1, 3) := by rw [cd_11]; decide +kernel
theorem e_11_106 {d : Nat} {h : mM} {o0 : Option Value} {T : mLs} {x : Int32} {st : List Value} (hl : mLong o0 = false) : ev d 11 106 (o0 :: some (.int x) :: T) st h = ev d 11 109 (o0 :: some (.int (x + 1)) :: T) st h := ev_inc d_11_106 (by decide +kernel) rfl rfl (mS1_s (j := 0) hl)
theorem d_11_109 : decode (cd 11) 109 = .ok (.goto (-21), 3) := by rw [cd_11]; decide +kernel
theorem e_11_109 {d : Nat} {h : mM} {L : mLs} {st : List Value} : ev d 11 109 L st h = ev d 11 88 L st h := ev_go d_11_109 (by decide)
theorem d_11_112 : decode (cd 11) 112 = .ok (.iconst 0, 1) := by rw [cd_11]; decide +kernel
theorem e_11_112 {d : Nat} {h : mM} {L : mLs} {st : List Value} : ev d 11 112 L st h = ev d 11 113 L (.int 0 :: st) h := ev_of d_11_112 rfl
theorem d_11_113 : decode (cd 11) 113 = .ok (.istore_n 1, 1) := by rw [cd_11]; decide +kernel
theorem e_11_113 {d : Nat} {h : mM} {o0 o1 : Option Value} {T : mLs} {x : Int32} {st : List Value} (hl : mLong o0 = false) : ev d 11 113 (o0 :: o1 :: T) (.int x :: st) h = ev d 11 114 (o0 :: some (.int x) :: T) st h := ev_st_in d_11_113 (by decide +kernel) (mS1_s (j := 0) hl)
theorem d_11_114 : decode (cd 11) 114 = .ok (.iload_n 1, 1) := by rw [cd_11]; decide +kernel
theorem e_11_114 {d : Nat} {h : mM} {o0 : Option Value} {T : mLs} {x : Int32} {st : List Value} : ev d 11 114 (o0 :: some (.int x) :: T) st h = ev d 11 115 (o0 :: some (.int x) :: T) (.int x :: st) h := ev_of d_11_114 rfl
theorem d_11_115 : decode (cd 11) 115 = .ok (.bipush 12, 2) := by rw [cd_11]; decide +kernel
theorem e_11_115 {d : Nat} {h : mM} {L : mLs} {st : List Value} : ev d 11 115 L st h = ev d 11 117 L (.int 12 :: st) h := ev_of d_11_115 rfl
theorem d_11_117 : decode (cd 11) 117 = .ok (.if_icmp .ge 22, 3) := by rw [cd_11]; decide +kernel
theorem e_11_117 {d : Nat} {h : mM} {L : mLs} {st : List Value} {x y : Int32} : ev d 11 117 L (.int y :: .int x :: st) h = if y ≤ x then ev d 11 139 L st h else ev d 11 120 L st h := ev_ic (y ≤ x) inferInstance rfl d_11_117 (by decide)
theorem d_11_120 : decode (cd 11) 120 = .ok (.aload_n 0, 1) := by rw [cd_11]; decide +kernel
theorem e_11_120 {d : Nat} {h : mM} {T : mLs} {x : Nat} {st : List Value} : ev d 11 120 ( some (.ref x) :: T) st h = ev d 11 121 ( some (.ref x) :: T) (.ref x :: st) h := ev_of d_11_120 rfl
theorem d_11_121 : decode (cd 11) 121 = .ok (.getfield 19, 3) := by rw [cd_11]; decide +kernel
theorem e_11_121 {d : Nat} {h : mM} {L : mLs} {st : List Value} {a : Nat} : ev d 11 121 L (.ref a :: st) h = if mK h a = 2 then oB (mR h a 1) (fun b => ev d 11 124 L (.ref b :: st) h) else none := ev_gR d_11_121 (by decide +kernel) (by decide +kernel)
theorem d_11_124 : decode (cd 11) 124 = .ok (.iload_n 1, 1) := by rw [cd_11]; decide +kernel
theorem e_11_124 {d : Nat} {h : mM} {o0 : Option Value} {T : mLs} {x : Int32} {st : List Value} : ev d 11 124 (o0 :: some (.int x) :: T) st h = ev d 11 125 (o0 :: some (.int x) :: T) (.int x :: st) h := ev_of d_11_124 rfl
theorem d_11_125 : decode (cd 11) 125 = .ok (.new 17, 3) := by rw [cd_11]; decide +kernel
theorem e_11_125 {d : Nat} {h : mM} {L : mLs} {st : List Value} : ev d 11 125 L st h = ev d 11 128 L (.ref (mN h) :: st) (wN h 4 4) := ev_new d_11_125 (by decide +kernel)
theorem d_11_128 : decode (cd 11) 128 = .ok (.dup, 1) := by rw [cd_11]; decide +kernel
theorem e_11_128r {d : Nat} {h : mM} {L : mLs} {st : List Value} {a : Nat} : ev d 11 128 L (.ref a :: st) h = ev d 11 129 L (.ref a :: .ref a :: st) h := ev_of d_11_128 rfl
theorem e_11_128i {d : Nat} {h : mM} {L : mLs} {st : List Value} {x : Int32} : ev d 11 128 L (.int x :: st) h = ev d 11 129 L (.int x :: .int x :: st) h := ev_of d_11_128 rfl
theorem d_11_129 : decode (cd 11) 129 = .ok (.invokespecial 64, 3) := by rw [cd_11]; decide +kernel
theorem e_11_129 {d : Nat} {h : mM} {L : mLs} {st : List Value} {a : Nat} (hc : mCat st ≤ 8) : ev (d + 1) 11 129 L (.ref a :: st) h = cV (ev d 20 0 [some (.ref a)] [] h) (fun v h1 => ev (d + 1) 11 132 L (v ++ st) h1) := ev_ci (kd := 4) (mj := 20) (as := []) (rest := st) d_11_129 (by decide +kernel) (by decide) rfl rfl (by show _ ≤ List.length _; simp only [List.length_cons]; have : na 20 = 0 := rfl; omega) rfl (Nat.le_of_ble_eq_true rfl) hc
theorem d_11_132 : decode (cd 11) 132 = .ok (.aastore, 1) := by rw [cd_11]; decide +kernel
theorem e_11_132 {d : Nat} {h : mM} {L : mLs} {st : List Value} {a b : Nat} {i : Int32} : ev d 11 132 L (.ref b :: .int i :: .ref a :: st) h = if (12 < mK h a ∧ mK h a < 18) ∧ mK h b = mEl (mK h a) ∧ ixOK i (mL h a) = true then ev d 11 133 L st (wR h a i.toNatClampNeg (some b)) else none := ev_as d_11_132
theorem d_11_133 : decode (cd 11) 133 = .ok (.iinc 1 1, 3) := by rw [cd_11]; decide +kernel
theorem e_11_133 {d : Nat} {h : mM} {o0 : Option Value} {T : mLs} {x : Int32} {st : List Value} (hl : mLong o0 = false) : ev d 11 133 (o0 :: some (.int x) :: T) st h = ev d 11 136 (o0 :: some (.int (x + 1)) :: T) st h := ev_inc d_11_133 (by decide +kernel) rfl rfl (mS1_s (j := 0) hl)
theorem d_11_136 : decode (cd 11) 136 = .ok (.goto (-22), 3) := by rw [cd_11]; decide +kernel
theorem e_11_136 {d : Nat} {h : mM} {L : mLs} {st : List Value} : ev d 11 136 L st h = ev d 11 114 L st h := ev_go d_11_136 (by decide)
theorem d_11_139 : decode (cd 11) 139 = .ok (.return_, 1) := by rw [cd_11]; decide +kernel
theorem e_11_139 {d : Nat} {h : mM} {L : mLs} : ev d 11 139 L [] h = some (none, h) := ev_rv d_11_139 (by decide +kernel)
-- 12: Mill.isOf
theorem cd_12 : cd 12 = prog_4_method_2_code := rfl
theorem d_12_0 : decode (cd 12) 0 = .ok (.iload_n 1, 1) := by rw [cd_12]; decide +kernel
theorem e_12_0 {d : Nat} {h : mM} {o0 : Option Value} {T : mLs} {x : Int32} {st : List Value} : ev d 12 0 (o0 :: some (.int x) :: T) st h = ev d 12 1 (o0 :: some (.int x) :: T) (.int x :: st) h := ev_of d_12_0 rfl
theorem d_12_1 : decode (cd 12) 1 = .ok (.ifCond .eq 11, 3) := by rw [cd_12]; decide +kernel
theorem e_12_1 {d : Nat} {h : mM} {L : mLs} {st : List Value} {x : Int32} : ev d 12 1 L (.int x :: st) h = if x = 0 then ev d 12 12 L st h else ev d 12 4 L st h := ev_if (x = 0) inferInstance rfl d_12_1 (by decide)
theorem d_12_4 : decode (cd 12) 4 = .ok (.iload_n 1, 1) := by rw [cd_12]; decide +kernel
theorem e_12_4 {d : Nat} {h : mM} {o0 : Option Value} {T : mLs} {x : Int32} {st : List Value} : ev d 12 4 (o0 :: some (.int x) :: T) st h = ev d 12 5 (o0 :: some (.int x) :: T) (.int x :: st) h := ev_of d_12_4 rfl
theorem d_12_5 : decode (cd 12) 5 = .ok (.aload_n 0, 1) := by rw [cd_12]; decide +kernel
theorem e_12_5 {d : Nat} {h : mM} {T : mLs} {x : Nat} {st : List Value} : ev d 12 5 ( some (.ref x) :: T) st h = ev d 12 6 ( some (.ref x) :: T) (.ref x :: st) h := ev_of d_12_5 rfl
theorem d_12_6 : decode (cd 12) 6 = .ok (.getfield 23, 3) := by rw [cd_12]; decide +kernel
theorem e_12_6 {d : Nat} {h : mM} {L : mLs} {st : List Value} {a : Nat} : ev d 12 6 L (.ref a :: st) h = if mK h a = 2 then ev d 12 9 L (.int (mI h a 2) :: st) h else none := ev_gI d_12_6 (by decide +kernel) (by decide +kernel)
theorem d_12_9 : decode (cd 12) 9 = .ok (.if_icmp .ne 7, 3) := by rw [cd_12]; decide +kernel
theorem e_12_9 {d : Nat} {h : mM} {L : mLs} {st : List Value} {x y : Int32} : ev d 12 9 L (.int y :: .int x :: st) h = if ¬ x = y then ev d 12 16 L st h else ev d 12 12 L st h := ev_ic (¬ x = y) inferInstance rfl d_12_9 (by decide)
theorem d_12_12 : decode (cd 12) 12 = .ok (.iconst 1, 1) := by rw [cd_12]; decide +kernel
theorem e_12_12 {d : Nat} {h : mM} {L : mLs} {st : List Value} : ev d 12 12 L st h = ev d 12 13 L (.int 1 :: st) h := ev_of d_12_12 rfl
theorem d_12_13 : decode (cd 12) 13 = .ok (.goto 4, 3) := by rw [cd_12]; decide +kernel
theorem e_12_13 {d : Nat} {h : mM} {L : mLs} {st : List Value} : ev d 12 13 L st h = ev d 12 17 L st h := ev_go d_12_13 (by decide)
theorem d_12_16 : decode (cd 12) 16 = .ok (.iconst 0, 1) := by rw [cd_12]; decide +kernel
theorem e_12_16 {d : Nat} {h : mM} {L : mLs} {st : List Value} : ev d 12 16 L st h = ev d 12 17 L (.int 0 :: st) h := ev_of d_12_16 rfl
theorem d_12_17 : decode (cd 12) 17 = .ok (.ireturn, 1) := by rw [cd_12]; decide +kernel
theorem e_12_17 {d : Nat} {h : mM} {L : mLs} {v : Int32} : ev d 12 17 L [.int v] h = if mZO v = true then some (some (.int v), h) else none := ev_rz d_12_17 (by decide +kernel)
-- 13: Mill.take
theorem cd_13 : cd 13 = prog_4_method_3_code := rfl
theorem d_13_0 : decode (cd 13) 0 = .ok (.aload_n 0, 1) := by rw [cd_13]; decide +kernel
theorem e_13_0 {d : Nat} {h : mM} {T : mLs} {x : Nat} {st : List Value} : ev d 13 0 ( some (.ref x) :: T) st h = ev d 13 1 ( some (.ref x) :: T) (.ref x :: st) h := ev_of d_13_0 rfl
theorem d_13_1 : decode (cd 13) 1 = .ok (.dup, 1) := by rw [cd_13]; decide +kernel
theorem e_13_1r {d : Nat} {h : mM} {L : mLs} {st : List Value} {a : Nat} : ev d 13 1 L (.ref a :: st) h = ev d 13 2 L (.ref a :: .ref a :: st) h := ev_of d_13_1 rfl
theorem e_13_1i {d : Nat} {h : mM} {L : mLs} {st : List Value} {x : Int32} : ev d 13 1 L (.int x :: st) h = ev d 13 2 L (.int x :: .int x :: st) h := ev_of d_13_1 rfl
theorem d_13_2 : decode (cd 13) 2 = .ok (.getfield 45, 3) := by rw [cd_13]; decide +kernel
theorem e_13_2 {d : Nat} {h : mM} {L : mLs} {st : List Value} {a : Nat} : ev d 13 2 L (.ref a :: st) h = if mK h a = 2 then ev d 13 5 L (.int (mI h a 9) :: st) h else none := ev_gI d_13_2 (by decide +kernel) (by decide +kernel)
theorem d_13_5 : decode (cd 13) 5 = .ok (.iload_n 1, 1) := by rw [cd_13]; decide +kernel
theorem e_13_5 {d : Nat} {h : mM} {o0 : Option Value} {T : mLs} {x : Int32} {st : List Value} : ev d 13 5 (o0 :: some (.int x) :: T) st h = ev d 13 6 (o0 :: some (.int x) :: T) (.int x :: st) h := ev_of d_13_5 rfl
theorem d_13_6 : decode (cd 13) 6 = .ok (.iadd, 1) := by rw [cd_13]; decide +kernel
theorem e_13_6 {d : Nat} {h : mM} {L : mLs} {st : List Value} {x y : Int32} : ev d 13 6 L (.int y :: .int x :: st) h = ev d 13 7 L (.int (x + y) :: st) h := ev_of d_13_6 rfl
theorem d_13_7 : decode (cd 13) 7 = .ok (.putfield 45, 3) := by rw [cd_13]; decide +kernel
theorem e_13_7 {d : Nat} {h : mM} {L : mLs} {st : List Value} {a : Nat} {v : Int32} : ev d 13 7 L (.int v :: .ref a :: st) h = if mK h a = 2 then ev d 13 10 L st (wI h a 9 v) else none := ev_pI d_13_7 (by decide +kernel) (by decide +kernel) (by decide +kernel)
theorem d_13_10 : decode (cd 13) 10 = .ok (.iload_n 1, 1) := by rw [cd_13]; decide +kernel
theorem e_13_10 {d : Nat} {h : mM} {o0 : Option Value} {T : mLs} {x : Int32} {st : List Value} : ev d 13 10 (o0 :: some (.int x) :: T) st h = ev d 13 11 (o0 :: some (.int x) :: T) (.int x :: st) h := ev_of d_13_10 rfl
theorem d_13_11 : decode (cd 13) 11 = .ok (.istore 4, 2) := by rw [cd_13]; decide +kernel
theorem e_13_11 {d : Nat} {h : mM} {o0 o1 o2 o3 o4 : Option Value} {T : mLs} {x : Int32} {st : List Value} (hl : mLong o3 = false) : ev d 13 11 (o0 :: o1 :: o2 :: o3 :: o4 :: T) (.int x :: st) h = ev d 13 13 (o0 :: o1 :: o2 :: o3 :: some (.int x) :: T) st h := ev_st_i d_13_11 (by decide +kernel) (mS1_s (j := 3) hl)
theorem d_13_13 : decode (cd 13) 13 = .ok (.iconst 0, 1) := by rw [cd_13]; decide +kernel
theorem e_13_13 {d : Nat} {h : mM} {L : mLs} {st : List Value} : ev d 13 13 L st h = ev d 13 14 L (.int 0 :: st) h := ev_of d_13_13 rfl
theorem d_13_14 : decode (cd 13) 14 = .ok (.istore 5, 2) := by rw [cd_13]; decide +kernel
theorem e_13_14 {d : Nat} {h : mM} {o0 o1 o2 o3 o4 o5 : Option Value} {T : mLs} {x : Int32} {st : List Value} (hl : mLong o4 = false) : ev d 13 14 (o0 :: o1 :: o2 :: o3 :: o4 :: o5 :: T) (.int x :: st) h = ev d 13 16 (o0 :: o1 :: o2 :: o3 :: o4 :: some (.int x) :: T) st h := ev_st_i d_13_14 (by decide +kernel) (mS1_s (j := 4) hl)
theorem d_13_16 : decode (cd 13) 16 = .ok (.iload 5, 2) := by rw [cd_13]; decide +kernel
theorem e_13_16 {d : Nat} {h : mM} {o0 o1 o2 o3 o4 : Option Value} {T : mLs} {x : Int32} {st : List Value} : ev d 13 16 (o0 :: o1 :: o2 :: o3 :: o4 :: some (.int x) :: T) st h = ev d 13 18 (o0 :: o1 :: o2 :: o3 :: o4 :: some (.int x) :: T) (.int x :: st) h := ev_of d_13_16 rfl
theorem d_13_18 : decode (cd 13) 18 = .ok (.bipush 12, 2) := by rw [cd_13]; decide +kernel
theorem e_13_18 {d : Nat} {h : mM} {L : mLs} {st : List Value} : ev d 13 18 L st h = ev d 13 20 L (.int 12 :: st) h := ev_of d_13_18 rfl
theorem d_13_20 : decode (cd 13) 20 = .ok (.if_icmp .ge 74, 3) := by rw [cd_13]; decide +kernel
theorem e_13_20 {d : Nat} {h : mM} {L : mLs} {st : List Value} {x y : Int32} : ev d 13 20 L (.int y :: .int x :: st) h = if y ≤ x then ev d 13 94 L st h else ev d 13 23 L st h := ev_ic (y ≤ x) inferInstance rfl d_13_20 (by decide)
theorem d_13_23 : decode (cd 13) 23 = .ok (.aload_n 0, 1) := by rw [cd_13]; decide +kernel
theorem e_13_23 {d : Nat} {h : mM} {T : mLs} {x : Nat} {st : List Value} : ev d 13 23 ( some (.ref x) :: T) st h = ev d 13 24 ( some (.ref x) :: T) (.ref x :: st) h := ev_of d_13_23 rfl
theorem d_13_24 : decode (cd 13) 24 = .ok (.getfield 42, 3) := by rw [cd_13]; decide +kernel
theorem e_13_24 {d : Nat} {h : mM} {L : mLs} {st : List Value} {a : Nat} : ev d 13 24 L (.ref a :: st) h = if mK h a = 2 then ev d 13 27 L (.int (mI h a 8) :: st) h else none := ev_gI d_13_24 (by decide +kernel) (by decide +kernel)
theorem d_13_27 : decode (cd 13) 27 = .ok (.ifCond .le 67, 3) := by rw [cd_13]; decide +kernel
theorem e_13_27 {d : Nat} {h : mM} {L : mLs} {st : List Value} {x : Int32} : ev d 13 27 L (.int x :: st) h = if x ≤ 0 then ev d 13 94 L st h else ev d 13 30 L st h := ev_if (x ≤ 0) inferInstance rfl d_13_27 (by decide)
theorem d_13_30 : decode (cd 13) 30 = .ok (.iload 4, 2) := by rw [cd_13]; decide +kernel
theorem e_13_30 {d : Nat} {h : mM} {o0 o1 o2 o3 : Option Value} {T : mLs} {x : Int32} {st : List Value} : ev d 13 30 (o0 :: o1 :: o2 :: o3 :: some (.int x) :: T) st h = ev d 13 32 (o0 :: o1 :: o2 :: o3 :: some (.int x) :: T) (.int x :: st) h := ev_of d_13_30 rfl
theorem d_13_32 : decode (cd 13) 32 = .ok (.ifCond .le 62, 3) := by rw [cd_13]; decide +kernel
theorem e_13_32 {d : Nat} {h : mM} {L : mLs} {st : List Value} {x : Int32} : ev d 13 32 L (.int x :: st) h = if x ≤ 0 then ev d 13 94 L st h else ev d 13 35 L st h := ev_if (x ≤ 0) inferInstance rfl d_13_32 (by decide)
theorem d_13_35 : decode (cd 13) 35 = .ok (.aload_n 0, 1) := by rw [cd_13]; decide +kernel
theorem e_13_35 {d : Nat} {h : mM} {T : mLs} {x : Nat} {st : List Value} : ev d 13 35 ( some (.ref x) :: T) st h = ev d 13 36 ( some (.ref x) :: T) (.ref x :: st) h := ev_of d_13_35 rfl
theorem d_13_36 : decode (cd 13) 36 = .ok (.getfield 19, 3) := by rw [cd_13]; decide +kernel
theorem e_13_36 {d : Nat} {h : mM} {L : mLs} {st : List Value} {a : Nat} : ev d 13 36 L (.ref a :: st) h = if mK h a = 2 then oB (mR h a 1) (fun b => ev d 13 39 L (.ref b :: st) h) else none := ev_gR d_13_36 (by decide +kernel) (by decide +kernel)
theorem d_13_39 : decode (cd 13) 39 = .ok (.iconst 0, 1) := by rw [cd_13]; decide +kernel
theorem e_13_39 {d : Nat} {h : mM} {L : mLs} {st : List Value} : ev d 13 39 L st h = ev d 13 40 L (.int 0 :: st) h := ev_of d_13_39 rfl
theorem d_13_40 : decode (cd 13) 40 = .ok (.aaload, 1) := by rw [cd_13]; decide +kernel
theorem e_13_40 {d : Nat} {h : mM} {L : mLs} {st : List Value} {a : Nat} {i : Int32} : ev d 13 40 L (.int i :: .ref a :: st) h = if (12 < mK h a ∧ mK h a < 19) ∧ ixOK i (mL h a) = true then oB (mR h a i.toNatClampNeg) (fun b => ev d 13 41 L (.ref b :: st) h) else none := ev_aa d_13_40
theorem d_13_41 : decode (cd 13) 41 = .ok (.astore 6, 2) := by rw [cd_13]; decide +kernel
theorem e_13_41 {d : Nat} {h : mM} {o0 o1 o2 o3 o4 o5 o6 : Option Value} {T : mLs} {x : Nat} {st : List Value} (hl : mLong o5 = false) : ev d 13 41 (o0 :: o1 :: o2 :: o3 :: o4 :: o5 :: o6 :: T) (.ref x :: st) h = ev d 13 43 (o0 :: o1 :: o2 :: o3 :: o4 :: o5 :: some (.ref x) :: T) st h := ev_st_r d_13_41 (by decide +kernel) (mS1_s (j := 5) hl)
theorem d_13_43 : decode (cd 13) 43 = .ok (.iload 4, 2) := by rw [cd_13]; decide +kernel
theorem e_13_43 {d : Nat} {h : mM} {o0 o1 o2 o3 : Option Value} {T : mLs} {x : Int32} {st : List Value} : ev d 13 43 (o0 :: o1 :: o2 :: o3 :: some (.int x) :: T) st h = ev d 13 45 (o0 :: o1 :: o2 :: o3 :: some (.int x) :: T) (.int x :: st) h := ev_of d_13_43 rfl
theorem d_13_45 : decode (cd 13) 45 = .ok (.aload 6, 2) := by rw [cd_13]; decide +kernel
theorem e_13_45 {d : Nat} {h : mM} {o0 o1 o2 o3 o4 o5 : Option Value} {T : mLs} {x : Nat} {st : List Value} : ev d 13 45 (o0 :: o1 :: o2 :: o3 :: o4 :: o5 :: some (.ref x) :: T) st h = ev d 13 47 (o0 :: o1 :: o2 :: o3 :: o4 :: o5 :: some (.ref x) :: T) (.ref x :: st) h := ev_of d_13_45 rfl
theorem d_13_47 : decode (cd 13) 47 = .ok (.getfield 65, 3) := by rw [cd_13]; decide +kernel
theorem e_13_47 {d : Nat} {h : mM} {L : mLs} {st : List Value} {a : Nat} : ev d 13 47 L (.ref a :: st) h = if mK h a = 4 then ev d 13 50 L (.int (mI h a 2) :: st) h else none := ev_gI d_13_47 (by decide +kernel) (by decide +kernel)
theorem d_13_50 : decode (cd 13) 50 = .ok (.invokestatic 68, 3) := by rw [cd_13]; decide +kernel
theorem e_13_50 {d : Nat} {h : mM} {L : mLs} {st : List Value} {x y : Int32} (hc : mCat st ≤ 8) : ev d 13 50 L (.int y :: .int x :: st) h = ev d 13 53 L (.int (if y < x then y else x) :: st) h := ev_min (mj := 0) d_13_50 (by decide +kernel) hc
theorem d_13_53 : decode (cd 13) 53 = .ok (.istore 7, 2) := by rw [cd_13]; decide +kernel
theorem e_13_53 {d : Nat} {h : mM} {o0 o1 o2 o3 o4 o5 o6 o7 : Option Value} {T : mLs} {x : Int32} {st : List Value} (hl : mLong o6 = false) : ev d 13 53 (o0 :: o1 :: o2 :: o3 :: o4 :: o5 :: o6 :: o7 :: T) (.int x :: st) h = ev d 13 55 (o0 :: o1 :: o2 :: o3 :: o4 :: o5 :: o6 :: some (.int x) :: T) st h := ev_st_i d_13_53 (by decide +kernel) (mS1_s (j := 6) hl)
theorem d_13_55 : decode (cd 13) 55 = .ok (.aload 6, 2) := by rw [cd_13]; decide +kernel
theorem e_13_55 {d : Nat} {h : mM} {o0 o1 o2 o3 o4 o5 : Option Value} {T : mLs} {x : Nat} {st : List Value} : ev d 13 55 (o0 :: o1 :: o2 :: o3 :: o4 :: o5 :: some (.ref x) :: T) st h = ev d 13 57 (o0 :: o1 :: o2 :: o3 :: o4 :: o5 :: some (.ref x) :: T) (.ref x :: st) h := ev_of d_13_55 rfl
theorem d_13_57 : decode (cd 13) 57 = .ok (.dup, 1) := by rw [cd_13]; decide +kernel
theorem e_13_57r {d : Nat} {h : mM} {L : mLs} {st : List Value} {a : Nat} : ev d 13 57 L (.ref a :: st) h = ev d 13 58 L (.ref a :: .ref a :: st) h := ev_of d_13_57 rfl
theorem e_13_57i {d : Nat} {h : mM} {L : mLs} {st : List Value} {x : Int32} : ev d 13 57 L (.int x :: st) h = ev d 13 58 L (.int x :: .int x :: st) h := ev_of d_13_57 rfl
theorem d_13_58 : decode (cd 13) 58 = .ok (.getfield 65, 3) := by rw [cd_13]; decide +kernel
theorem e_13_58 {d : Nat} {h : mM} {L : mLs} {st : List Value} {a : Nat} : ev d 13 58 L (.ref a :: st) h = if mK h a = 4 then ev d 13 61 L (.int (mI h a 2) :: st) h else none := ev_gI d_13_58 (by decide +kernel) (by decide +kernel)
theorem d_13_61 : decode (cd 13) 61 = .ok (.iload 7, 2) := by rw [cd_13]; decide +kernel
theorem e_13_61 {d : Nat} {h : mM} {o0 o1 o2 o3 o4 o5 o6 : Option Value} {T : mLs} {x : Int32} {st : List Value} : ev d 13 61 (o0 :: o1 :: o2 :: o3 :: o4 :: o5 :: o6 :: some (.int x) :: T) st h = ev d 13 63 (o0 :: o1 :: o2 :: o3 :: o4 :: o5 :: o6 :: some (.int x) :: T) (.int x :: st) h := ev_of d_13_61 rfl
theorem d_13_63 : decode (cd 13) 63 = .ok (.isub, 1) := by rw [cd_13]; decide +kernel
theorem e_13_63 {d : Nat} {h : mM} {L : mLs} {st : List Value} {x y : Int32} : ev d 13 63 L (.int y :: .int x :: st) h = ev d 13 64 L (.int (x - y) :: st) h := ev_of d_13_63 rfl
theorem d_13_64 : decode (cd 13) 64 = .ok (.putfield 65, 3) := by rw [cd_13]; decide +kernel
theorem e_13_64 {d : Nat} {h : mM} {L : mLs} {st : List Value} {a : Nat} {v : Int32} : ev d 13 64 L (.int v :: .ref a :: st) h = if mK h a = 4 then ev d 13 67 L st (wI h a 2 v) else none := ev_pI d_13_64 (by decide +kernel) (by decide +kernel) (by decide +kernel)
theorem d_13_67 : decode (cd 13) 67 = .ok (.iload 4, 2) := by rw [cd_13]; decide +kernel
theorem e_13_67 {d : Nat} {h : mM} {o0 o1 o2 o3 : Option Value} {T : mLs} {x : Int32} {st : List Value} : ev d 13 67 (o0 :: o1 :: o2 :: o3 :: some (.int x) :: T) st h = ev d 13 69 (o0 :: o1 :: o2 :: o3 :: some (.int x) :: T) (.int x :: st) h := ev_of d_13_67 rfl
theorem d_13_69 : decode (cd 13) 69 = .ok (.iload 7, 2) := by rw [cd_13]; decide +kernel
theorem e_13_69 {d : Nat} {h : mM} {o0 o1 o2 o3 o4 o5 o6 : Option Value} {T : mLs} {x : Int32} {st : List Value} : ev d 13 69 (o0 :: o1 :: o2 :: o3 :: o4 :: o5 :: o6 :: some (.int x) :: T) st h = ev d 13 71 (o0 :: o1 :: o2 :: o3 :: o4 :: o5 :: o6 :: some (.int x) :: T) (.int x :: st) h := ev_of d_13_69 rfl
theorem d_13_71 : decode (cd 13) 71 = .ok (.isub, 1) := by rw [cd_13]; decide +kernel
theorem e_13_71 {d : Nat} {h : mM} {L : mLs} {st : List Value} {x y : Int32} : ev d 13 71 L (.int y :: .int x :: st) h = ev d 13 72 L (.int (x - y) :: st) h := ev_of d_13_71 rfl
theorem d_13_72 : decode (cd 13) 72 = .ok (.istore 4, 2) := by rw [cd_13]; decide +kernel
theorem e_13_72 {d : Nat} {h : mM} {o0 o1 o2 o3 o4 : Option Value} {T : mLs} {x : Int32} {st : List Value} (hl : mLong o3 = false) : ev d 13 72 (o0 :: o1 :: o2 :: o3 :: o4 :: T) (.int x :: st) h = ev d 13 74 (o0 :: o1 :: o2 :: o3 :: some (.int x) :: T) st h := ev_st_i d_13_72 (by decide +kernel) (mS1_s (j := 3) hl)
theorem d_13_74 : decode (cd 13) 74 = .ok (.aload 6, 2) := by rw [cd_13]; decide +kernel
theorem e_13_74 {d : Nat} {h : mM} {o0 o1 o2 o3 o4 o5 : Option Value} {T : mLs} {x : Nat} {st : List Value} : ev d 13 74 (o0 :: o1 :: o2 :: o3 :: o4 :: o5 :: some (.ref x) :: T) st h = ev d 13 76 (o0 :: o1 :: o2 :: o3 :: o4 :: o5 :: some (.ref x) :: T) (.ref x :: st) h := ev_of d_13_74 rfl
theorem d_13_76 : decode (cd 13) 76 = .ok (.getfield 65, 3) := by rw [cd_13]; decide +kernel
theorem e_13_76 {d : Nat} {h : mM} {L : mLs} {st : List Value} {a : Nat} : ev d 13 76 L (.ref a :: st) h = if mK h a = 4 then ev d 13 79 L (.int (mI h a 2) :: st) h else none := ev_gI d_13_76 (by decide +kernel) (by decide +kernel)
theorem d_13_79 : decode (cd 13) 79 = .ok (.ifCond .ne 9, 3) := by rw [cd_13]; decide +kernel
theorem e_13_79 {d : Nat} {h : mM} {L : mLs} {st : List Value} {x : Int32} : ev d 13 79 L (.int x :: st) h = if ¬ x = 0 then ev d 13 88 L st h else ev d 13 82 L st h := ev_if (¬ x = 0) inferInstance rfl d_13_79 (by decide)
theorem d_13_82 : decode (cd 13) 82 = .ok (.aload_n 0, 1) := by rw [cd_13]; decide +kernel
theorem e_13_82 {d : Nat} {h : mM} {T : mLs} {x : Nat} {st : List Value} : ev d 13 82 ( some (.ref x) :: T) st h = ev d 13 83 ( some (.ref x) :: T) (.ref x :: st) h := ev_of d_13_82 rfl
theorem d_13_83 : decode (cd 13) 83 = .ok (.iload_n 2, 1) := by rw [cd_13]; decide +kernel
theorem e_13_83 {d : Nat} {h : mM} {o0 o1 : Option Value} {T : mLs} {x : Int32} {st : List Value} : ev d 13 83 (o0 :: o1 :: some (.int x) :: T) st h = ev d 13 84 (o0 :: o1 :: some (.int x) :: T) (.int x :: st) h := ev_of d_13_83 rfl
theorem d_13_84 : decode (cd 13) 84 = .ok (.aload_n 3, 1) := by rw [cd_13]; decide +kernel
theorem e_13_84 {d : Nat} {h : mM} {o0 o1 o2 : Option Value} {T : mLs} {x : Nat} {st : List Value} : ev d 13 84 (o0 :: o1 :: o2 :: some (.ref x) :: T) st h = ev d 13 85 (o0 :: o1 :: o2 :: some (.ref x) :: T) (.ref x :: st) h := ev_of d_13_84 rfl
theorem d_13_85 : decode (cd 13) 85 = .ok (.invokevirtual 74, 3) := by rw [cd_13]; decide +kernel
theorem e_13_85 {d : Nat} {h : mM} {L : mLs} {st : List Value} {a : Nat} {x0 : Int32} {x1 : Nat} (hc : mCat st ≤ 8) : ev (d + 1) 13 85 L (.ref x1 :: .int x0 :: .ref a :: st) h = if mK h a = 2 then cV (ev d 14 0 [some (.ref a), some (.int x0), some (.ref x1), none, none, none] [] h) (fun v h1 => ev (d + 1) 13 88 L (v ++ st) h1) else none := ev_cv (mj := 14) (as := [.int x0, .ref x1]) (rest := st) d_13_85 (by decide +kernel) rfl rfl (by show _ ≤ List.length _; simp only [List.length_cons]; have : na 14 = 2 := rfl; omega) rfl (Nat.le_of_ble_eq_true rfl) hc
theorem d_13_88 : decode (cd 13) 88 = .ok (.iinc 5 1, 3) := by rw [cd_13]; decide +kernel
theorem e_13_88 {d : Nat} {h : mM} {o0 o1 o2 o3 o4 : Option Value} {T : mLs} {x : Int32} {st : List Value} (hl : mLong o4 = false) : ev d 13 88 (o0 :: o1 :: o2 :: o3 :: o4 :: some (.int x) :: T) st h = ev d 13 91 (o0 :: o1 :: o2 :: o3 :: o4 :: some (.int (x + 1)) :: T) st h := ev_inc d_13_88 (by decide +kernel) rfl rfl (mS1_s (j := 4) hl)
theorem d_13_91 : decode (cd 13) 91 = .ok (.goto (-75), 3) := by rw [cd_13]; decide +kernel
theorem e_13_91 {d : Nat} {h : mM} {L : mLs} {st : List Value} : ev d 13 91 L st h = ev d 13 16 L st h := ev_go d_13_91 (by decide)
theorem d_13_94 : decode (cd 13) 94 = .ok (.aload_n 0, 1) := by rw [cd_13]; decide +kernel
theorem e_13_94 {d : Nat} {h : mM} {T : mLs} {x : Nat} {st : List Value} : ev d 13 94 ( some (.ref x) :: T) st h = ev d 13 95 ( some (.ref x) :: T) (.ref x :: st) h := ev_of d_13_94 rfl
theorem d_13_95 : decode (cd 13) 95 = .ok (.dup, 1) := by rw [cd_13]; decide +kernel
theorem e_13_95r {d : Nat} {h : mM} {L : mLs} {st : List Value} {a : Nat} : ev d 13 95 L (.ref a :: st) h = ev d 13 96 L (.ref a :: .ref a :: st) h := ev_of d_13_95 rfl
theorem e_13_95i {d : Nat} {h : mM} {L : mLs} {st : List Value} {x : Int32} : ev d 13 95 L (.int x :: st) h = ev d 13 96 L (.int x :: .int x :: st) h := ev_of d_13_95 rfl
theorem d_13_96 : decode (cd 13) 96 = .ok (.getfield 57, 3) := by rw [cd_13]; decide +kernel
theorem e_13_96 {d : Nat} {h : mM} {L : mLs} {st : List Value} {a : Nat} : ev d 13 96 L (.ref a :: st) h = if mK h a = 2 then ev d 13 99 L (.int (mI h a 13) :: st) h else none := ev_gI d_13_96 (by decide +kernel) (by decide +kernel)
theorem d_13_99 : decode (cd 13) 99 = .ok (.iload 4, 2) := by rw [cd_13]; decide +kernel
theorem e_13_99 {d : Nat} {h : mM} {o0 o1 o2 o3 : Option Value} {T : mLs} {x : Int32} {st : List Value} : ev d 13 99 (o0 :: o1 :: o2 :: o3 :: some (.int x) :: T) st h = ev d 13 101 (o0 :: o1 :: o2 :: o3 :: some (.int x) :: T) (.int x :: st) h := ev_of d_13_99 rfl
theorem d_13_101 : decode (cd 13) 101 = .ok (.iadd, 1) := by rw [cd_13]; decide +kernel
theorem e_13_101 {d : Nat} {h : mM} {L : mLs} {st : List Value} {x y : Int32} : ev d 13 101 L (.int y :: .int x :: st) h = ev d 13 102 L (.int (x + y) :: st) h := ev_of d_13_101 rfl
theorem d_13_102 : decode (cd 13) 102 = .ok (.putfield 57, 3) := by rw [cd_13]; decide +kernel
theorem e_13_102 {d : Nat} {h : mM} {L : mLs} {st : List Value} {a : Nat} {v : Int32} : ev d 13 102 L (.int v :: .ref a :: st) h = if mK h a = 2 then ev d 13 105 L st (wI h a 13 v) else none := ev_pI d_13_102 (by decide +kernel) (by decide +kernel) (by decide +kernel)
theorem d_13_105 : decode (cd 13) 105 = .ok (.return_, 1) := by rw [cd_13]; decide +kernel
theorem e_13_105 {d : Nat} {h : mM} {L : mLs} : ev d 13 105 L [] h = some (none, h) := ev_rv d_13_105 (by decide +kernel)
-- 14: Mill.finishFirst
theorem cd_14 : cd 14 = prog_4_method_4_code := rfl
theorem d_14_0 : decode (cd 14) 0 = .ok (.aload_n 0, 1) := by rw [cd_14]; decide +kernel
theorem e_14_0 {d : Nat} {h : mM} {T : mLs} {x : Nat} {st : List Value} : ev d 14 0 ( some (.ref x) :: T) st h = ev d 14 1 ( some (.ref x) :: T) (.ref x :: st) h := ev_of d_14_0 rfl
theorem d_14_1 : decode (cd 14) 1 = .ok (.getfield 19, 3) := by rw [cd_14]; decide +kernel
theorem e_14_1 {d : Nat} {h : mM} {L : mLs} {st : List Value} {a : Nat} : ev d 14 1 L (.ref a :: st) h = if mK h a = 2 then oB (mR h a 1) (fun b => ev d 14 4 L (.ref b :: st) h) else none := ev_gR d_14_1 (by decide +kernel) (by decide +kernel)
theorem d_14_4 : decode (cd 14) 4 = .ok (.iconst 0, 1) := by rw [cd_14]; decide +kernel
theorem e_14_4 {d : Nat} {h : mM} {L : mLs} {st : List Value} : ev d 14 4 L st h = ev d 14 5 L (.int 0 :: st) h := ev_of d_14_4 rfl
theorem d_14_5 : decode (cd 14) 5 = .ok (.aaload, 1) := by rw [cd_14]; decide +kernel
theorem e_14_5 {d : Nat} {h : mM} {L : mLs} {st : List Value} {a : Nat} {i : Int32} : ev d 14 5 L (.int i :: .ref a :: st) h = if (12 < mK h a ∧ mK h a < 19) ∧ ixOK i (mL h a) = true then oB (mR h a i.toNatClampNeg) (fun b => ev d 14 6 L (.ref b :: st) h) else none := ev_aa d_14_5
theorem d_14_6 : decode (cd 14) 6 = .ok (.astore_n 3, 1) := by rw [cd_14]; decide +kernel
theorem e_14_6 {d : Nat} {h : mM} {o0 o1 o2 o3 : Option Value} {T : mLs} {x : Nat} {st : List Value} (hl : mLong o2 = false) : ev d 14 6 (o0 :: o1 :: o2 :: o3 :: T) (.ref x :: st) h = ev d 14 7 (o0 :: o1 :: o2 :: some (.ref x) :: T) st h := ev_st_rn d_14_6 (by decide +kernel) (mS1_s (j := 2) hl)
theorem d_14_7 : decode (cd 14) 7 = .ok (.aload_n 0, 1) := by rw [cd_14]; decide +kernel
theorem e_14_7 {d : Nat} {h : mM} {T : mLs} {x : Nat} {st : List Value} : ev d 14 7 ( some (.ref x) :: T) st h = ev d 14 8 ( some (.ref x) :: T) (.ref x :: st) h := ev_of d_14_7 rfl
theorem d_14_8 : decode (cd 14) 8 = .ok (.getfield 23, 3) := by rw [cd_14]; decide +kernel
theorem e_14_8 {d : Nat} {h : mM} {L : mLs} {st : List Value} {a : Nat} : ev d 14 8 L (.ref a :: st) h = if mK h a = 2 then ev d 14 11 L (.int (mI h a 2) :: st) h else none := ev_gI d_14_8 (by decide +kernel) (by decide +kernel)
theorem d_14_11 : decode (cd 14) 11 = .ok (.iconst 1, 1) := by rw [cd_14]; decide +kernel
theorem e_14_11 {d : Nat} {h : mM} {L : mLs} {st : List Value} : ev d 14 11 L st h = ev d 14 12 L (.int 1 :: st) h := ev_of d_14_11 rfl
theorem d_14_12 : decode (cd 14) 12 = .ok (.if_icmp .ne 7, 3) := by rw [cd_14]; decide +kernel
theorem e_14_12 {d : Nat} {h : mM} {L : mLs} {st : List Value} {x y : Int32} : ev d 14 12 L (.int y :: .int x :: st) h = if ¬ x = y then ev d 14 19 L st h else ev d 14 15 L st h := ev_ic (¬ x = y) inferInstance rfl d_14_12 (by decide)
theorem d_14_15 : decode (cd 14) 15 = .ok (.iconst 0, 1) := by rw [cd_14]; decide +kernel
theorem e_14_15 {d : Nat} {h : mM} {L : mLs} {st : List Value} : ev d 14 15 L st h = ev d 14 16 L (.int 0 :: st) h := ev_of d_14_15 rfl
theorem d_14_16 : decode (cd 14) 16 = .ok (.goto 10, 3) := by rw [cd_14]; decide +kernel
theorem e_14_16 {d : Nat} {h : mM} {L : mLs} {st : List Value} : ev d 14 16 L st h = ev d 14 26 L st h := ev_go d_14_16 (by decide)
theorem d_14_19 : decode (cd 14) 19 = .ok (.aload_n 3, 1) := by rw [cd_14]; decide +kernel
theorem e_14_19 {d : Nat} {h : mM} {o0 o1 o2 : Option Value} {T : mLs} {x : Nat} {st : List Value} : ev d 14 19 (o0 :: o1 :: o2 :: some (.ref x) :: T) st h = ev d 14 20 (o0 :: o1 :: o2 :: some (.ref x) :: T) (.ref x :: st) h := ev_of d_14_19 rfl
theorem d_14_20 : decode (cd 14) 20 = .ok (.getfield 78, 3) := by rw [cd_14]; decide +kernel
theorem e_14_20 {d : Nat} {h : mM} {L : mLs} {st : List Value} {a : Nat} : ev d 14 20 L (.ref a :: st) h = if mK h a = 4 then ev d 14 23 L (.int (mI h a 1) :: st) h else none := ev_gI d_14_20 (by decide +kernel) (by decide +kernel)
theorem d_14_23 : decode (cd 14) 23 = .ok (.bipush 16, 2) := by rw [cd_14]; decide +kernel
theorem e_14_23 {d : Nat} {h : mM} {L : mLs} {st : List Value} : ev d 14 23 L st h = ev d 14 25 L (.int 16 :: st) h := ev_of d_14_23 rfl
theorem d_14_25 : decode (cd 14) 25 = .ok (.idiv, 1) := by rw [cd_14]; decide +kernel
theorem e_14_25 {d : Nat} {h : mM} {L : mLs} {st : List Value} {x y : Int32} : ev d 14 25 L (.int y :: .int x :: st) h = if y = 0 then none else ev d 14 26 L (.int (x / y) :: st) h := ev_div d_14_25
theorem d_14_26 : decode (cd 14) 26 = .ok (.istore 4, 2) := by rw [cd_14]; decide +kernel
theorem e_14_26 {d : Nat} {h : mM} {o0 o1 o2 o3 o4 : Option Value} {T : mLs} {x : Int32} {st : List Value} (hl : mLong o3 = false) : ev d 14 26 (o0 :: o1 :: o2 :: o3 :: o4 :: T) (.int x :: st) h = ev d 14 28 (o0 :: o1 :: o2 :: o3 :: some (.int x) :: T) st h := ev_st_i d_14_26 (by decide +kernel) (mS1_s (j := 3) hl)
theorem d_14_28 : decode (cd 14) 28 = .ok (.aload_n 0, 1) := by rw [cd_14]; decide +kernel
theorem e_14_28 {d : Nat} {h : mM} {T : mLs} {x : Nat} {st : List Value} : ev d 14 28 ( some (.ref x) :: T) st h = ev d 14 29 ( some (.ref x) :: T) (.ref x :: st) h := ev_of d_14_28 rfl
theorem d_14_29 : decode (cd 14) 29 = .ok (.dup, 1) := by rw [cd_14]; decide +kernel
theorem e_14_29r {d : Nat} {h : mM} {L : mLs} {st : List Value} {a : Nat} : ev d 14 29 L (.ref a :: st) h = ev d 14 30 L (.ref a :: .ref a :: st) h := ev_of d_14_29 rfl
theorem e_14_29i {d : Nat} {h : mM} {L : mLs} {st : List Value} {x : Int32} : ev d 14 29 L (.int x :: st) h = ev d 14 30 L (.int x :: .int x :: st) h := ev_of d_14_29 rfl
theorem d_14_30 : decode (cd 14) 30 = .ok (.getfield 48, 3) := by rw [cd_14]; decide +kernel
theorem e_14_30 {d : Nat} {h : mM} {L : mLs} {st : List Value} {a : Nat} : ev d 14 30 L (.ref a :: st) h = if mK h a = 2 then ev d 14 33 L (.int (mI h a 10) :: st) h else none := ev_gI d_14_30 (by decide +kernel) (by decide +kernel)
theorem d_14_33 : decode (cd 14) 33 = .ok (.iload 4, 2) := by rw [cd_14]; decide +kernel
theorem e_14_33 {d : Nat} {h : mM} {o0 o1 o2 o3 : Option Value} {T : mLs} {x : Int32} {st : List Value} : ev d 14 33 (o0 :: o1 :: o2 :: o3 :: some (.int x) :: T) st h = ev d 14 35 (o0 :: o1 :: o2 :: o3 :: some (.int x) :: T) (.int x :: st) h := ev_of d_14_33 rfl
theorem d_14_35 : decode (cd 14) 35 = .ok (.iadd, 1) := by rw [cd_14]; decide +kernel
theorem e_14_35 {d : Nat} {h : mM} {L : mLs} {st : List Value} {x y : Int32} : ev d 14 35 L (.int y :: .int x :: st) h = ev d 14 36 L (.int (x + y) :: st) h := ev_of d_14_35 rfl
theorem d_14_36 : decode (cd 14) 36 = .ok (.putfield 48, 3) := by rw [cd_14]; decide +kernel
theorem e_14_36 {d : Nat} {h : mM} {L : mLs} {st : List Value} {a : Nat} {v : Int32} : ev d 14 36 L (.int v :: .ref a :: st) h = if mK h a = 2 then ev d 14 39 L st (wI h a 10 v) else none := ev_pI d_14_36 (by decide +kernel) (by decide +kernel) (by decide +kernel)
theorem d_14_39 : decode (cd 14) 39 = .ok (.aload_n 0, 1) := by rw [cd_14]; decide +kernel
theorem e_14_39 {d : Nat} {h : mM} {T : mLs} {x : Nat} {st : List Value} : ev d 14 39 ( some (.ref x) :: T) st h = ev d 14 40 ( some (.ref x) :: T) (.ref x :: st) h := ev_of d_14_39 rfl
theorem d_14_40 : decode (cd 14) 40 = .ok (.dup, 1) := by rw [cd_14]; decide +kernel
theorem e_14_40r {d : Nat} {h : mM} {L : mLs} {st : List Value} {a : Nat} : ev d 14 40 L (.ref a :: st) h = ev d 14 41 L (.ref a :: .ref a :: st) h := ev_of d_14_40 rfl
theorem e_14_40i {d : Nat} {h : mM} {L : mLs} {st : List Value} {x : Int32} : ev d 14 40 L (.int x :: st) h = ev d 14 41 L (.int x :: .int x :: st) h := ev_of d_14_40 rfl
theorem d_14_41 : decode (cd 14) 41 = .ok (.getfield 51, 3) := by rw [cd_14]; decide +kernel
theorem e_14_41 {d : Nat} {h : mM} {L : mLs} {st : List Value} {a : Nat} : ev d 14 41 L (.ref a :: st) h = if mK h a = 2 then ev d 14 44 L (.int (mI h a 11) :: st) h else none := ev_gI d_14_41 (by decide +kernel) (by decide +kernel)
theorem d_14_44 : decode (cd 14) 44 = .ok (.iconst 1, 1) := by rw [cd_14]; decide +kernel
theorem e_14_44 {d : Nat} {h : mM} {L : mLs} {st : List Value} : ev d 14 44 L st h = ev d 14 45 L (.int 1 :: st) h := ev_of d_14_44 rfl
theorem d_14_45 : decode (cd 14) 45 = .ok (.iadd, 1) := by rw [cd_14]; decide +kernel
theorem e_14_45 {d : Nat} {h : mM} {L : mLs} {st : List Value} {x y : Int32} : ev d 14 45 L (.int y :: .int x :: st) h = ev d 14 46 L (.int (x + y) :: st) h := ev_of d_14_45 rfl
theorem d_14_46 : decode (cd 14) 46 = .ok (.putfield 51, 3) := by rw [cd_14]; decide +kernel
theorem e_14_46 {d : Nat} {h : mM} {L : mLs} {st : List Value} {a : Nat} {v : Int32} : ev d 14 46 L (.int v :: .ref a :: st) h = if mK h a = 2 then ev d 14 49 L st (wI h a 11 v) else none := ev_pI d_14_46 (by decide +kernel) (by decide +kernel) (by decide +kernel)
theorem d_14_49 : decode (cd 14) 49 = .ok (.iload_n 1, 1) := by rw [cd_14]; decide +kernel
theorem e_14_49 {d : Nat} {h : mM} {o0 : Option Value} {T : mLs} {x : Int32} {st : List Value} : ev d 14 49 (o0 :: some (.int x) :: T) st h = ev d 14 50 (o0 :: some (.int x) :: T) (.int x :: st) h := ev_of d_14_49 rfl
theorem d_14_50 : decode (cd 14) 50 = .ok (.aload_n 3, 1) := by rw [cd_14]; decide +kernel
theorem e_14_50 {d : Nat} {h : mM} {o0 o1 o2 : Option Value} {T : mLs} {x : Nat} {st : List Value} : ev d 14 50 (o0 :: o1 :: o2 :: some (.ref x) :: T) st h = ev d 14 51 (o0 :: o1 :: o2 :: some (.ref x) :: T) (.ref x :: st) h := ev_of d_14_50 rfl
theorem d_14_51 : decode (cd 14) 51 = .ok (.getfield 81, 3) := by rw [cd_14]; decide +kernel
theorem e_14_51 {d : Nat} {h : mM} {L : mLs} {st : List Value} {a : Nat} : ev d 14 51 L (.ref a :: st) h = if mK h a = 4 then ev d 14 54 L (.int (mI h a 3) :: st) h else none := ev_gI d_14_51 (by decide +kernel) (by decide +kernel)
theorem d_14_54 : decode (cd 14) 54 = .ok (.if_icmp .le 13, 3) := by rw [cd_14]; decide +kernel
theorem e_14_54 {d : Nat} {h : mM} {L : mLs} {st : List Value} {x y : Int32} : ev d 14 54 L (.int y :: .int x :: st) h = if x ≤ y then ev d 14 67 L st h else ev d 14 57 L st h := ev_ic (x ≤ y) inferInstance rfl d_14_54 (by decide)
theorem d_14_57 : decode (cd 14) 57 = .ok (.aload_n 0, 1) := by rw [cd_14]; decide +kernel
theorem e_14_57 {d : Nat} {h : mM} {T : mLs} {x : Nat} {st : List Value} : ev d 14 57 ( some (.ref x) :: T) st h = ev d 14 58 ( some (.ref x) :: T) (.ref x :: st) h := ev_of d_14_57 rfl
theorem d_14_58 : decode (cd 14) 58 = .ok (.dup, 1) := by rw [cd_14]; decide +kernel
theorem e_14_58r {d : Nat} {h : mM} {L : mLs} {st : List Value} {a : Nat} : ev d 14 58 L (.ref a :: st) h = ev d 14 59 L (.ref a :: .ref a :: st) h := ev_of d_14_58 rfl
theorem e_14_58i {d : Nat} {h : mM} {L : mLs} {st : List Value} {x : Int32} : ev d 14 58 L (.int x :: st) h = ev d 14 59 L (.int x :: .int x :: st) h := ev_of d_14_58 rfl
theorem d_14_59 : decode (cd 14) 59 = .ok (.getfield 54, 3) := by rw [cd_14]; decide +kernel
theorem e_14_59 {d : Nat} {h : mM} {L : mLs} {st : List Value} {a : Nat} : ev d 14 59 L (.ref a :: st) h = if mK h a = 2 then ev d 14 62 L (.int (mI h a 12) :: st) h else none := ev_gI d_14_59 (by decide +kernel) (by decide +kernel)
theorem d_14_62 : decode (cd 14) 62 = .ok (.iconst 1, 1) := by rw [cd_14]; decide +kernel
theorem e_14_62 {d : Nat} {h : mM} {L : mLs} {st : List Value} : ev d 14 62 L st h = ev d 14 63 L (.int 1 :: st) h := ev_of d_14_62 rfl
theorem d_14_63 : decode (cd 14) 63 = .ok (.iadd, 1) := by rw [cd_14]; decide +kernel
theorem e_14_63 {d : Nat} {h : mM} {L : mLs} {st : List Value} {x y : Int32} : ev d 14 63 L (.int y :: .int x :: st) h = ev d 14 64 L (.int (x + y) :: st) h := ev_of d_14_63 rfl
theorem d_14_64 : decode (cd 14) 64 = .ok (.putfield 54, 3) := by rw [cd_14]; decide +kernel
theorem e_14_64 {d : Nat} {h : mM} {L : mLs} {st : List Value} {a : Nat} {v : Int32} : ev d 14 64 L (.int v :: .ref a :: st) h = if mK h a = 2 then ev d 14 67 L st (wI h a 12 v) else none := ev_pI d_14_64 (by decide +kernel) (by decide +kernel) (by decide +kernel)
theorem d_14_67 : decode (cd 14) 67 = .ok (.aload_n 3, 1) := by rw [cd_14]; decide +kernel
theorem e_14_67 {d : Nat} {h : mM} {o0 o1 o2 : Option Value} {T : mLs} {x : Nat} {st : List Value} : ev d 14 67 (o0 :: o1 :: o2 :: some (.ref x) :: T) st h = ev d 14 68 (o0 :: o1 :: o2 :: some (.ref x) :: T) (.ref x :: st) h := ev_of d_14_67 rfl
theorem d_14_68 : decode (cd 14) 68 = .ok (.getfield 84, 3) := by rw [cd_14]; decide +kernel
theorem e_14_68 {d : Nat} {h : mM} {L : mLs} {st : List Value} {a : Nat} : ev d 14 68 L (.ref a :: st) h = if mK h a = 4 then ev d 14 71 L (.int (mI h a 0) :: st) h else none := ev_gI d_14_68 (by decide +kernel) (by decide +kernel)
theorem d_14_71 : decode (cd 14) 71 = .ok (.invokestatic 85, 3) := by rw [cd_14]; decide +kernel
theorem e_14_71 {d : Nat} {h : mM} {L : mLs} {st : List Value} {x0 : Int32} (hc : mCat st ≤ 8) : ev (d + 1) 14 71 L (.int x0 :: st) h = cV (ev d 68 0 [some (.int x0)] [] h) (fun v h1 => ev (d + 1) 14 74 L (v ++ st) h1) := ev_cs (kd := 3) (mj := 68) (as := [.int x0]) (rest := st) d_14_71 (by decide +kernel) (by decide) rfl rfl (by show _ ≤ List.length _; simp only [List.length_cons]; have : na 68 = 1 := rfl; omega) rfl (Nat.le_of_ble_eq_true rfl) hc
theorem d_14_74 : decode (cd 14) 74 = .ok (.ifCond .eq 19, 3) := by rw [cd_14]; decide +kernel
theorem e_14_74 {d : Nat} {h : mM} {L : mLs} {st : List Value} {x : Int32} : ev d 14 74 L (.int x :: st) h = if x = 0 then ev d 14 93 L st h else ev d 14 77 L st h := ev_if (x = 0) inferInstance rfl d_14_74 (by decide)
theorem d_14_77 : decode (cd 14) 77 = .ok (.aload_n 2, 1) := by rw [cd_14]; decide +kernel
theorem e_14_77 {d : Nat} {h : mM} {o0 o1 : Option Value} {T : mLs} {x : Nat} {st : List Value} : ev d 14 77 (o0 :: o1 :: some (.ref x) :: T) st h = ev d 14 78 (o0 :: o1 :: some (.ref x) :: T) (.ref x :: st) h := ev_of d_14_77 rfl
theorem d_14_78 : decode (cd 14) 78 = .ok (.aload_n 3, 1) := by rw [cd_14]; decide +kernel
theorem e_14_78 {d : Nat} {h : mM} {o0 o1 o2 : Option Value} {T : mLs} {x : Nat} {st : List Value} : ev d 14 78 (o0 :: o1 :: o2 :: some (.ref x) :: T) st h = ev d 14 79 (o0 :: o1 :: o2 :: some (.ref x) :: T) (.ref x :: st) h := ev_of d_14_78 rfl
theorem d_14_79 : decode (cd 14) 79 = .ok (.getfield 84, 3) := by rw [cd_14]; decide +kernel
theorem e_14_79 {d : Nat} {h : mM} {L : mLs} {st : List Value} {a : Nat} : ev d 14 79 L (.ref a :: st) h = if mK h a = 4 then ev d 14 82 L (.int (mI h a 0) :: st) h else none := ev_gI d_14_79 (by decide +kernel) (by decide +kernel)
theorem d_14_82 : decode (cd 14) 82 = .ok (.dup2, 1) := by rw [cd_14]; decide +kernel
theorem e_14_82 {d : Nat} {h : mM} {L : mLs} {st : List Value} {a : Nat} {i : Int32} : ev d 14 82 L (.int i :: .ref a :: st) h = ev d 14 83 L (.int i :: .ref a :: .int i :: .ref a :: st) h := ev_of d_14_82 rfl
theorem d_14_83 : decode (cd 14) 83 = .ok (.iaload, 1) := by rw [cd_14]; decide +kernel
theorem e_14_83 {d : Nat} {h : mM} {L : mLs} {st : List Value} {a : Nat} {i : Int32} : ev d 14 83 L (.int i :: .ref a :: st) h = if (mK h a = 11 ∨ mK h a = 19) ∧ ixOK i (mL h a) = true then ev d 14 84 L (.int (mI h a i.toNatClampNeg) :: st) h else none := ev_ia d_14_83
theorem d_14_84 : decode (cd 14) 84 = .ok (.aload_n 3, 1) := by rw [cd_14]; decide +kernel
theorem e_14_84 {d : Nat} {h : mM} {o0 o1 o2 : Option Value} {T : mLs} {x : Nat} {st : List Value} : ev d 14 84 (o0 :: o1 :: o2 :: some (.ref x) :: T) st h = ev d 14 85 (o0 :: o1 :: o2 :: some (.ref x) :: T) (.ref x :: st) h := ev_of d_14_84 rfl
theorem d_14_85 : decode (cd 14) 85 = .ok (.getfield 78, 3) := by rw [cd_14]; decide +kernel
theorem e_14_85 {d : Nat} {h : mM} {L : mLs} {st : List Value} {a : Nat} : ev d 14 85 L (.ref a :: st) h = if mK h a = 4 then ev d 14 88 L (.int (mI h a 1) :: st) h else none := ev_gI d_14_85 (by decide +kernel) (by decide +kernel)
theorem d_14_88 : decode (cd 14) 88 = .ok (.iload 4, 2) := by rw [cd_14]; decide +kernel
theorem e_14_88 {d : Nat} {h : mM} {o0 o1 o2 o3 : Option Value} {T : mLs} {x : Int32} {st : List Value} : ev d 14 88 (o0 :: o1 :: o2 :: o3 :: some (.int x) :: T) st h = ev d 14 90 (o0 :: o1 :: o2 :: o3 :: some (.int x) :: T) (.int x :: st) h := ev_of d_14_88 rfl
theorem d_14_90 : decode (cd 14) 90 = .ok (.isub, 1) := by rw [cd_14]; decide +kernel
theorem e_14_90 {d : Nat} {h : mM} {L : mLs} {st : List Value} {x y : Int32} : ev d 14 90 L (.int y :: .int x :: st) h = ev d 14 91 L (.int (x - y) :: st) h := ev_of d_14_90 rfl
theorem d_14_91 : decode (cd 14) 91 = .ok (.iadd, 1) := by rw [cd_14]; decide +kernel
theorem e_14_91 {d : Nat} {h : mM} {L : mLs} {st : List Value} {x y : Int32} : ev d 14 91 L (.int y :: .int x :: st) h = ev d 14 92 L (.int (x + y) :: st) h := ev_of d_14_91 rfl
theorem d_14_92 : decode (cd 14) 92 = .ok (.iastore, 1) := by rw [cd_14]; decide +kernel
theorem e_14_92 {d : Nat} {h : mM} {L : mLs} {st : List Value} {a : Nat} {i v : Int32} : ev d 14 92 L (.int v :: .int i :: .ref a :: st) h = if mK h a = 11 ∧ ixOK i (mL h a) = true then ev d 14 93 L st (wI h a i.toNatClampNeg v) else none := ev_is d_14_92
theorem d_14_93 : decode (cd 14) 93 = .ok (.aload_n 0, 1) := by rw [cd_14]; decide +kernel
theorem e_14_93 {d : Nat} {h : mM} {T : mLs} {x : Nat} {st : List Value} : ev d 14 93 ( some (.ref x) :: T) st h = ev d 14 94 ( some (.ref x) :: T) (.ref x :: st) h := ev_of d_14_93 rfl
theorem d_14_94 : decode (cd 14) 94 = .ok (.dup, 1) := by rw [cd_14]; decide +kernel
theorem e_14_94r {d : Nat} {h : mM} {L : mLs} {st : List Value} {a : Nat} : ev d 14 94 L (.ref a :: st) h = ev d 14 95 L (.ref a :: .ref a :: st) h := ev_of d_14_94 rfl
theorem e_14_94i {d : Nat} {h : mM} {L : mLs} {st : List Value} {x : Int32} : ev d 14 94 L (.int x :: st) h = ev d 14 95 L (.int x :: .int x :: st) h := ev_of d_14_94 rfl
theorem d_14_95 : decode (cd 14) 95 = .ok (.getfield 42, 3) := by rw [cd_14]; decide +kernel
theorem e_14_95 {d : Nat} {h : mM} {L : mLs} {st : List Value} {a : Nat} : ev d 14 95 L (.ref a :: st) h = if mK h a = 2 then ev d 14 98 L (.int (mI h a 8) :: st) h else none := ev_gI d_14_95 (by decide +kernel) (by decide +kernel)
theorem d_14_98 : decode (cd 14) 98 = .ok (.iconst 1, 1) := by rw [cd_14]; decide +kernel
theorem e_14_98 {d : Nat} {h : mM} {L : mLs} {st : List Value} : ev d 14 98 L st h = ev d 14 99 L (.int 1 :: st) h := ev_of d_14_98 rfl
theorem d_14_99 : decode (cd 14) 99 = .ok (.isub, 1) := by rw [cd_14]; decide +kernel
theorem e_14_99 {d : Nat} {h : mM} {L : mLs} {st : List Value} {x y : Int32} : ev d 14 99 L (.int y :: .int x :: st) h = ev d 14 100 L (.int (x - y) :: st) h := ev_of d_14_99 rfl
theorem d_14_100 : decode (cd 14) 100 = .ok (.putfield 42, 3) := by rw [cd_14]; decide +kernel
theorem e_14_100 {d : Nat} {h : mM} {L : mLs} {st : List Value} {a : Nat} {v : Int32} : ev d 14 100 L (.int v :: .ref a :: st) h = if mK h a = 2 then ev d 14 103 L st (wI h a 8 v) else none := ev_pI d_14_100 (by decide +kernel) (by decide +kernel) (by decide +kernel)
theorem d_14_103 : decode (cd 14) 103 = .ok (.iconst 0, 1) := by rw [cd_14]; decide +kernel
theorem e_14_103 {d : Nat} {h : mM} {L : mLs} {st : List Value} : ev d 14 103 L st h = ev d 14 104 L (.int 0 :: st) h := ev_of d_14_103 rfl
theorem d_14_104 : decode (cd 14) 104 = .ok (.istore 5, 2) := by rw [cd_14]; decide +kernel
theorem e_14_104 {d : Nat} {h : mM} {o0 o1 o2 o3 o4 o5 : Option Value} {T : mLs} {x : Int32} {st : List Value} (hl : mLong o4 = false) : ev d 14 104 (o0 :: o1 :: o2 :: o3 :: o4 :: o5 :: T) (.int x :: st) h = ev d 14 106 (o0 :: o1 :: o2 :: o3 :: o4 :: some (.int x) :: T) st h := ev_st_i d_14_104 (by decide +kernel) (mS1_s (j := 4) hl)
theorem d_14_106 : decode (cd 14) 106 = .ok (.iload 5, 2) := by rw [cd_14]; decide +kernel
theorem e_14_106 {d : Nat} {h : mM} {o0 o1 o2 o3 o4 : Option Value} {T : mLs} {x : Int32} {st : List Value} : ev d 14 106 (o0 :: o1 :: o2 :: o3 :: o4 :: some (.int x) :: T) st h = ev d 14 108 (o0 :: o1 :: o2 :: o3 :: o4 :: some (.int x) :: T) (.int x :: st) h := ev_of d_14_106 rfl
theorem d_14_108 : decode (cd 14) 108 = .ok (.bipush 11, 2) := by rw [cd_14]; decide +kernel
theorem e_14_108 {d : Nat} {h : mM} {L : mLs} {st : List Value} : ev d 14 108 L st h = ev d 14 110 L (.int 11 :: st) h := ev_of d_14_108 rfl
theorem d_14_110 : decode (cd 14) 110 = .ok (.if_icmp .ge 25, 3) := by rw [cd_14]; decide +kernel
theorem e_14_110 {d : Nat} {h : mM} {L : mLs} {st : List Value} {x y : Int32} : ev d 14 110 L (.int y :: .int x :: st) h = if y ≤ x then ev d 14 135 L st h else ev d 14 113 L st h := ev_ic (y ≤ x) inferInstance rfl d_14_110 (by decide)
theorem d_14_113 : decode (cd 14) 113 = .ok (.aload_n 0, 1) := by rw [cd_14]; decide +kernel
theorem e_14_113 {d : Nat} {h : mM} {T : mLs} {x : Nat} {st : List Value} : ev d 14 113 ( some (.ref x) :: T) st h = ev d 14 114 ( some (.ref x) :: T) (.ref x :: st) h := ev_of d_14_113 rfl
theorem d_14_114 : decode (cd 14) 114 = .ok (.getfield 19, 3) := by rw [cd_14]; decide +kernel
theorem e_14_114 {d : Nat} {h : mM} {L : mLs} {st : List Value} {a : Nat} : ev d 14 114 L (.ref a :: st) h = if mK h a = 2 then oB (mR h a 1) (fun b => ev d 14 117 L (.ref b :: st) h) else none := ev_gR d_14_114 (by decide +kernel) (by decide +kernel)
theorem d_14_117 : decode (cd 14) 117 = .ok (.iload 5, 2) := by rw [cd_14]; decide +kernel
theorem e_14_117 {d : Nat} {h : mM} {o0 o1 o2 o3 o4 : Option Value} {T : mLs} {x : Int32} {st : List Value} : ev d 14 117 (o0 :: o1 :: o2 :: o3 :: o4 :: some (.int x) :: T) st h = ev d 14 119 (o0 :: o1 :: o2 :: o3 :: o4 :: some (.int x) :: T) (.int x :: st) h := ev_of d_14_117 rfl
theorem d_14_119 : decode (cd 14) 119 = .ok (.aload_n 0, 1) := by rw [cd_14]; decide +kernel
theorem e_14_119 {d : Nat} {h : mM} {T : mLs} {x : Nat} {st : List Value} : ev d 14 119 ( some (.ref x) :: T) st h = ev d 14 120 ( some (.ref x) :: T) (.ref x :: st) h := ev_of d_14_119 rfl
theorem d_14_120 : decode (cd 14) 120 = .ok (.getfield 19, 3) := by rw [cd_14]; decide +kernel
theorem e_14_120 {d : Nat} {h : mM} {L : mLs} {st : List Value} {a : Nat} : ev d 14 120 L (.ref a :: st) h = if mK h a = 2 then oB (mR h a 1) (fun b => ev d 14 123 L (.ref b :: st) h) else none := ev_gR d_14_120 (by decide +kernel) (by decide +kernel)
theorem d_14_123 : decode (cd 14) 123 = .ok (.iload 5, 2) := by rw [cd_14]; decide +kernel
theorem e_14_123 {d : Nat} {h : mM} {o0 o1 o2 o3 o4 : Option Value} {T : mLs} {x : Int32} {st : List Value} : ev d 14 123 (o0 :: o1 :: o2 :: o3 :: o4 :: some (.int x) :: T) st h = ev d 14 125 (o0 :: o1 :: o2 :: o3 :: o4 :: some (.int x) :: T) (.int x :: st) h := ev_of d_14_123 rfl
theorem d_14_125 : decode (cd 14) 125 = .ok (.iconst 1, 1) := by rw [cd_14]; decide +kernel
theorem e_14_125 {d : Nat} {h : mM} {L : mLs} {st : List Value} : ev d 14 125 L st h = ev d 14 126 L (.int 1 :: st) h := ev_of d_14_125 rfl
theorem d_14_126 : decode (cd 14) 126 = .ok (.iadd, 1) := by rw [cd_14]; decide +kernel
theorem e_14_126 {d : Nat} {h : mM} {L : mLs} {st : List Value} {x y : Int32} : ev d 14 126 L (.int y :: .int x :: st) h = ev d 14 127 L (.int (x + y) :: st) h := ev_of d_14_126 rfl
theorem d_14_127 : decode (cd 14) 127 = .ok (.aaload, 1) := by rw [cd_14]; decide +kernel
theorem e_14_127 {d : Nat} {h : mM} {L : mLs} {st : List Value} {a : Nat} {i : Int32} : ev d 14 127 L (.int i :: .ref a :: st) h = if (12 < mK h a ∧ mK h a < 19) ∧ ixOK i (mL h a) = true then oB (mR h a i.toNatClampNeg) (fun b => ev d 14 128 L (.ref b :: st) h) else none := ev_aa d_14_127
theorem d_14_128 : decode (cd 14) 128 = .ok (.aastore, 1) := by rw [cd_14]; decide +kernel
theorem e_14_128 {d : Nat} {h : mM} {L : mLs} {st : List Value} {a b : Nat} {i : Int32} : ev d 14 128 L (.ref b :: .int i :: .ref a :: st) h = if (12 < mK h a ∧ mK h a < 18) ∧ mK h b = mEl (mK h a) ∧ ixOK i (mL h a) = true then ev d 14 129 L st (wR h a i.toNatClampNeg (some b)) else none := ev_as d_14_128
theorem d_14_129 : decode (cd 14) 129 = .ok (.iinc 5 1, 3) := by rw [cd_14]; decide +kernel
theorem e_14_129 {d : Nat} {h : mM} {o0 o1 o2 o3 o4 : Option Value} {T : mLs} {x : Int32} {st : List Value} (hl : mLong o4 = false) : ev d 14 129 (o0 :: o1 :: o2 :: o3 :: o4 :: some (.int x) :: T) st h = ev d 14 132 (o0 :: o1 :: o2 :: o3 :: o4 :: some (.int (x + 1)) :: T) st h := ev_inc d_14_129 (by decide +kernel) rfl rfl (mS1_s (j := 4) hl)
theorem d_14_132 : decode (cd 14) 132 = .ok (.goto (-26), 3) := by rw [cd_14]; decide +kernel
theorem e_14_132 {d : Nat} {h : mM} {L : mLs} {st : List Value} : ev d 14 132 L st h = ev d 14 106 L st h := ev_go d_14_132 (by decide)
theorem d_14_135 : decode (cd 14) 135 = .ok (.aload_n 0, 1) := by rw [cd_14]; decide +kernel
theorem e_14_135 {d : Nat} {h : mM} {T : mLs} {x : Nat} {st : List Value} : ev d 14 135 ( some (.ref x) :: T) st h = ev d 14 136 ( some (.ref x) :: T) (.ref x :: st) h := ev_of d_14_135 rfl
theorem d_14_136 : decode (cd 14) 136 = .ok (.getfield 19, 3) := by rw [cd_14]; decide +kernel
theorem e_14_136 {d : Nat} {h : mM} {L : mLs} {st : List Value} {a : Nat} : ev d 14 136 L (.ref a :: st) h = if mK h a = 2 then oB (mR h a 1) (fun b => ev d 14 139 L (.ref b :: st) h) else none := ev_gR d_14_136 (by decide +kernel) (by decide +kernel)
theorem d_14_139 : decode (cd 14) 139 = .ok (.bipush 11, 2) := by rw [cd_14]; decide +kernel
theorem e_14_139 {d : Nat} {h : mM} {L : mLs} {st : List Value} : ev d 14 139 L st h = ev d 14 141 L (.int 11 :: st) h := ev_of d_14_139 rfl
theorem d_14_141 : decode (cd 14) 141 = .ok (.aload_n 3, 1) := by rw [cd_14]; decide +kernel
theorem e_14_141 {d : Nat} {h : mM} {o0 o1 o2 : Option Value} {T : mLs} {x : Nat} {st : List Value} : ev d 14 141 (o0 :: o1 :: o2 :: some (.ref x) :: T) st h = ev d 14 142 (o0 :: o1 :: o2 :: some (.ref x) :: T) (.ref x :: st) h := ev_of d_14_141 rfl
theorem d_14_142 : decode (cd 14) 142 = .ok (.aastore, 1) := by rw [cd_14]; decide +kernel
theorem e_14_142 {d : Nat} {h : mM} {L : mLs} {st : List Value} {a b : Nat} {i : Int32} : ev d 14 142 L (.ref b :: .int i :: .ref a :: st) h = if (12 < mK h a ∧ mK h a < 18) ∧ mK h b = mEl (mK h a) ∧ ixOK i (mL h a) = true then ev d 14 143 L st (wR h a i.toNatClampNeg (some b)) else none := ev_as d_14_142
theorem d_14_143 : decode (cd 14) 143 = .ok (.return_, 1) := by rw [cd_14]; decide +kernel
theorem e_14_143 {d : Nat} {h : mM} {L : mLs} : ev d 14 143 L [] h = some (none, h) := ev_rv d_14_143 (by decide +kernel)
-- 15: Pond.<init>
theorem cd_15 : cd 15 = prog_5_method_1_code := rfl
theorem d_15_0 : decode (cd 15) 0 = .ok (.aload_n 0, 1) := by rw [cd_15]; decide +kernel
theorem e_15_0 {d : Nat} {h : mM} {T : mLs} {x : Nat} {st : List Value} : ev d 15 0 ( some (.ref x) :: T) st h = ev d 15 1 ( some (.ref x) :: T) (.ref x :: st) h := ev_of d_15_0 rfl
theorem d_15_1 : decode (cd 15) 1 = .ok (.invokespecial 3, 3) := by rw [cd_15]; decide +kernel
theorem e_15_1 {d : Nat} {h : mM} {L : mLs} {st : List Value} {a : Nat} (hc : mCat st ≤ 8) : ev d 15 1 L (.ref a :: st) h = ev d 15 4 L st h := ev_obj (mj := 0) d_15_1 (by decide +kernel) hc
theorem d_15_4 : decode (cd 15) 4 = .ok (.aload_n 0, 1) := by rw [cd_15]; decide +kernel
theorem e_15_4 {d : Nat} {h : mM} {T : mLs} {x : Nat} {st : List Value} : ev d 15 4 ( some (.ref x) :: T) st h = ev d 15 5 ( some (.ref x) :: T) (.ref x :: st) h := ev_of d_15_4 rfl
theorem d_15_5 : decode (cd 15) 5 = .ok (.iconst 1, 1) := by rw [cd_15]; decide +kernel
theorem e_15_5 {d : Nat} {h : mM} {L : mLs} {st : List Value} : ev d 15 5 L st h = ev d 15 6 L (.int 1 :: st) h := ev_of d_15_5 rfl
theorem d_15_6 : decode (cd 15) 6 = .ok (.putfield 9, 3) := by rw [cd_15]; decide +kernel
theorem e_15_6 {d : Nat} {h : mM} {L : mLs} {st : List Value} {a : Nat} {v : Int32} : ev d 15 6 L (.int v :: .ref a :: st) h = if mK h a = 3 then ev d 15 9 L st (wI h a 0 v) else none := ev_pI d_15_6 (by decide +kernel) (by decide +kernel) (by decide +kernel)
theorem d_15_9 : decode (cd 15) 9 = .ok (.aload_n 0, 1) := by rw [cd_15]; decide +kernel
theorem e_15_9 {d : Nat} {h : mM} {T : mLs} {x : Nat} {st : List Value} : ev d 15 9 ( some (.ref x) :: T) st h = ev d 15 10 ( some (.ref x) :: T) (.ref x :: st) h := ev_of d_15_9 rfl
theorem d_15_10 : decode (cd 15) 10 = .ok (.iconst 1, 1) := by rw [cd_15]; decide +kernel
theorem e_15_10 {d : Nat} {h : mM} {L : mLs} {st : List Value} : ev d 15 10 L st h = ev d 15 11 L (.int 1 :: st) h := ev_of d_15_10 rfl
theorem d_15_11 : decode (cd 15) 11 = .ok (.putfield 15, 3) := by rw [cd_15]; decide +kernel
theorem e_15_11 {d : Nat} {h : mM} {L : mLs} {st : List Value} {a : Nat} {v : Int32} : ev d 15 11 L (.int v :: .ref a :: st) h = if mK h a = 3 then ev d 15 14 L st (wI h a 1 v) else none := ev_pI d_15_11 (by decide +kernel) (by decide +kernel) (by decide +kernel)
theorem d_15_14 : decode (cd 15) 14 = .ok (.aload_n 0, 1) := by rw [cd_15]; decide +kernel
theorem e_15_14 {d : Nat} {h : mM} {T : mLs} {x : Nat} {st : List Value} : ev d 15 14 ( some (.ref x) :: T) st h = ev d 15 15 ( some (.ref x) :: T) (.ref x :: st) h := ev_of d_15_14 rfl
theorem d_15_15 : decode (cd 15) 15 = .ok (.iconst 0, 1) := by rw [cd_15]; decide +kernel
theorem e_15_15 {d : Nat} {h : mM} {L : mLs} {st : List Value} : ev d 15 15 L st h = ev d 15 16 L (.int 0 :: st) h := ev_of d_15_15 rfl
theorem d_15_16 : decode (cd 15) 16 = .ok (.putfield 18, 3) := by rw [cd_15]; decide +kernel
theorem e_15_16 {d : Nat} {h : mM} {L : mLs} {st : List Value} {a : Nat} {v : Int32} : ev d 15 16 L (.int v :: .ref a :: st) h = if mK h a = 3 then ev d 15 19 L st (wI h a 2 v) else none := ev_pI d_15_16 (by decide +kernel) (by decide +kernel) (by decide +kernel)
theorem d_15_19 : decode (cd 15) 19 = .ok (.aload_n 0, 1) := by rw [cd_15]; decide +kernel
theorem e_15_19 {d : Nat} {h : mM} {T : mLs} {x : Nat} {st : List Value} : ev d 15 19 ( some (.ref x) :: T) st h = ev d 15 20 ( some (.ref x) :: T) (.ref x :: st) h := ev_of d_15_19 rfl
theorem d_15_20 : decode (cd 15) 20 = .ok (.iconst 1, 1) := by rw [cd_15]; decide +kernel
theorem e_15_20 {d : Nat} {h : mM} {L : mLs} {st : List Value} : ev d 15 20 L st h = ev d 15 21 L (.int 1 :: st) h := ev_of d_15_20 rfl
theorem d_15_21 : decode (cd 15) 21 = .ok (.putfield 21, 3) := by rw [cd_15]; decide +kernel
theorem e_15_21 {d : Nat} {h : mM} {L : mLs} {st : List Value} {a : Nat} {v : Int32} : ev d 15 21 L (.int v :: .ref a :: st) h = if mK h a = 3 then ev d 15 24 L st (wI h a 3 v) else none := ev_pI d_15_21 (by decide +kernel) (by decide +kernel) (by decide +kernel)
theorem d_15_24 : decode (cd 15) 24 = .ok (.return_, 1) := by rw [cd_15]; decide +kernel
theorem e_15_24 {d : Nat} {h : mM} {L : mLs} : ev d 15 24 L [] h = some (none, h) := ev_rv d_15_24 (by decide +kernel)
-- 16: Pond.level
theorem cd_16 : cd 16 = prog_5_method_2_code := rfl
theorem d_16_0 : decode (cd 16) 0 = .ok (.iload_n 1, 1) := by rw [cd_16]; decide +kernel
theorem e_16_0 {d : Nat} {h : mM} {o0 : Option Value} {T : mLs} {x : Int32} {st : List Value} : ev d 16 0 (o0 :: some (.int x) :: T) st h = ev d 16 1 (o0 :: some (.int x) :: T) (.int x :: st) h := ev_of d_16_0 rfl
theorem d_16_1 : decode (cd 16) 1 = .ok (.aload_n 0, 1) := by rw [cd_16]; decide +kernel
theorem e_16_1 {d : Nat} {h : mM} {T : mLs} {x : Nat} {st : List Value} : ev d 16 1 ( some (.ref x) :: T) st h = ev d 16 2 ( some (.ref x) :: T) (.ref x :: st) h := ev_of d_16_1 rfl
theorem d_16_2 : decode (cd 16) 2 = .ok (.getfield 9, 3) := by rw [cd_16]; decide +kernel
theorem e_16_2 {d : Nat} {h : mM} {L : mLs} {st : List Value} {a : Nat} : ev d 16 2 L (.ref a :: st) h = if mK h a = 3 then ev d 16 5 L (.int (mI h a 0) :: st) h else none := ev_gI d_16_2 (by decide +kernel) (by decide +kernel)
theorem d_16_5 : decode (cd 16) 5 = .ok (.invokestatic 24, 3) := by rw [cd_16]; decide +kernel
theorem e_16_5 {d : Nat} {h : mM} {L : mLs} {st : List Value} {x0 : Int32} {x1 : Int32} (hc : mCat st ≤ 8) : ev (d + 1) 16 5 L (.int x1 :: .int x0 :: st) h = cV (ev d 77 0 [some (.int x0), some (.int x1)] [] h) (fun v h1 => ev (d + 1) 16 8 L (v ++ st) h1) := ev_cs (kd := 3) (mj := 77) (as := [.int x0, .int x1]) (rest := st) d_16_5 (by decide +kernel) (by decide) rfl rfl (by show _ ≤ List.length _; simp only [List.length_cons]; have : na 77 = 2 := rfl; omega) rfl (Nat.le_of_ble_eq_true rfl) hc
theorem d_16_8 : decode (cd 16) 8 = .ok (.ireturn, 1) := by rw [cd_16]; decide +kernel
theorem e_16_8 {d : Nat} {h : mM} {L : mLs} {v : Int32} : ev d 16 8 L [.int v] h = some (some (.int v), h) := ev_ri d_16_8 (by decide +kernel)
-- 17: Pond.brim
theorem cd_17 : cd 17 = prog_5_method_3_code := rfl
theorem d_17_0 : decode (cd 17) 0 = .ok (.aload_n 0, 1) := by rw [cd_17]; decide +kernel
theorem e_17_0 {d : Nat} {h : mM} {T : mLs} {x : Nat} {st : List Value} : ev d 17 0 ( some (.ref x) :: T) st h = ev d 17 1 ( some (.ref x) :: T) (.ref x :: st) h := ev_of d_17_0 rfl
theorem d_17_1 : decode (cd 17) 1 = .ok (.getfield 9, 3) := by rw [cd_17]; decide +kernel
theorem e_17_1 {d : Nat} {h : mM} {L : mLs} {st : List Value} {a : Nat} : ev d 17 1 L (.ref a :: st) h = if mK h a = 3 then ev d 17 4 L (.int (mI h a 0) :: st) h else none := ev_gI d_17_1 (by decide +kernel) (by decide +kernel)
theorem d_17_4 : decode (cd 17) 4 = .ok (.aload_n 0, 1) := by rw [cd_17]; decide +kernel
theorem e_17_4 {d : Nat} {h : mM} {T : mLs} {x : Nat} {st : List Value} : ev d 17 4 ( some (.ref x) :: T) st h = ev d 17 5 ( some (.ref x) :: T) (.ref x :: st) h := ev_of d_17_4 rfl
theorem d_17_5 : decode (cd 17) 5 = .ok (.getfield 15, 3) := by rw [cd_17]; decide +kernel
theorem e_17_5 {d : Nat} {h : mM} {L : mLs} {st : List Value} {a : Nat} : ev d 17 5 L (.ref a :: st) h = if mK h a = 3 then ev d 17 8 L (.int (mI h a 1) :: st) h else none := ev_gI d_17_5 (by decide +kernel) (by decide +kernel)
theorem d_17_8 : decode (cd 17) 8 = .ok (.imul, 1) := by rw [cd_17]; decide +kernel
theorem e_17_8 {d : Nat} {h : mM} {L : mLs} {st : List Value} {x y : Int32} : ev d 17 8 L (.int y :: .int x :: st) h = ev d 17 9 L (.int (x * y) :: st) h := ev_of d_17_8 rfl
theorem d_17_9 : decode (cd 17) 9 = .ok (.ireturn, 1) := by rw [cd_17]; decide +kernel
theorem e_17_9 {d : Nat} {h : mM} {L : mLs} {v : Int32} : ev d 17 9 L [.int v] h = some (some (.int v), h) := ev_ri d_17_9 (by decide +kernel)
-- 18: Pond.comesIn
theorem cd_18 : cd 18 = prog_5_method_4_code := rfl
theorem d_18_0 : decode (cd 18) 0 = .ok (.iload_n 2, 1) := by rw [cd_18]; decide +kernel
theorem e_18_0 {d : Nat} {h : mM} {o0 o1 : Option Value} {T : mLs} {x : Int32} {st : List Value} : ev d 18 0 (o0 :: o1 :: some (.int x) :: T) st h = ev d 18 1 (o0 :: o1 :: some (.int x) :: T) (.int x :: st) h := ev_of d_18_0 rfl
theorem d_18_1 : decode (cd 18) 1 = .ok (.aload_n 0, 1) := by rw [cd_18]; decide +kernel
theorem e_18_1 {d : Nat} {h : mM} {T : mLs} {x : Nat} {st : List Value} : ev d 18 1 ( some (.ref x) :: T) st h = ev d 18 2 ( some (.ref x) :: T) (.ref x :: st) h := ev_of d_18_1 rfl
theorem d_18_2 : decode (cd 18) 2 = .ok (.iload_n 1, 1) := by rw [cd_18]; decide +kernel
theorem e_18_2 {d : Nat} {h : mM} {o0 : Option Value} {T : mLs} {x : Int32} {st : List Value} : ev d 18 2 (o0 :: some (.int x) :: T) st h = ev d 18 3 (o0 :: some (.int x) :: T) (.int x :: st) h := ev_of d_18_2 rfl
theorem d_18_3 : decode (cd 18) 3 = .ok (.invokevirtual 28, 3) := by rw [cd_18]; decide +kernel
theorem e_18_3 {d : Nat} {h : mM} {L : mLs} {st : List Value} {a : Nat} {x0 : Int32} (hc : mCat st ≤ 8) : ev (d + 1) 18 3 L (.int x0 :: .ref a :: st) h = if mK h a = 3 then cV (ev d 16 0 [some (.ref a), some (.int x0)] [] h) (fun v h1 => ev (d + 1) 18 6 L (v ++ st) h1) else none := ev_cv (mj := 16) (as := [.int x0]) (rest := st) d_18_3 (by decide +kernel) rfl rfl (by show _ ≤ List.length _; simp only [List.length_cons]; have : na 16 = 1 := rfl; omega) rfl (Nat.le_of_ble_eq_true rfl) hc
theorem d_18_6 : decode (cd 18) 6 = .ok (.isub, 1) := by rw [cd_18]; decide +kernel
theorem e_18_6 {d : Nat} {h : mM} {L : mLs} {st : List Value} {x y : Int32} : ev d 18 6 L (.int y :: .int x :: st) h = ev d 18 7 L (.int (x - y) :: st) h := ev_of d_18_6 rfl
theorem d_18_7 : decode (cd 18) 7 = .ok (.istore_n 3, 1) := by rw [cd_18]; decide +kernel
theorem e_18_7 {d : Nat} {h : mM} {o0 o1 o2 o3 : Option Value} {T : mLs} {x : Int32} {st : List Value} (hl : mLong o2 = false) : ev d 18 7 (o0 :: o1 :: o2 :: o3 :: T) (.int x :: st) h = ev d 18 8 (o0 :: o1 :: o2 :: some (.int x) :: T) st h := ev_st_in d_18_7 (by decide +kernel) (mS1_s (j := 2) hl)
theorem d_18_8 : decode (cd 18) 8 = .ok (.aload_n 0, 1) := by rw [cd_18]; decide +kernel
theorem e_18_8 {d : Nat} {h : mM} {T : mLs} {x : Nat} {st : List Value} : ev d 18 8 ( some (.ref x) :: T) st h = ev d 18 9 ( some (.ref x) :: T) (.ref x :: st) h := ev_of d_18_8 rfl
theorem d_18_9 : decode (cd 18) 9 = .ok (.getfield 21, 3) := by rw [cd_18]; decide +kernel
theorem e_18_9 {d : Nat} {h : mM} {L : mLs} {st : List Value} {a : Nat} : ev d 18 9 L (.ref a :: st) h = if mK h a = 3 then ev d 18 12 L (.int (mI h a 3) :: st) h else none := ev_gI d_18_9 (by decide +kernel) (by decide +kernel)
theorem d_18_12 : decode (cd 18) 12 = .ok (.ifCond .eq 27, 3) := by rw [cd_18]; decide +kernel
theorem e_18_12 {d : Nat} {h : mM} {L : mLs} {st : List Value} {x : Int32} : ev d 18 12 L (.int x :: st) h = if x = 0 then ev d 18 39 L st h else ev d 18 15 L st h := ev_if (x = 0) inferInstance rfl d_18_12 (by decide)
theorem d_18_15 : decode (cd 18) 15 = .ok (.iload_n 3, 1) := by rw [cd_18]; decide +kernel
theorem e_18_15 {d : Nat} {h : mM} {o0 o1 o2 : Option Value} {T : mLs} {x : Int32} {st : List Value} : ev d 18 15 (o0 :: o1 :: o2 :: some (.int x) :: T) st h = ev d 18 16 (o0 :: o1 :: o2 :: some (.int x) :: T) (.int x :: st) h := ev_of d_18_15 rfl
theorem d_18_16 : decode (cd 18) 16 = .ok (.ifCond .le 23, 3) := by rw [cd_18]; decide +kernel
theorem e_18_16 {d : Nat} {h : mM} {L : mLs} {st : List Value} {x : Int32} : ev d 18 16 L (.int x :: st) h = if x ≤ 0 then ev d 18 39 L st h else ev d 18 19 L st h := ev_if (x ≤ 0) inferInstance rfl d_18_16 (by decide)
theorem d_18_19 : decode (cd 18) 19 = .ok (.aload_n 0, 1) := by rw [cd_18]; decide +kernel
theorem e_18_19 {d : Nat} {h : mM} {T : mLs} {x : Nat} {st : List Value} : ev d 18 19 ( some (.ref x) :: T) st h = ev d 18 20 ( some (.ref x) :: T) (.ref x :: st) h := ev_of d_18_19 rfl
theorem d_18_20 : decode (cd 18) 20 = .ok (.getfield 18, 3) := by rw [cd_18]; decide +kernel
theorem e_18_20 {d : Nat} {h : mM} {L : mLs} {st : List Value} {a : Nat} : ev d 18 20 L (.ref a :: st) h = if mK h a = 3 then ev d 18 23 L (.int (mI h a 2) :: st) h else none := ev_gI d_18_20 (by decide +kernel) (by decide +kernel)
theorem d_18_23 : decode (cd 18) 23 = .ok (.iload_n 3, 1) := by rw [cd_18]; decide +kernel
theorem e_18_23 {d : Nat} {h : mM} {o0 o1 o2 : Option Value} {T : mLs} {x : Int32} {st : List Value} : ev d 18 23 (o0 :: o1 :: o2 :: some (.int x) :: T) st h = ev d 18 24 (o0 :: o1 :: o2 :: some (.int x) :: T) (.int x :: st) h := ev_of d_18_23 rfl
theorem d_18_24 : decode (cd 18) 24 = .ok (.imul, 1) := by rw [cd_18]; decide +kernel
theorem e_18_24 {d : Nat} {h : mM} {L : mLs} {st : List Value} {x y : Int32} : ev d 18 24 L (.int y :: .int x :: st) h = ev d 18 25 L (.int (x * y) :: st) h := ev_of d_18_24 rfl
theorem d_18_25 : decode (cd 18) 25 = .ok (.aload_n 0, 1) := by rw [cd_18]; decide +kernel
theorem e_18_25 {d : Nat} {h : mM} {T : mLs} {x : Nat} {st : List Value} : ev d 18 25 ( some (.ref x) :: T) st h = ev d 18 26 ( some (.ref x) :: T) (.ref x :: st) h := ev_of d_18_25 rfl
theorem d_18_26 : decode (cd 18) 26 = .ok (.getfield 9, 3) := by rw [cd_18]; decide +kernel
theorem e_18_26 {d : Nat} {h : mM} {L : mLs} {st : List Value} {a : Nat} : ev d 18 26 L (.ref a :: st) h = if mK h a = 3 then ev d 18 29 L (.int (mI h a 0) :: st) h else none := ev_gI d_18_26 (by decide +kernel) (by decide +kernel)
theorem d_18_29 : decode (cd 18) 29 = .ok (.iload_n 2, 1) := by rw [cd_18]; decide +kernel
theorem e_18_29 {d : Nat} {h : mM} {o0 o1 : Option Value} {T : mLs} {x : Int32} {st : List Value} : ev d 18 29 (o0 :: o1 :: some (.int x) :: T) st h = ev d 18 30 (o0 :: o1 :: some (.int x) :: T) (.int x :: st) h := ev_of d_18_29 rfl
theorem d_18_30 : decode (cd 18) 30 = .ok (.imul, 1) := by rw [cd_18]; decide +kernel
theorem e_18_30 {d : Nat} {h : mM} {L : mLs} {st : List Value} {x y : Int32} : ev d 18 30 L (.int y :: .int x :: st) h = ev d 18 31 L (.int (x * y) :: st) h := ev_of d_18_30 rfl
theorem d_18_31 : decode (cd 18) 31 = .ok (.iload_n 1, 1) := by rw [cd_18]; decide +kernel
theorem e_18_31 {d : Nat} {h : mM} {o0 : Option Value} {T : mLs} {x : Int32} {st : List Value} : ev d 18 31 (o0 :: some (.int x) :: T) st h = ev d 18 32 (o0 :: some (.int x) :: T) (.int x :: st) h := ev_of d_18_31 rfl
theorem d_18_32 : decode (cd 18) 32 = .ok (.isub, 1) := by rw [cd_18]; decide +kernel
theorem e_18_32 {d : Nat} {h : mM} {L : mLs} {st : List Value} {x y : Int32} : ev d 18 32 L (.int y :: .int x :: st) h = ev d 18 33 L (.int (x - y) :: st) h := ev_of d_18_32 rfl
theorem d_18_33 : decode (cd 18) 33 = .ok (.invokestatic 32, 3) := by rw [cd_18]; decide +kernel
theorem e_18_33 {d : Nat} {h : mM} {L : mLs} {st : List Value} {x y : Int32} (hc : mCat st ≤ 8) : ev d 18 33 L (.int y :: .int x :: st) h = ev d 18 36 L (.int (if y < x then y else x) :: st) h := ev_min (mj := 0) d_18_33 (by decide +kernel) hc
theorem d_18_36 : decode (cd 18) 36 = .ok (.goto 4, 3) := by rw [cd_18]; decide +kernel
theorem e_18_36 {d : Nat} {h : mM} {L : mLs} {st : List Value} : ev d 18 36 L st h = ev d 18 40 L st h := ev_go d_18_36 (by decide)
theorem d_18_39 : decode (cd 18) 39 = .ok (.iconst 0, 1) := by rw [cd_18]; decide +kernel
theorem e_18_39 {d : Nat} {h : mM} {L : mLs} {st : List Value} : ev d 18 39 L st h = ev d 18 40 L (.int 0 :: st) h := ev_of d_18_39 rfl
theorem d_18_40 : decode (cd 18) 40 = .ok (.ireturn, 1) := by rw [cd_18]; decide +kernel
theorem e_18_40 {d : Nat} {h : mM} {L : mLs} {v : Int32} : ev d 18 40 L [.int v] h = some (some (.int v), h) := ev_ri d_18_40 (by decide +kernel)
-- 19: Pond.goesOut
theorem cd_19 : cd 19 = prog_5_method_5_code := rfl
theorem d_19_0 : decode (cd 19) 0 = .ok (.aload_n 0, 1) := by rw [cd_19]; decide +kernel
theorem e_19_0 {d : Nat} {h : mM} {T : mLs} {x : Nat} {st : List Value} : ev d 19 0 ( some (.ref x) :: T) st h = ev d 19 1 ( some (.ref x) :: T) (.ref x :: st) h := ev_of d_19_0 rfl
theorem d_19_1 : decode (cd 19) 1 = .ok (.iload_n 1, 1) := by rw [cd_19]; decide +kernel
theorem e_19_1 {d : Nat} {h : mM} {o0 : Option Value} {T : mLs} {x : Int32} {st : List Value} : ev d 19 1 (o0 :: some (.int x) :: T) st h = ev d 19 2 (o0 :: some (.int x) :: T) (.int x :: st) h := ev_of d_19_1 rfl
theorem d_19_2 : decode (cd 19) 2 = .ok (.invokevirtual 28, 3) := by rw [cd_19]; decide +kernel
theorem e_19_2 {d : Nat} {h : mM} {L : mLs} {st : List Value} {a : Nat} {x0 : Int32} (hc : mCat st ≤ 8) : ev (d + 1) 19 2 L (.int x0 :: .ref a :: st) h = if mK h a = 3 then cV (ev d 16 0 [some (.ref a), some (.int x0)] [] h) (fun v h1 => ev (d + 1) 19 5 L (v ++ st) h1) else none := ev_cv (mj := 16) (as := [.int x0]) (rest := st) d_19_2 (by decide +kernel) rfl rfl (by show _ ≤ List.length _; simp only [List.length_cons]; have : na 16 = 1 := rfl; omega) rfl (Nat.le_of_ble_eq_true rfl) hc
theorem d_19_5 : decode (cd 19) 5 = .ok (.iload_n 2, 1) := by rw [cd_19]; decide +kernel
theorem e_19_5 {d : Nat} {h : mM} {o0 o1 : Option Value} {T : mLs} {x : Int32} {st : List Value} : ev d 19 5 (o0 :: o1 :: some (.int x) :: T) st h = ev d 19 6 (o0 :: o1 :: some (.int x) :: T) (.int x :: st) h := ev_of d_19_5 rfl
theorem d_19_6 : decode (cd 19) 6 = .ok (.isub, 1) := by rw [cd_19]; decide +kernel
theorem e_19_6 {d : Nat} {h : mM} {L : mLs} {st : List Value} {x y : Int32} : ev d 19 6 L (.int y :: .int x :: st) h = ev d 19 7 L (.int (x - y) :: st) h := ev_of d_19_6 rfl
theorem d_19_7 : decode (cd 19) 7 = .ok (.istore_n 3, 1) := by rw [cd_19]; decide +kernel
theorem e_19_7 {d : Nat} {h : mM} {o0 o1 o2 o3 : Option Value} {T : mLs} {x : Int32} {st : List Value} (hl : mLong o2 = false) : ev d 19 7 (o0 :: o1 :: o2 :: o3 :: T) (.int x :: st) h = ev d 19 8 (o0 :: o1 :: o2 :: some (.int x) :: T) st h := ev_st_in d_19_7 (by decide +kernel) (mS1_s (j := 2) hl)
theorem d_19_8 : decode (cd 19) 8 = .ok (.aload_n 0, 1) := by rw [cd_19]; decide +kernel
theorem e_19_8 {d : Nat} {h : mM} {T : mLs} {x : Nat} {st : List Value} : ev d 19 8 ( some (.ref x) :: T) st h = ev d 19 9 ( some (.ref x) :: T) (.ref x :: st) h := ev_of d_19_8 rfl
theorem d_19_9 : decode (cd 19) 9 = .ok (.getfield 21, 3) := by rw [cd_19]; decide +kernel
theorem e_19_9 {d : Nat} {h : mM} {L : mLs} {st : List Value} {a : Nat} : ev d 19 9 L (.ref a :: st) h = if mK h a = 3 then ev d 19 12 L (.int (mI h a 3) :: st) h else none := ev_gI d_19_9 (by decide +kernel) (by decide +kernel)
theorem d_19_12 : decode (cd 19) 12 = .ok (.iconst 2, 1) := by rw [cd_19]; decide +kernel
theorem e_19_12 {d : Nat} {h : mM} {L : mLs} {st : List Value} : ev d 19 12 L st h = ev d 19 13 L (.int 2 :: st) h := ev_of d_19_12 rfl
theorem d_19_13 : decode (cd 19) 13 = .ok (.if_icmp .ne 27, 3) := by rw [cd_19]; decide +kernel
theorem e_19_13 {d : Nat} {h : mM} {L : mLs} {st : List Value} {x y : Int32} : ev d 19 13 L (.int y :: .int x :: st) h = if ¬ x = y then ev d 19 40 L st h else ev d 19 16 L st h := ev_ic (¬ x = y) inferInstance rfl d_19_13 (by decide)
theorem d_19_16 : decode (cd 19) 16 = .ok (.iload_n 3, 1) := by rw [cd_19]; decide +kernel
theorem e_19_16 {d : Nat} {h : mM} {o0 o1 o2 : Option Value} {T : mLs} {x : Int32} {st : List Value} : ev d 19 16 (o0 :: o1 :: o2 :: some (.int x) :: T) st h = ev d 19 17 (o0 :: o1 :: o2 :: some (.int x) :: T) (.int x :: st) h := ev_of d_19_16 rfl
theorem d_19_17 : decode (cd 19) 17 = .ok (.ifCond .le 23, 3) := by rw [cd_19]; decide +kernel
theorem e_19_17 {d : Nat} {h : mM} {L : mLs} {st : List Value} {x : Int32} : ev d 19 17 L (.int x :: st) h = if x ≤ 0 then ev d 19 40 L st h else ev d 19 20 L st h := ev_if (x ≤ 0) inferInstance rfl d_19_17 (by decide)
theorem d_19_20 : decode (cd 19) 20 = .ok (.aload_n 0, 1) := by rw [cd_19]; decide +kernel
theorem e_19_20 {d : Nat} {h : mM} {T : mLs} {x : Nat} {st : List Value} : ev d 19 20 ( some (.ref x) :: T) st h = ev d 19 21 ( some (.ref x) :: T) (.ref x :: st) h := ev_of d_19_20 rfl
theorem d_19_21 : decode (cd 19) 21 = .ok (.getfield 18, 3) := by rw [cd_19]; decide +kernel
theorem e_19_21 {d : Nat} {h : mM} {L : mLs} {st : List Value} {a : Nat} : ev d 19 21 L (.ref a :: st) h = if mK h a = 3 then ev d 19 24 L (.int (mI h a 2) :: st) h else none := ev_gI d_19_21 (by decide +kernel) (by decide +kernel)
theorem d_19_24 : decode (cd 19) 24 = .ok (.iload_n 3, 1) := by rw [cd_19]; decide +kernel
theorem e_19_24 {d : Nat} {h : mM} {o0 o1 o2 : Option Value} {T : mLs} {x : Int32} {st : List Value} : ev d 19 24 (o0 :: o1 :: o2 :: some (.int x) :: T) st h = ev d 19 25 (o0 :: o1 :: o2 :: some (.int x) :: T) (.int x :: st) h := ev_of d_19_24 rfl
theorem d_19_25 : decode (cd 19) 25 = .ok (.imul, 1) := by rw [cd_19]; decide +kernel
theorem e_19_25 {d : Nat} {h : mM} {L : mLs} {st : List Value} {x y : Int32} : ev d 19 25 L (.int y :: .int x :: st) h = ev d 19 26 L (.int (x * y) :: st) h := ev_of d_19_25 rfl
theorem d_19_26 : decode (cd 19) 26 = .ok (.iload_n 1, 1) := by rw [cd_19]; decide +kernel
theorem e_19_26 {d : Nat} {h : mM} {o0 : Option Value} {T : mLs} {x : Int32} {st : List Value} : ev d 19 26 (o0 :: some (.int x) :: T) st h = ev d 19 27 (o0 :: some (.int x) :: T) (.int x :: st) h := ev_of d_19_26 rfl
theorem d_19_27 : decode (cd 19) 27 = .ok (.aload_n 0, 1) := by rw [cd_19]; decide +kernel
theorem e_19_27 {d : Nat} {h : mM} {T : mLs} {x : Nat} {st : List Value} : ev d 19 27 ( some (.ref x) :: T) st h = ev d 19 28 ( some (.ref x) :: T) (.ref x :: st) h := ev_of d_19_27 rfl
theorem d_19_28 : decode (cd 19) 28 = .ok (.getfield 9, 3) := by rw [cd_19]; decide +kernel
theorem e_19_28 {d : Nat} {h : mM} {L : mLs} {st : List Value} {a : Nat} : ev d 19 28 L (.ref a :: st) h = if mK h a = 3 then ev d 19 31 L (.int (mI h a 0) :: st) h else none := ev_gI d_19_28 (by decide +kernel) (by decide +kernel)
theorem d_19_31 : decode (cd 19) 31 = .ok (.iload_n 2, 1) := by rw [cd_19]; decide +kernel
theorem e_19_31 {d : Nat} {h : mM} {o0 o1 : Option Value} {T : mLs} {x : Int32} {st : List Value} : ev d 19 31 (o0 :: o1 :: some (.int x) :: T) st h = ev d 19 32 (o0 :: o1 :: some (.int x) :: T) (.int x :: st) h := ev_of d_19_31 rfl
theorem d_19_32 : decode (cd 19) 32 = .ok (.imul, 1) := by rw [cd_19]; decide +kernel
theorem e_19_32 {d : Nat} {h : mM} {L : mLs} {st : List Value} {x y : Int32} : ev d 19 32 L (.int y :: .int x :: st) h = ev d 19 33 L (.int (x * y) :: st) h := ev_of d_19_32 rfl
theorem d_19_33 : decode (cd 19) 33 = .ok (.isub, 1) := by rw [cd_19]; decide +kernel
theorem e_19_33 {d : Nat} {h : mM} {L : mLs} {st : List Value} {x y : Int32} : ev d 19 33 L (.int y :: .int x :: st) h = ev d 19 34 L (.int (x - y) :: st) h := ev_of d_19_33 rfl
theorem d_19_34 : decode (cd 19) 34 = .ok (.invokestatic 32, 3) := by rw [cd_19]; decide +kernel
theorem e_19_34 {d : Nat} {h : mM} {L : mLs} {st : List Value} {x y : Int32} (hc : mCat st ≤ 8) : ev d 19 34 L (.int y :: .int x :: st) h = ev d 19 37 L (.int (if y < x then y else x) :: st) h := ev_min (mj := 0) d_19_34 (by decide +kernel) hc
theorem d_19_37 : decode (cd 19) 37 = .ok (.goto 4, 3) := by rw [cd_19]; decide +kernel
theorem e_19_37 {d : Nat} {h : mM} {L : mLs} {st : List Value} : ev d 19 37 L st h = ev d 19 41 L st h := ev_go d_19_37 (by decide)
theorem d_19_40 : decode (cd 19) 40 = .ok (.iconst 0, 1) := by rw [cd_19]; decide +kernel
theorem e_19_40 {d : Nat} {h : mM} {L : mLs} {st : List Value} : ev d 19 40 L st h = ev d 19 41 L (.int 0 :: st) h := ev_of d_19_40 rfl
theorem d_19_41 : decode (cd 19) 41 = .ok (.ireturn, 1) := by rw [cd_19]; decide +kernel
theorem e_19_41 {d : Nat} {h : mM} {L : mLs} {v : Int32} : ev d 19 41 L [.int v] h = some (some (.int v), h) := ev_ri d_19_41 (by decide +kernel)
-- 20: Sack.<init>
theorem cd_20 : cd 20 = prog_6_method_1_code := rfl
theorem d_20_0 : decode (cd 20) 0 = .ok (.aload_n 0, 1) := by rw [cd_20]; decide +kernel
theorem e_20_0 {d : Nat} {h : mM} {T : mLs} {x : Nat} {st : List Value} : ev d 20 0 ( some (.ref x) :: T) st h = ev d 20 1 ( some (.ref x) :: T) (.ref x :: st) h := ev_of d_20_0 rfl
theorem d_20_1 : decode (cd 20) 1 = .ok (.invokespecial 1, 3) := by rw [cd_20]; decide +kernel
theorem e_20_1 {d : Nat} {h : mM} {L : mLs} {st : List Value} {a : Nat} (hc : mCat st ≤ 8) : ev d 20 1 L (.ref a :: st) h = ev d 20 4 L st h := ev_obj (mj := 0) d_20_1 (by decide +kernel) hc
theorem d_20_4 : decode (cd 20) 4 = .ok (.aload_n 0, 1) := by rw [cd_20]; decide +kernel
theorem e_20_4 {d : Nat} {h : mM} {T : mLs} {x : Nat} {st : List Value} : ev d 20 4 ( some (.ref x) :: T) st h = ev d 20 5 ( some (.ref x) :: T) (.ref x :: st) h := ev_of d_20_4 rfl
theorem d_20_5 : decode (cd 20) 5 = .ok (.iconst 0, 1) := by rw [cd_20]; decide +kernel
theorem e_20_5 {d : Nat} {h : mM} {L : mLs} {st : List Value} : ev d 20 5 L st h = ev d 20 6 L (.int 0 :: st) h := ev_of d_20_5 rfl
theorem d_20_6 : decode (cd 20) 6 = .ok (.putfield 7, 3) := by rw [cd_20]; decide +kernel
theorem e_20_6 {d : Nat} {h : mM} {L : mLs} {st : List Value} {a : Nat} {v : Int32} : ev d 20 6 L (.int v :: .ref a :: st) h = if mK h a = 4 then ev d 20 9 L st (wI h a 0 v) else none := ev_pI d_20_6 (by decide +kernel) (by decide +kernel) (by decide +kernel)
theorem d_20_9 : decode (cd 20) 9 = .ok (.aload_n 0, 1) := by rw [cd_20]; decide +kernel
theorem e_20_9 {d : Nat} {h : mM} {T : mLs} {x : Nat} {st : List Value} : ev d 20 9 ( some (.ref x) :: T) st h = ev d 20 10 ( some (.ref x) :: T) (.ref x :: st) h := ev_of d_20_9 rfl
theorem d_20_10 : decode (cd 20) 10 = .ok (.iconst 0, 1) := by rw [cd_20]; decide +kernel
theorem e_20_10 {d : Nat} {h : mM} {L : mLs} {st : List Value} : ev d 20 10 L st h = ev d 20 11 L (.int 0 :: st) h := ev_of d_20_10 rfl
theorem d_20_11 : decode (cd 20) 11 = .ok (.putfield 13, 3) := by rw [cd_20]; decide +kernel
theorem e_20_11 {d : Nat} {h : mM} {L : mLs} {st : List Value} {a : Nat} {v : Int32} : ev d 20 11 L (.int v :: .ref a :: st) h = if mK h a = 4 then ev d 20 14 L st (wI h a 1 v) else none := ev_pI d_20_11 (by decide +kernel) (by decide +kernel) (by decide +kernel)
theorem d_20_14 : decode (cd 20) 14 = .ok (.aload_n 0, 1) := by rw [cd_20]; decide +kernel
theorem e_20_14 {d : Nat} {h : mM} {T : mLs} {x : Nat} {st : List Value} : ev d 20 14 ( some (.ref x) :: T) st h = ev d 20 15 ( some (.ref x) :: T) (.ref x :: st) h := ev_of d_20_14 rfl
theorem d_20_15 : decode (cd 20) 15 = .ok (.iconst 0, 1) := by rw [cd_20]; decide +kernel
theorem e_20_15 {d : Nat} {h : mM} {L : mLs} {st : List Value} : ev d 20 15 L st h = ev d 20 16 L (.int 0 :: st) h := ev_of d_20_15 rfl
theorem d_20_16 : decode (cd 20) 16 = .ok (.putfield 16, 3) := by rw [cd_20]; decide +kernel
theorem e_20_16 {d : Nat} {h : mM} {L : mLs} {st : List Value} {a : Nat} {v : Int32} : ev d 20 16 L (.int v :: .ref a :: st) h = if mK h a = 4 then ev d 20 19 L st (wI h a 2 v) else none := ev_pI d_20_16 (by decide +kernel) (by decide +kernel) (by decide +kernel)
theorem d_20_19 : decode (cd 20) 19 = .ok (.aload_n 0, 1) := by rw [cd_20]; decide +kernel
theorem e_20_19 {d : Nat} {h : mM} {T : mLs} {x : Nat} {st : List Value} : ev d 20 19 ( some (.ref x) :: T) st h = ev d 20 20 ( some (.ref x) :: T) (.ref x :: st) h := ev_of d_20_19 rfl
theorem d_20_20 : decode (cd 20) 20 = .ok (.iconst 0, 1) := by rw [cd_20]; decide +kernel
theorem e_20_20 {d : Nat} {h : mM} {L : mLs} {st : List Value} : ev d 20 20 L st h = ev d 20 21 L (.int 0 :: st) h := ev_of d_20_20 rfl
theorem d_20_21 : decode (cd 20) 21 = .ok (.putfield 19, 3) := by rw [cd_20]; decide +kernel
theorem e_20_21 {d : Nat} {h : mM} {L : mLs} {st : List Value} {a : Nat} {v : Int32} : ev d 20 21 L (.int v :: .ref a :: st) h = if mK h a = 4 then ev d 20 24 L st (wI h a 3 v) else none := ev_pI d_20_21 (by decide +kernel) (by decide +kernel) (by decide +kernel)
theorem d_20_24 : decode (cd 20) 24 = .ok (.return_, 1) := by rw [cd_20]; decide +kernel
theorem e_20_24 {d : Nat} {h : mM} {L : mLs} : ev d 20 24 L [] h = some (none, h) := ev_rv d_20_24 (by decide +kernel)
-- 21: Search.<init>
theorem cd_21 : cd 21 = prog_7_method_1_code := rfl
theorem d_21_0 : decode (cd 21) 0 = .ok (.aload_n 0, 1) := by rw [cd_21]; decide +kernel
theorem e_21_0 {d : Nat} {h : mM} {T : mLs} {x : Nat} {st : List Value} : ev d 21 0 ( some (.ref x) :: T) st h = ev d 21 1 ( some (.ref x) :: T) (.ref x :: st) h := ev_of d_21_0 rfl
theorem d_21_1 : decode (cd 21) 1 = .ok (.invokespecial 3, 3) := by rw [cd_21]; decide +kernel
theorem e_21_1 {d : Nat} {h : mM} {L : mLs} {st : List Value} {a : Nat} (hc : mCat st ≤ 8) : ev d 21 1 L (.ref a :: st) h = ev d 21 4 L st h := ev_obj (mj := 0) d_21_1 (by decide +kernel) hc
theorem d_21_4 : decode (cd 21) 4 = .ok (.aload_n 0, 1) := by rw [cd_21]; decide +kernel
theorem e_21_4 {d : Nat} {h : mM} {T : mLs} {x : Nat} {st : List Value} : ev d 21 4 ( some (.ref x) :: T) st h = ev d 21 5 ( some (.ref x) :: T) (.ref x :: st) h := ev_of d_21_4 rfl
theorem d_21_5 : decode (cd 21) 5 = .ok (.bipush 9, 2) := by rw [cd_21]; decide +kernel
theorem e_21_5 {d : Nat} {h : mM} {L : mLs} {st : List Value} : ev d 21 5 L st h = ev d 21 7 L (.int 9 :: st) h := ev_of d_21_5 rfl
theorem d_21_7 : decode (cd 21) 7 = .ok (.iconst 4, 1) := by rw [cd_21]; decide +kernel
theorem e_21_7 {d : Nat} {h : mM} {L : mLs} {st : List Value} : ev d 21 7 L st h = ev d 21 8 L (.int 4 :: st) h := ev_of d_21_7 rfl
theorem d_21_8 : decode (cd 21) 8 = .ok (.multianewarray 9 2, 4) := by rw [cd_21]; decide +kernel
theorem e_21_8 {d : Nat} {h : mM} {L : mLs} {st : List Value} {n m : Int32} (hn : ¬ n < 0) (h1 : n.toNatClampNeg ≤ 1000) (hm : ¬ m < 0) (h2 : m.toNatClampNeg ≤ 1000) : ev d 21 8 L (.int m :: .int n :: st) h = ev d 21 12 L (.ref (mN h) :: st) (wGrid h n.toNatClampNeg m.toNatClampNeg) := ev_grid d_21_8 (by decide +kernel) hn h1 hm h2
theorem d_21_12 : decode (cd 21) 12 = .ok (.putfield 11, 3) := by rw [cd_21]; decide +kernel
theorem e_21_12 {d : Nat} {h : mM} {L : mLs} {st : List Value} {a b : Nat} : ev d 21 12 L (.ref b :: .ref a :: st) h = if mK h a = 5 then ev d 21 15 L st (wR h a 2 (some b)) else none := ev_pR d_21_12 (by decide +kernel) (by decide +kernel) (by decide +kernel)
theorem d_21_15 : decode (cd 21) 15 = .ok (.aload_n 0, 1) := by rw [cd_21]; decide +kernel
theorem e_21_15 {d : Nat} {h : mM} {T : mLs} {x : Nat} {st : List Value} : ev d 21 15 ( some (.ref x) :: T) st h = ev d 21 16 ( some (.ref x) :: T) (.ref x :: st) h := ev_of d_21_15 rfl
theorem d_21_16 : decode (cd 21) 16 = .ok (.iconst 0, 1) := by rw [cd_21]; decide +kernel
theorem e_21_16 {d : Nat} {h : mM} {L : mLs} {st : List Value} : ev d 21 16 L st h = ev d 21 17 L (.int 0 :: st) h := ev_of d_21_16 rfl
theorem d_21_17 : decode (cd 21) 17 = .ok (.putfield 16, 3) := by rw [cd_21]; decide +kernel
theorem e_21_17 {d : Nat} {h : mM} {L : mLs} {st : List Value} {a : Nat} {v : Int32} : ev d 21 17 L (.int v :: .ref a :: st) h = if mK h a = 5 then ev d 21 20 L st (wI h a 3 v) else none := ev_pI d_21_17 (by decide +kernel) (by decide +kernel) (by decide +kernel)
theorem d_21_20 : decode (cd 21) 20 = .ok (.aload_n 0, 1) := by rw [cd_21]; decide +kernel
theorem e_21_20 {d : Nat} {h : mM} {T : mLs} {x : Nat} {st : List Value} : ev d 21 20 ( some (.ref x) :: T) st h = ev d 21 21 ( some (.ref x) :: T) (.ref x :: st) h := ev_of d_21_20 rfl
theorem d_21_21 : decode (cd 21) 21 = .ok (.iconst 0, 1) := by rw [cd_21]; decide +kernel
theorem e_21_21 {d : Nat} {h : mM} {L : mLs} {st : List Value} : ev d 21 21 L st h = ev d 21 22 L (.int 0 :: st) h := ev_of d_21_21 rfl
theorem d_21_22 : decode (cd 21) 22 = .ok (.putfield 20, 3) := by rw [cd_21]; decide +kernel
theorem e_21_22 {d : Nat} {h : mM} {L : mLs} {st : List Value} {a : Nat} {v : Int32} : ev d 21 22 L (.int v :: .ref a :: st) h = if mK h a = 5 then ev d 21 25 L st (wI h a 4 v) else none := ev_pI d_21_22 (by decide +kernel) (by decide +kernel) (by decide +kernel)
theorem d_21_25 : decode (cd 21) 25 = .ok (.aload_n 0, 1) := by rw [cd_21]; decide +kernel
theorem e_21_25 {d : Nat} {h : mM} {T : mLs} {x : Nat} {st : List Value} : ev d 21 25 ( some (.ref x) :: T) st h = ev d 21 26 ( some (.ref x) :: T) (.ref x :: st) h := ev_of d_21_25 rfl
theorem d_21_26 : decode (cd 21) 26 = .ok (.iconst 0, 1) := by rw [cd_21]; decide +kernel
theorem e_21_26 {d : Nat} {h : mM} {L : mLs} {st : List Value} : ev d 21 26 L st h = ev d 21 27 L (.int 0 :: st) h := ev_of d_21_26 rfl
theorem d_21_27 : decode (cd 21) 27 = .ok (.putfield 23, 3) := by rw [cd_21]; decide +kernel
theorem e_21_27 {d : Nat} {h : mM} {L : mLs} {st : List Value} {a : Nat} {v : Int32} : ev d 21 27 L (.int v :: .ref a :: st) h = if mK h a = 5 then ev d 21 30 L st (wI h a 5 v) else none := ev_pI d_21_27 (by decide +kernel) (by decide +kernel) (by decide +kernel)
theorem d_21_30 : decode (cd 21) 30 = .ok (.aload_n 0, 1) := by rw [cd_21]; decide +kernel
theorem e_21_30 {d : Nat} {h : mM} {T : mLs} {x : Nat} {st : List Value} : ev d 21 30 ( some (.ref x) :: T) st h = ev d 21 31 ( some (.ref x) :: T) (.ref x :: st) h := ev_of d_21_30 rfl
theorem d_21_31 : decode (cd 21) 31 = .ok (.iconst 0, 1) := by rw [cd_21]; decide +kernel
theorem e_21_31 {d : Nat} {h : mM} {L : mLs} {st : List Value} : ev d 21 31 L st h = ev d 21 32 L (.int 0 :: st) h := ev_of d_21_31 rfl
theorem d_21_32 : decode (cd 21) 32 = .ok (.putfield 26, 3) := by rw [cd_21]; decide +kernel
theorem e_21_32 {d : Nat} {h : mM} {L : mLs} {st : List Value} {a : Nat} {v : Int32} : ev d 21 32 L (.int v :: .ref a :: st) h = if mK h a = 5 then ev d 21 35 L st (wI h a 6 v) else none := ev_pI d_21_32 (by decide +kernel) (by decide +kernel) (by decide +kernel)
theorem d_21_35 : decode (cd 21) 35 = .ok (.aload_n 0, 1) := by rw [cd_21]; decide +kernel
theorem e_21_35 {d : Nat} {h : mM} {T : mLs} {x : Nat} {st : List Value} : ev d 21 35 ( some (.ref x) :: T) st h = ev d 21 36 ( some (.ref x) :: T) (.ref x :: st) h := ev_of d_21_35 rfl
theorem d_21_36 : decode (cd 21) 36 = .ok (.iconst 0, 1) := by rw [cd_21]; decide +kernel
theorem e_21_36 {d : Nat} {h : mM} {L : mLs} {st : List Value} : ev d 21 36 L st h = ev d 21 37 L (.int 0 :: st) h := ev_of d_21_36 rfl
theorem d_21_37 : decode (cd 21) 37 = .ok (.putfield 29, 3) := by rw [cd_21]; decide +kernel
theorem e_21_37 {d : Nat} {h : mM} {L : mLs} {st : List Value} {a : Nat} {v : Int32} : ev d 21 37 L (.int v :: .ref a :: st) h = if mK h a = 5 then ev d 21 40 L st (wI h a 7 v) else none := ev_pI d_21_37 (by decide +kernel) (by decide +kernel) (by decide +kernel)
theorem d_21_40 : decode (cd 21) 40 = .ok (.aload_n 0, 1) := by rw [cd_21]; decide +kernel
theorem e_21_40 {d : Nat} {h : mM} {T : mLs} {x : Nat} {st : List Value} : ev d 21 40 ( some (.ref x) :: T) st h = ev d 21 41 ( some (.ref x) :: T) (.ref x :: st) h := ev_of d_21_40 rfl
theorem d_21_41 : decode (cd 21) 41 = .ok (.new 32, 3) := by rw [cd_21]; decide +kernel
theorem e_21_41 {d : Nat} {h : mM} {L : mLs} {st : List Value} : ev d 21 41 L st h = ev d 21 44 L (.ref (mN h) :: st) (wN h 1 6) := ev_new d_21_41 (by decide +kernel)
theorem d_21_44 : decode (cd 21) 44 = .ok (.dup, 1) := by rw [cd_21]; decide +kernel
theorem e_21_44r {d : Nat} {h : mM} {L : mLs} {st : List Value} {a : Nat} : ev d 21 44 L (.ref a :: st) h = ev d 21 45 L (.ref a :: .ref a :: st) h := ev_of d_21_44 rfl
theorem e_21_44i {d : Nat} {h : mM} {L : mLs} {st : List Value} {x : Int32} : ev d 21 44 L (.int x :: st) h = ev d 21 45 L (.int x :: .int x :: st) h := ev_of d_21_44 rfl
theorem d_21_45 : decode (cd 21) 45 = .ok (.aload_n 1, 1) := by rw [cd_21]; decide +kernel
theorem e_21_45 {d : Nat} {h : mM} {o0 : Option Value} {T : mLs} {x : Nat} {st : List Value} : ev d 21 45 (o0 :: some (.ref x) :: T) st h = ev d 21 46 (o0 :: some (.ref x) :: T) (.ref x :: st) h := ev_of d_21_45 rfl
theorem d_21_46 : decode (cd 21) 46 = .ok (.invokespecial 34, 3) := by rw [cd_21]; decide +kernel
theorem e_21_46 {d : Nat} {h : mM} {L : mLs} {st : List Value} {a : Nat} {x0 : Nat} (hc : mCat st ≤ 8) : ev (d + 1) 21 46 L (.ref x0 :: .ref a :: st) h = cV (ev d 1 0 [some (.ref a), some (.ref x0)] [] h) (fun v h1 => ev (d + 1) 21 49 L (v ++ st) h1) := ev_ci (kd := 2) (mj := 1) (as := [.ref x0]) (rest := st) d_21_46 (by decide +kernel) (by decide) rfl rfl (by show _ ≤ List.length _; simp only [List.length_cons]; have : na 1 = 1 := rfl; omega) rfl (Nat.le_of_ble_eq_true rfl) hc
theorem d_21_49 : decode (cd 21) 49 = .ok (.putfield 37, 3) := by rw [cd_21]; decide +kernel
theorem e_21_49 {d : Nat} {h : mM} {L : mLs} {st : List Value} {a b : Nat} : ev d 21 49 L (.ref b :: .ref a :: st) h = if mK h a = 5 then ev d 21 52 L st (wR h a 0 (some b)) else none := ev_pR d_21_49 (by decide +kernel) (by decide +kernel) (by decide +kernel)
theorem d_21_52 : decode (cd 21) 52 = .ok (.aload_n 0, 1) := by rw [cd_21]; decide +kernel
theorem e_21_52 {d : Nat} {h : mM} {T : mLs} {x : Nat} {st : List Value} : ev d 21 52 ( some (.ref x) :: T) st h = ev d 21 53 ( some (.ref x) :: T) (.ref x :: st) h := ev_of d_21_52 rfl
theorem d_21_53 : decode (cd 21) 53 = .ok (.aload_n 2, 1) := by rw [cd_21]; decide +kernel
theorem e_21_53 {d : Nat} {h : mM} {o0 o1 : Option Value} {T : mLs} {x : Nat} {st : List Value} : ev d 21 53 (o0 :: o1 :: some (.ref x) :: T) st h = ev d 21 54 (o0 :: o1 :: some (.ref x) :: T) (.ref x :: st) h := ev_of d_21_53 rfl
theorem d_21_54 : decode (cd 21) 54 = .ok (.putfield 41, 3) := by rw [cd_21]; decide +kernel
theorem e_21_54 {d : Nat} {h : mM} {L : mLs} {st : List Value} {a b : Nat} : ev d 21 54 L (.ref b :: .ref a :: st) h = if mK h a = 5 then ev d 21 57 L st (wR h a 1 (some b)) else none := ev_pR d_21_54 (by decide +kernel) (by decide +kernel) (by decide +kernel)
theorem d_21_57 : decode (cd 21) 57 = .ok (.return_, 1) := by rw [cd_21]; decide +kernel
theorem e_21_57 {d : Nat} {h : mM} {L : mLs} : ev d 21 57 L [] h = some (none, h) := ev_rv d_21_57 (by decide +kernel)
-- 22: Search.start
theorem cd_22 : cd 22 = prog_7_method_2_code := rfl
theorem d_22_0 : decode (cd 22) 0 = .ok (.aload_n 0, 1) := by rw [cd_22]; decide +kernel
theorem e_22_0 {d : Nat} {h : mM} {T : mLs} {x : Nat} {st : List Value} : ev d 22 0 ( some (.ref x) :: T) st h = ev d 22 1 ( some (.ref x) :: T) (.ref x :: st) h := ev_of d_22_0 rfl
theorem d_22_1 : decode (cd 22) 1 = .ok (.iload_n 1, 1) := by rw [cd_22]; decide +kernel
theorem e_22_1 {d : Nat} {h : mM} {o0 : Option Value} {T : mLs} {x : Int32} {st : List Value} : ev d 22 1 (o0 :: some (.int x) :: T) st h = ev d 22 2 (o0 :: some (.int x) :: T) (.int x :: st) h := ev_of d_22_1 rfl
theorem d_22_2 : decode (cd 22) 2 = .ok (.putfield 16, 3) := by rw [cd_22]; decide +kernel
theorem e_22_2 {d : Nat} {h : mM} {L : mLs} {st : List Value} {a : Nat} {v : Int32} : ev d 22 2 L (.int v :: .ref a :: st) h = if mK h a = 5 then ev d 22 5 L st (wI h a 3 v) else none := ev_pI d_22_2 (by decide +kernel) (by decide +kernel) (by decide +kernel)
theorem d_22_5 : decode (cd 22) 5 = .ok (.aload_n 0, 1) := by rw [cd_22]; decide +kernel
theorem e_22_5 {d : Nat} {h : mM} {T : mLs} {x : Nat} {st : List Value} : ev d 22 5 ( some (.ref x) :: T) st h = ev d 22 6 ( some (.ref x) :: T) (.ref x :: st) h := ev_of d_22_5 rfl
theorem d_22_6 : decode (cd 22) 6 = .ok (.iload_n 2, 1) := by rw [cd_22]; decide +kernel
theorem e_22_6 {d : Nat} {h : mM} {o0 o1 : Option Value} {T : mLs} {x : Int32} {st : List Value} : ev d 22 6 (o0 :: o1 :: some (.int x) :: T) st h = ev d 22 7 (o0 :: o1 :: some (.int x) :: T) (.int x :: st) h := ev_of d_22_6 rfl
theorem d_22_7 : decode (cd 22) 7 = .ok (.putfield 20, 3) := by rw [cd_22]; decide +kernel
theorem e_22_7 {d : Nat} {h : mM} {L : mLs} {st : List Value} {a : Nat} {v : Int32} : ev d 22 7 L (.int v :: .ref a :: st) h = if mK h a = 5 then ev d 22 10 L st (wI h a 4 v) else none := ev_pI d_22_7 (by decide +kernel) (by decide +kernel) (by decide +kernel)
theorem d_22_10 : decode (cd 22) 10 = .ok (.aload_n 0, 1) := by rw [cd_22]; decide +kernel
theorem e_22_10 {d : Nat} {h : mM} {T : mLs} {x : Nat} {st : List Value} : ev d 22 10 ( some (.ref x) :: T) st h = ev d 22 11 ( some (.ref x) :: T) (.ref x :: st) h := ev_of d_22_10 rfl
theorem d_22_11 : decode (cd 22) 11 = .ok (.iload_n 3, 1) := by rw [cd_22]; decide +kernel
theorem e_22_11 {d : Nat} {h : mM} {o0 o1 o2 : Option Value} {T : mLs} {x : Int32} {st : List Value} : ev d 22 11 (o0 :: o1 :: o2 :: some (.int x) :: T) st h = ev d 22 12 (o0 :: o1 :: o2 :: some (.int x) :: T) (.int x :: st) h := ev_of d_22_11 rfl
theorem d_22_12 : decode (cd 22) 12 = .ok (.putfield 23, 3) := by rw [cd_22]; decide +kernel
theorem e_22_12 {d : Nat} {h : mM} {L : mLs} {st : List Value} {a : Nat} {v : Int32} : ev d 22 12 L (.int v :: .ref a :: st) h = if mK h a = 5 then ev d 22 15 L st (wI h a 5 v) else none := ev_pI d_22_12 (by decide +kernel) (by decide +kernel) (by decide +kernel)
theorem d_22_15 : decode (cd 22) 15 = .ok (.aload_n 0, 1) := by rw [cd_22]; decide +kernel
theorem e_22_15 {d : Nat} {h : mM} {T : mLs} {x : Nat} {st : List Value} : ev d 22 15 ( some (.ref x) :: T) st h = ev d 22 16 ( some (.ref x) :: T) (.ref x :: st) h := ev_of d_22_15 rfl
theorem d_22_16 : decode (cd 22) 16 = .ok (.iconst 0, 1) := by rw [cd_22]; decide +kernel
theorem e_22_16 {d : Nat} {h : mM} {L : mLs} {st : List Value} : ev d 22 16 L st h = ev d 22 17 L (.int 0 :: st) h := ev_of d_22_16 rfl
theorem d_22_17 : decode (cd 22) 17 = .ok (.putfield 26, 3) := by rw [cd_22]; decide +kernel
theorem e_22_17 {d : Nat} {h : mM} {L : mLs} {st : List Value} {a : Nat} {v : Int32} : ev d 22 17 L (.int v :: .ref a :: st) h = if mK h a = 5 then ev d 22 20 L st (wI h a 6 v) else none := ev_pI d_22_17 (by decide +kernel) (by decide +kernel) (by decide +kernel)
theorem d_22_20 : decode (cd 22) 20 = .ok (.aload_n 0, 1) := by rw [cd_22]; decide +kernel
theorem e_22_20 {d : Nat} {h : mM} {T : mLs} {x : Nat} {st : List Value} : ev d 22 20 ( some (.ref x) :: T) st h = ev d 22 21 ( some (.ref x) :: T) (.ref x :: st) h := ev_of d_22_20 rfl
theorem d_22_21 : decode (cd 22) 21 = .ok (.iconst 0, 1) := by rw [cd_22]; decide +kernel
theorem e_22_21 {d : Nat} {h : mM} {L : mLs} {st : List Value} : ev d 22 21 L st h = ev d 22 22 L (.int 0 :: st) h := ev_of d_22_21 rfl
theorem d_22_22 : decode (cd 22) 22 = .ok (.putfield 29, 3) := by rw [cd_22]; decide +kernel
theorem e_22_22 {d : Nat} {h : mM} {L : mLs} {st : List Value} {a : Nat} {v : Int32} : ev d 22 22 L (.int v :: .ref a :: st) h = if mK h a = 5 then ev d 22 25 L st (wI h a 7 v) else none := ev_pI d_22_22 (by decide +kernel) (by decide +kernel) (by decide +kernel)
theorem d_22_25 : decode (cd 22) 25 = .ok (.aload 4, 2) := by rw [cd_22]; decide +kernel
theorem e_22_25 {d : Nat} {h : mM} {o0 o1 o2 o3 : Option Value} {T : mLs} {x : Nat} {st : List Value} : ev d 22 25 (o0 :: o1 :: o2 :: o3 :: some (.ref x) :: T) st h = ev d 22 27 (o0 :: o1 :: o2 :: o3 :: some (.ref x) :: T) (.ref x :: st) h := ev_of d_22_25 rfl
theorem d_22_27 : decode (cd 22) 27 = .ok (.iconst 0, 1) := by rw [cd_22]; decide +kernel
theorem e_22_27 {d : Nat} {h : mM} {L : mLs} {st : List Value} : ev d 22 27 L st h = ev d 22 28 L (.int 0 :: st) h := ev_of d_22_27 rfl
theorem d_22_28 : decode (cd 22) 28 = .ok (.aload_n 0, 1) := by rw [cd_22]; decide +kernel
theorem e_22_28 {d : Nat} {h : mM} {T : mLs} {x : Nat} {st : List Value} : ev d 22 28 ( some (.ref x) :: T) st h = ev d 22 29 ( some (.ref x) :: T) (.ref x :: st) h := ev_of d_22_28 rfl
theorem d_22_29 : decode (cd 22) 29 = .ok (.getfield 11, 3) := by rw [cd_22]; decide +kernel
theorem e_22_29 {d : Nat} {h : mM} {L : mLs} {st : List Value} {a : Nat} : ev d 22 29 L (.ref a :: st) h = if mK h a = 5 then oB (mR h a 2) (fun b => ev d 22 32 L (.ref b :: st) h) else none := ev_gR d_22_29 (by decide +kernel) (by decide +kernel)
theorem d_22_32 : decode (cd 22) 32 = .ok (.iconst 0, 1) := by rw [cd_22]; decide +kernel
theorem e_22_32 {d : Nat} {h : mM} {L : mLs} {st : List Value} : ev d 22 32 L st h = ev d 22 33 L (.int 0 :: st) h := ev_of d_22_32 rfl
theorem d_22_33 : decode (cd 22) 33 = .ok (.aaload, 1) := by rw [cd_22]; decide +kernel
theorem e_22_33 {d : Nat} {h : mM} {L : mLs} {st : List Value} {a : Nat} {i : Int32} : ev d 22 33 L (.int i :: .ref a :: st) h = if (12 < mK h a ∧ mK h a < 19) ∧ ixOK i (mL h a) = true then oB (mR h a i.toNatClampNeg) (fun b => ev d 22 34 L (.ref b :: st) h) else none := ev_aa d_22_33
theorem d_22_34 : decode (cd 22) 34 = .ok (.iconst 0, 1) := by rw [cd_22]; decide +kernel
theorem e_22_34 {d : Nat} {h : mM} {L : mLs} {st : List Value} : ev d 22 34 L st h = ev d 22 35 L (.int 0 :: st) h := ev_of d_22_34 rfl
theorem d_22_35 : decode (cd 22) 35 = .ok (.iconst 4, 1) := by rw [cd_22]; decide +kernel
theorem e_22_35 {d : Nat} {h : mM} {L : mLs} {st : List Value} : ev d 22 35 L st h = ev d 22 36 L (.int 4 :: st) h := ev_of d_22_35 rfl
theorem d_22_36 : decode (cd 22) 36 = .ok (.invokestatic 45, 3) := by rw [cd_22]; decide +kernel
theorem e_22_36 {d : Nat} {h : mM} {L : mLs} {st : List Value} {a b : Nat} {n dp sp : Int32} (hc : mCat st ≤ 8) : ev d 22 36 L (.int n :: .int dp :: .ref b :: .int sp :: .ref a :: st) h = if mK h a = 11 ∧ mK h b = 11 ∧ ¬ sp < 0 ∧ ¬ dp < 0 ∧ ¬ n < 0 ∧ sp.toNatClampNeg + n.toNatClampNeg ≤ mL h a ∧ dp.toNatClampNeg + n.toNatClampNeg ≤ mL h b then ev d 22 39 L st (wC h a b sp.toNatClampNeg dp.toNatClampNeg n.toNatClampNeg) else none := ev_cpy (mj := 0) d_22_36 (by decide +kernel) hc
theorem d_22_39 : decode (cd 22) 39 = .ok (.return_, 1) := by rw [cd_22]; decide +kernel
theorem e_22_39 {d : Nat} {h : mM} {L : mLs} : ev d 22 39 L [] h = some (none, h) := ev_rv d_22_39 (by decide +kernel)
-- 23: Search.goWith
theorem cd_23 : cd 23 = prog_7_method_3_code := rfl
theorem d_23_0 : decode (cd 23) 0 = .ok (.aload_n 0, 1) := by rw [cd_23]; decide +kernel
theorem e_23_0 {d : Nat} {h : mM} {T : mLs} {x : Nat} {st : List Value} : ev d 23 0 ( some (.ref x) :: T) st h = ev d 23 1 ( some (.ref x) :: T) (.ref x :: st) h := ev_of d_23_0 rfl
theorem d_23_1 : decode (cd 23) 1 = .ok (.iload_n 1, 1) := by rw [cd_23]; decide +kernel
theorem e_23_1 {d : Nat} {h : mM} {o0 : Option Value} {T : mLs} {x : Int32} {st : List Value} : ev d 23 1 (o0 :: some (.int x) :: T) st h = ev d 23 2 (o0 :: some (.int x) :: T) (.int x :: st) h := ev_of d_23_1 rfl
theorem d_23_2 : decode (cd 23) 2 = .ok (.iconst (-1), 1) := by rw [cd_23]; decide +kernel
theorem e_23_2 {d : Nat} {h : mM} {L : mLs} {st : List Value} : ev d 23 2 L st h = ev d 23 3 L (.int (-1) :: st) h := ev_of d_23_2 rfl
theorem d_23_3 : decode (cd 23) 3 = .ok (.invokevirtual 51, 3) := by rw [cd_23]; decide +kernel
theorem e_23_3 {d : Nat} {h : mM} {L : mLs} {st : List Value} {a : Nat} {x0 : Int32} {x1 : Int32} (hc : mCat st ≤ 8) : ev (d + 1) 23 3 L (.int x1 :: .int x0 :: .ref a :: st) h = if mK h a = 5 then cV (ev d 25 0 [some (.ref a), some (.int x0), some (.int x1)] [] h) (fun v h1 => ev (d + 1) 23 6 L (v ++ st) h1) else none := ev_cv (mj := 25) (as := [.int x0, .int x1]) (rest := st) d_23_3 (by decide +kernel) rfl rfl (by show _ ≤ List.length _; simp only [List.length_cons]; have : na 25 = 2 := rfl; omega) rfl (Nat.le_of_ble_eq_true rfl) hc
theorem d_23_6 : decode (cd 23) 6 = .ok (.aload_n 0, 1) := by rw [cd_23]; decide +kernel
theorem e_23_6 {d : Nat} {h : mM} {T : mLs} {x : Nat} {st : List Value} : ev d 23 6 ( some (.ref x) :: T) st h = ev d 23 7 ( some (.ref x) :: T) (.ref x :: st) h := ev_of d_23_6 rfl
theorem d_23_7 : decode (cd 23) 7 = .ok (.getfield 37, 3) := by rw [cd_23]; decide +kernel
theorem e_23_7 {d : Nat} {h : mM} {L : mLs} {st : List Value} {a : Nat} : ev d 23 7 L (.ref a :: st) h = if mK h a = 5 then oB (mR h a 0) (fun b => ev d 23 10 L (.ref b :: st) h) else none := ev_gR d_23_7 (by decide +kernel) (by decide +kernel)
theorem d_23_10 : decode (cd 23) 10 = .ok (.aload_n 0, 1) := by rw [cd_23]; decide +kernel
theorem e_23_10 {d : Nat} {h : mM} {T : mLs} {x : Nat} {st : List Value} : ev d 23 10 ( some (.ref x) :: T) st h = ev d 23 11 ( some (.ref x) :: T) (.ref x :: st) h := ev_of d_23_10 rfl
theorem d_23_11 : decode (cd 23) 11 = .ok (.getfield 16, 3) := by rw [cd_23]; decide +kernel
theorem e_23_11 {d : Nat} {h : mM} {L : mLs} {st : List Value} {a : Nat} : ev d 23 11 L (.ref a :: st) h = if mK h a = 5 then ev d 23 14 L (.int (mI h a 3) :: st) h else none := ev_gI d_23_11 (by decide +kernel) (by decide +kernel)
theorem d_23_14 : decode (cd 23) 14 = .ok (.invokevirtual 55, 3) := by rw [cd_23]; decide +kernel
theorem e_23_14 {d : Nat} {h : mM} {L : mLs} {st : List Value} {a : Nat} {x0 : Int32} (hc : mCat st ≤ 8) : ev (d + 1) 23 14 L (.int x0 :: .ref a :: st) h = if mK h a = 1 then cV (ev d 9 0 [some (.ref a), some (.int x0), none, none] [] h) (fun v h1 => ev (d + 1) 23 17 L (v ++ st) h1) else none := ev_cv (mj := 9) (as := [.int x0]) (rest := st) d_23_14 (by decide +kernel) rfl rfl (by show _ ≤ List.length _; simp only [List.length_cons]; have : na 9 = 1 := rfl; omega) rfl (Nat.le_of_ble_eq_true rfl) hc
theorem d_23_17 : decode (cd 23) 17 = .ok (.ireturn, 1) := by rw [cd_23]; decide +kernel
theorem e_23_17 {d : Nat} {h : mM} {L : mLs} {v : Int32} : ev d 23 17 L [.int v] h = some (some (.int v), h) := ev_ri d_23_17 (by decide +kernel)
-- 24: Search.goWithout
theorem cd_24 : cd 24 = prog_7_method_4_code := rfl
theorem d_24_0 : decode (cd 24) 0 = .ok (.aload_n 0, 1) := by rw [cd_24]; decide +kernel
theorem e_24_0 {d : Nat} {h : mM} {T : mLs} {x : Nat} {st : List Value} : ev d 24 0 ( some (.ref x) :: T) st h = ev d 24 1 ( some (.ref x) :: T) (.ref x :: st) h := ev_of d_24_0 rfl
theorem d_24_1 : decode (cd 24) 1 = .ok (.iload_n 1, 1) := by rw [cd_24]; decide +kernel
theorem e_24_1 {d : Nat} {h : mM} {o0 : Option Value} {T : mLs} {x : Int32} {st : List Value} : ev d 24 1 (o0 :: some (.int x) :: T) st h = ev d 24 2 (o0 :: some (.int x) :: T) (.int x :: st) h := ev_of d_24_1 rfl
theorem d_24_2 : decode (cd 24) 2 = .ok (.aload_n 0, 1) := by rw [cd_24]; decide +kernel
theorem e_24_2 {d : Nat} {h : mM} {T : mLs} {x : Nat} {st : List Value} : ev d 24 2 ( some (.ref x) :: T) st h = ev d 24 3 ( some (.ref x) :: T) (.ref x :: st) h := ev_of d_24_2 rfl
theorem d_24_3 : decode (cd 24) 3 = .ok (.getfield 16, 3) := by rw [cd_24]; decide +kernel
theorem e_24_3 {d : Nat} {h : mM} {L : mLs} {st : List Value} {a : Nat} : ev d 24 3 L (.ref a :: st) h = if mK h a = 5 then ev d 24 6 L (.int (mI h a 3) :: st) h else none := ev_gI d_24_3 (by decide +kernel) (by decide +kernel)
theorem d_24_6 : decode (cd 24) 6 = .ok (.invokevirtual 51, 3) := by rw [cd_24]; decide +kernel
theorem e_24_6 {d : Nat} {h : mM} {L : mLs} {st : List Value} {a : Nat} {x0 : Int32} {x1 : Int32} (hc : mCat st ≤ 8) : ev (d + 1) 24 6 L (.int x1 :: .int x0 :: .ref a :: st) h = if mK h a = 5 then cV (ev d 25 0 [some (.ref a), some (.int x0), some (.int x1)] [] h) (fun v h1 => ev (d + 1) 24 9 L (v ++ st) h1) else none := ev_cv (mj := 25) (as := [.int x0, .int x1]) (rest := st) d_24_6 (by decide +kernel) rfl rfl (by show _ ≤ List.length _; simp only [List.length_cons]; have : na 25 = 2 := rfl; omega) rfl (Nat.le_of_ble_eq_true rfl) hc
theorem d_24_9 : decode (cd 24) 9 = .ok (.return_, 1) := by rw [cd_24]; decide +kernel
theorem e_24_9 {d : Nat} {h : mM} {L : mLs} : ev d 24 9 L [] h = some (none, h) := ev_rv d_24_9 (by decide +kernel)
-- 25: Search.goOn
theorem cd_25 : cd 25 = prog_7_method_5_code := rfl
theorem d_25_0 : decode (cd 25) 0 = .ok (.aload_n 0, 1) := by rw [cd_25]; decide +kernel
theorem e_25_0 {d : Nat} {h : mM} {T : mLs} {x : Nat} {st : List Value} : ev d 25 0 ( some (.ref x) :: T) st h = ev d 25 1 ( some (.ref x) :: T) (.ref x :: st) h := ev_of d_25_0 rfl
theorem d_25_1 : decode (cd 25) 1 = .ok (.getfield 11, 3) := by rw [cd_25]; decide +kernel
theorem e_25_1 {d : Nat} {h : mM} {L : mLs} {st : List Value} {a : Nat} : ev d 25 1 L (.ref a :: st) h = if mK h a = 5 then oB (mR h a 2) (fun b => ev d 25 4 L (.ref b :: st) h) else none := ev_gR d_25_1 (by decide +kernel) (by decide +kernel)
theorem d_25_4 : decode (cd 25) 4 = .ok (.iload_n 1, 1) := by rw [cd_25]; decide +kernel
theorem e_25_4 {d : Nat} {h : mM} {o0 : Option Value} {T : mLs} {x : Int32} {st : List Value} : ev d 25 4 (o0 :: some (.int x) :: T) st h = ev d 25 5 (o0 :: some (.int x) :: T) (.int x :: st) h := ev_of d_25_4 rfl
theorem d_25_5 : decode (cd 25) 5 = .ok (.aaload, 1) := by rw [cd_25]; decide +kernel
theorem e_25_5 {d : Nat} {h : mM} {L : mLs} {st : List Value} {a : Nat} {i : Int32} : ev d 25 5 L (.int i :: .ref a :: st) h = if (12 < mK h a ∧ mK h a < 19) ∧ ixOK i (mL h a) = true then oB (mR h a i.toNatClampNeg) (fun b => ev d 25 6 L (.ref b :: st) h) else none := ev_aa d_25_5
theorem d_25_6 : decode (cd 25) 6 = .ok (.iconst 0, 1) := by rw [cd_25]; decide +kernel
theorem e_25_6 {d : Nat} {h : mM} {L : mLs} {st : List Value} : ev d 25 6 L st h = ev d 25 7 L (.int 0 :: st) h := ev_of d_25_6 rfl
theorem d_25_7 : decode (cd 25) 7 = .ok (.aload_n 0, 1) := by rw [cd_25]; decide +kernel
theorem e_25_7 {d : Nat} {h : mM} {T : mLs} {x : Nat} {st : List Value} : ev d 25 7 ( some (.ref x) :: T) st h = ev d 25 8 ( some (.ref x) :: T) (.ref x :: st) h := ev_of d_25_7 rfl
theorem d_25_8 : decode (cd 25) 8 = .ok (.getfield 11, 3) := by rw [cd_25]; decide +kernel
theorem e_25_8 {d : Nat} {h : mM} {L : mLs} {st : List Value} {a : Nat} : ev d 25 8 L (.ref a :: st) h = if mK h a = 5 then oB (mR h a 2) (fun b => ev d 25 11 L (.ref b :: st) h) else none := ev_gR d_25_8 (by decide +kernel) (by decide +kernel)
theorem d_25_11 : decode (cd 25) 11 = .ok (.iload_n 1, 1) := by rw [cd_25]; decide +kernel
theorem e_25_11 {d : Nat} {h : mM} {o0 : Option Value} {T : mLs} {x : Int32} {st : List Value} : ev d 25 11 (o0 :: some (.int x) :: T) st h = ev d 25 12 (o0 :: some (.int x) :: T) (.int x :: st) h := ev_of d_25_11 rfl
theorem d_25_12 : decode (cd 25) 12 = .ok (.iconst 1, 1) := by rw [cd_25]; decide +kernel
theorem e_25_12 {d : Nat} {h : mM} {L : mLs} {st : List Value} : ev d 25 12 L st h = ev d 25 13 L (.int 1 :: st) h := ev_of d_25_12 rfl
theorem d_25_13 : decode (cd 25) 13 = .ok (.iadd, 1) := by rw [cd_25]; decide +kernel
theorem e_25_13 {d : Nat} {h : mM} {L : mLs} {st : List Value} {x y : Int32} : ev d 25 13 L (.int y :: .int x :: st) h = ev d 25 14 L (.int (x + y) :: st) h := ev_of d_25_13 rfl
theorem d_25_14 : decode (cd 25) 14 = .ok (.aaload, 1) := by rw [cd_25]; decide +kernel
theorem e_25_14 {d : Nat} {h : mM} {L : mLs} {st : List Value} {a : Nat} {i : Int32} : ev d 25 14 L (.int i :: .ref a :: st) h = if (12 < mK h a ∧ mK h a < 19) ∧ ixOK i (mL h a) = true then oB (mR h a i.toNatClampNeg) (fun b => ev d 25 15 L (.ref b :: st) h) else none := ev_aa d_25_14
theorem d_25_15 : decode (cd 25) 15 = .ok (.iconst 0, 1) := by rw [cd_25]; decide +kernel
theorem e_25_15 {d : Nat} {h : mM} {L : mLs} {st : List Value} : ev d 25 15 L st h = ev d 25 16 L (.int 0 :: st) h := ev_of d_25_15 rfl
theorem d_25_16 : decode (cd 25) 16 = .ok (.iconst 4, 1) := by rw [cd_25]; decide +kernel
theorem e_25_16 {d : Nat} {h : mM} {L : mLs} {st : List Value} : ev d 25 16 L st h = ev d 25 17 L (.int 4 :: st) h := ev_of d_25_16 rfl
theorem d_25_17 : decode (cd 25) 17 = .ok (.invokestatic 45, 3) := by rw [cd_25]; decide +kernel
theorem e_25_17 {d : Nat} {h : mM} {L : mLs} {st : List Value} {a b : Nat} {n dp sp : Int32} (hc : mCat st ≤ 8) : ev d 25 17 L (.int n :: .int dp :: .ref b :: .int sp :: .ref a :: st) h = if mK h a = 11 ∧ mK h b = 11 ∧ ¬ sp < 0 ∧ ¬ dp < 0 ∧ ¬ n < 0 ∧ sp.toNatClampNeg + n.toNatClampNeg ≤ mL h a ∧ dp.toNatClampNeg + n.toNatClampNeg ≤ mL h b then ev d 25 20 L st (wC h a b sp.toNatClampNeg dp.toNatClampNeg n.toNatClampNeg) else none := ev_cpy (mj := 0) d_25_17 (by decide +kernel) hc
theorem d_25_20 : decode (cd 25) 20 = .ok (.aload_n 0, 1) := by rw [cd_25]; decide +kernel
theorem e_25_20 {d : Nat} {h : mM} {T : mLs} {x : Nat} {st : List Value} : ev d 25 20 ( some (.ref x) :: T) st h = ev d 25 21 ( some (.ref x) :: T) (.ref x :: st) h := ev_of d_25_20 rfl
theorem d_25_21 : decode (cd 25) 21 = .ok (.getfield 37, 3) := by rw [cd_25]; decide +kernel
theorem e_25_21 {d : Nat} {h : mM} {L : mLs} {st : List Value} {a : Nat} : ev d 25 21 L (.ref a :: st) h = if mK h a = 5 then oB (mR h a 0) (fun b => ev d 25 24 L (.ref b :: st) h) else none := ev_gR d_25_21 (by decide +kernel) (by decide +kernel)
theorem d_25_24 : decode (cd 25) 24 = .ok (.aload_n 0, 1) := by rw [cd_25]; decide +kernel
theorem e_25_24 {d : Nat} {h : mM} {T : mLs} {x : Nat} {st : List Value} : ev d 25 24 ( some (.ref x) :: T) st h = ev d 25 25 ( some (.ref x) :: T) (.ref x :: st) h := ev_of d_25_24 rfl
theorem d_25_25 : decode (cd 25) 25 = .ok (.getfield 11, 3) := by rw [cd_25]; decide +kernel
theorem e_25_25 {d : Nat} {h : mM} {L : mLs} {st : List Value} {a : Nat} : ev d 25 25 L (.ref a :: st) h = if mK h a = 5 then oB (mR h a 2) (fun b => ev d 25 28 L (.ref b :: st) h) else none := ev_gR d_25_25 (by decide +kernel) (by decide +kernel)
theorem d_25_28 : decode (cd 25) 28 = .ok (.iload_n 1, 1) := by rw [cd_25]; decide +kernel
theorem e_25_28 {d : Nat} {h : mM} {o0 : Option Value} {T : mLs} {x : Int32} {st : List Value} : ev d 25 28 (o0 :: some (.int x) :: T) st h = ev d 25 29 (o0 :: some (.int x) :: T) (.int x :: st) h := ev_of d_25_28 rfl
theorem d_25_29 : decode (cd 25) 29 = .ok (.iconst 1, 1) := by rw [cd_25]; decide +kernel
theorem e_25_29 {d : Nat} {h : mM} {L : mLs} {st : List Value} : ev d 25 29 L st h = ev d 25 30 L (.int 1 :: st) h := ev_of d_25_29 rfl
theorem d_25_30 : decode (cd 25) 30 = .ok (.iadd, 1) := by rw [cd_25]; decide +kernel
theorem e_25_30 {d : Nat} {h : mM} {L : mLs} {st : List Value} {x y : Int32} : ev d 25 30 L (.int y :: .int x :: st) h = ev d 25 31 L (.int (x + y) :: st) h := ev_of d_25_30 rfl
theorem d_25_31 : decode (cd 25) 31 = .ok (.aaload, 1) := by rw [cd_25]; decide +kernel
theorem e_25_31 {d : Nat} {h : mM} {L : mLs} {st : List Value} {a : Nat} {i : Int32} : ev d 25 31 L (.int i :: .ref a :: st) h = if (12 < mK h a ∧ mK h a < 19) ∧ ixOK i (mL h a) = true then oB (mR h a i.toNatClampNeg) (fun b => ev d 25 32 L (.ref b :: st) h) else none := ev_aa d_25_31
theorem d_25_32 : decode (cd 25) 32 = .ok (.aload_n 0, 1) := by rw [cd_25]; decide +kernel
theorem e_25_32 {d : Nat} {h : mM} {T : mLs} {x : Nat} {st : List Value} : ev d 25 32 ( some (.ref x) :: T) st h = ev d 25 33 ( some (.ref x) :: T) (.ref x :: st) h := ev_of d_25_32 rfl
theorem d_25_33 : decode (cd 25) 33 = .ok (.getfield 41, 3) := by rw [cd_25]; decide +kernel
theorem e_25_33 {d : Nat} {h : mM} {L : mLs} {st : List Value} {a : Nat} : ev d 25 33 L (.ref a :: st) h = if mK h a = 5 then oB (mR h a 1) (fun b => ev d 25 36 L (.ref b :: st) h) else none := ev_gR d_25_33 (by decide +kernel) (by decide +kernel)
theorem d_25_36 : decode (cd 25) 36 = .ok (.aload_n 0, 1) := by rw [cd_25]; decide +kernel
theorem e_25_36 {d : Nat} {h : mM} {T : mLs} {x : Nat} {st : List Value} : ev d 25 36 ( some (.ref x) :: T) st h = ev d 25 37 ( some (.ref x) :: T) (.ref x :: st) h := ev_of d_25_36 rfl
theorem d_25_37 : decode (cd 25) 37 = .ok (.getfield 23, 3) := by rw [cd_25]; decide +kernel
theorem e_25_37 {d : Nat} {h : mM} {L : mLs} {st : List Value} {a : Nat} : ev d 25 37 L (.ref a :: st) h = if mK h a = 5 then ev d 25 40 L (.int (mI h a 5) :: st) h else none := ev_gI d_25_37 (by decide +kernel) (by decide +kernel)
theorem d_25_40 : decode (cd 25) 40 = .ok (.iload_n 1, 1) := by rw [cd_25]; decide +kernel
theorem e_25_40 {d : Nat} {h : mM} {o0 : Option Value} {T : mLs} {x : Int32} {st : List Value} : ev d 25 40 (o0 :: some (.int x) :: T) st h = ev d 25 41 (o0 :: some (.int x) :: T) (.int x :: st) h := ev_of d_25_40 rfl
theorem d_25_41 : decode (cd 25) 41 = .ok (.iadd, 1) := by rw [cd_25]; decide +kernel
theorem e_25_41 {d : Nat} {h : mM} {L : mLs} {st : List Value} {x y : Int32} : ev d 25 41 L (.int y :: .int x :: st) h = ev d 25 42 L (.int (x + y) :: st) h := ev_of d_25_41 rfl
theorem d_25_42 : decode (cd 25) 42 = .ok (.invokevirtual 59, 3) := by rw [cd_25]; decide +kernel
theorem e_25_42 {d : Nat} {h : mM} {L : mLs} {st : List Value} {a : Nat} {x0 : Int32} (hc : mCat st ≤ 8) : ev (d + 1) 25 42 L (.int x0 :: .ref a :: st) h = if mK h a = 7 then cV (ev d 31 0 [some (.ref a), some (.int x0)] [] h) (fun v h1 => ev (d + 1) 25 45 L (v ++ st) h1) else none := ev_cv (mj := 31) (as := [.int x0]) (rest := st) d_25_42 (by decide +kernel) rfl rfl (by show _ ≤ List.length _; simp only [List.length_cons]; have : na 31 = 1 := rfl; omega) rfl (Nat.le_of_ble_eq_true rfl) hc
theorem d_25_45 : decode (cd 25) 45 = .ok (.iload_n 2, 1) := by rw [cd_25]; decide +kernel
theorem e_25_45 {d : Nat} {h : mM} {o0 o1 : Option Value} {T : mLs} {x : Int32} {st : List Value} : ev d 25 45 (o0 :: o1 :: some (.int x) :: T) st h = ev d 25 46 (o0 :: o1 :: some (.int x) :: T) (.int x :: st) h := ev_of d_25_45 rfl
theorem d_25_46 : decode (cd 25) 46 = .ok (.invokevirtual 64, 3) := by rw [cd_25]; decide +kernel
theorem e_25_46 {d : Nat} {h : mM} {L : mLs} {st : List Value} {a : Nat} {x0 : Nat} {x1 : Int32} {x2 : Int32} (hc : mCat st ≤ 8) : ev (d + 1) 25 46 L (.int x2 :: .int x1 :: .ref x0 :: .ref a :: st) h = if mK h a = 1 then cV (ev d 2 0 [some (.ref a), some (.ref x0), some (.int x1), some (.int x2)] [] h) (fun v h1 => ev (d + 1) 25 49 L (v ++ st) h1) else none := ev_cv (mj := 2) (as := [.ref x0, .int x1, .int x2]) (rest := st) d_25_46 (by decide +kernel) rfl rfl (by show _ ≤ List.length _; simp only [List.length_cons]; have : na 2 = 3 := rfl; omega) rfl (Nat.le_of_ble_eq_true rfl) hc
theorem d_25_49 : decode (cd 25) 49 = .ok (.return_, 1) := by rw [cd_25]; decide +kernel
theorem e_25_49 {d : Nat} {h : mM} {L : mLs} : ev d 25 49 L [] h = some (none, h) := ev_rv d_25_49 (by decide +kernel)
-- 26: Search.keepIfBetter
theorem cd_26 : cd 26 = prog_7_method_6_code := rfl
theorem d_26_0 : decode (cd 26) 0 = .ok (.aload_n 0, 1) := by rw [cd_26]; decide +kernel
theorem e_26_0 {d : Nat} {h : mM} {T : mLs} {x : Nat} {st : List Value} : ev d 26 0 ( some (.ref x) :: T) st h = ev d 26 1 ( some (.ref x) :: T) (.ref x :: st) h := ev_of d_26_0 rfl
theorem d_26_1 : decode (cd 26) 1 = .ok (.getfield 26, 3) := by rw [cd_26]; decide +kernel
theorem e_26_1 {d : Nat} {h : mM} {L : mLs} {st : List Value} {a : Nat} : ev d 26 1 L (.ref a :: st) h = if mK h a = 5 then ev d 26 4 L (.int (mI h a 6) :: st) h else none := ev_gI d_26_1 (by decide +kernel) (by decide +kernel)
theorem d_26_4 : decode (cd 26) 4 = .ok (.invokestatic 68, 3) := by rw [cd_26]; decide +kernel
theorem e_26_4 {d : Nat} {h : mM} {L : mLs} {st : List Value} {x0 : Int32} (hc : mCat st ≤ 8) : ev (d + 1) 26 4 L (.int x0 :: st) h = cV (ev d 121 0 [some (.int x0)] [] h) (fun v h1 => ev (d + 1) 26 7 L (v ++ st) h1) := ev_cs (kd := 1) (mj := 121) (as := [.int x0]) (rest := st) d_26_4 (by decide +kernel) (by decide) rfl rfl (by show _ ≤ List.length _; simp only [List.length_cons]; have : na 121 = 1 := rfl; omega) rfl (Nat.le_of_ble_eq_true rfl) hc
theorem d_26_7 : decode (cd 26) 7 = .ok (.iload_n 1, 1) := by rw [cd_26]; decide +kernel
theorem e_26_7 {d : Nat} {h : mM} {o0 : Option Value} {T : mLs} {x : Int32} {st : List Value} : ev d 26 7 (o0 :: some (.int x) :: T) st h = ev d 26 8 (o0 :: some (.int x) :: T) (.int x :: st) h := ev_of d_26_7 rfl
theorem d_26_8 : decode (cd 26) 8 = .ok (.invokestatic 68, 3) := by rw [cd_26]; decide +kernel
theorem e_26_8 {d : Nat} {h : mM} {L : mLs} {st : List Value} {x0 : Int32} (hc : mCat st ≤ 8) : ev (d + 1) 26 8 L (.int x0 :: st) h = cV (ev d 121 0 [some (.int x0)] [] h) (fun v h1 => ev (d + 1) 26 11 L (v ++ st) h1) := ev_cs (kd := 1) (mj := 121) (as := [.int x0]) (rest := st) d_26_8 (by decide +kernel) (by decide) rfl rfl (by show _ ≤ List.length _; simp only [List.length_cons]; have : na 121 = 1 := rfl; omega) rfl (Nat.le_of_ble_eq_true rfl) hc
theorem d_26_11 : decode (cd 26) 11 = .ok (.isub, 1) := by rw [cd_26]; decide +kernel
theorem e_26_11 {d : Nat} {h : mM} {L : mLs} {st : List Value} {x y : Int32} : ev d 26 11 L (.int y :: .int x :: st) h = ev d 26 12 L (.int (x - y) :: st) h := ev_of d_26_11 rfl
theorem d_26_12 : decode (cd 26) 12 = .ok (.istore_n 3, 1) := by rw [cd_26]; decide +kernel
theorem e_26_12 {d : Nat} {h : mM} {o0 o1 o2 o3 : Option Value} {T : mLs} {x : Int32} {st : List Value} (hl : mLong o2 = false) : ev d 26 12 (o0 :: o1 :: o2 :: o3 :: T) (.int x :: st) h = ev d 26 13 (o0 :: o1 :: o2 :: some (.int x) :: T) st h := ev_st_in d_26_12 (by decide +kernel) (mS1_s (j := 2) hl)
theorem d_26_13 : decode (cd 26) 13 = .ok (.iload_n 2, 1) := by rw [cd_26]; decide +kernel
theorem e_26_13 {d : Nat} {h : mM} {o0 o1 : Option Value} {T : mLs} {x : Int32} {st : List Value} : ev d 26 13 (o0 :: o1 :: some (.int x) :: T) st h = ev d 26 14 (o0 :: o1 :: some (.int x) :: T) (.int x :: st) h := ev_of d_26_13 rfl
theorem d_26_14 : decode (cd 26) 14 = .ok (.aload_n 0, 1) := by rw [cd_26]; decide +kernel
theorem e_26_14 {d : Nat} {h : mM} {T : mLs} {x : Nat} {st : List Value} : ev d 26 14 ( some (.ref x) :: T) st h = ev d 26 15 ( some (.ref x) :: T) (.ref x :: st) h := ev_of d_26_14 rfl
theorem d_26_15 : decode (cd 26) 15 = .ok (.getfield 29, 3) := by rw [cd_26]; decide +kernel
theorem e_26_15 {d : Nat} {h : mM} {L : mLs} {st : List Value} {a : Nat} : ev d 26 15 L (.ref a :: st) h = if mK h a = 5 then ev d 26 18 L (.int (mI h a 7) :: st) h else none := ev_gI d_26_15 (by decide +kernel) (by decide +kernel)
theorem d_26_18 : decode (cd 26) 18 = .ok (.if_icmp .gt 27, 3) := by rw [cd_26]; decide +kernel
theorem e_26_18 {d : Nat} {h : mM} {L : mLs} {st : List Value} {x y : Int32} : ev d 26 18 L (.int y :: .int x :: st) h = if y < x then ev d 26 45 L st h else ev d 26 21 L st h := ev_ic (y < x) inferInstance rfl d_26_18 (by decide)
theorem d_26_21 : decode (cd 26) 21 = .ok (.iload_n 2, 1) := by rw [cd_26]; decide +kernel
theorem e_26_21 {d : Nat} {h : mM} {o0 o1 : Option Value} {T : mLs} {x : Int32} {st : List Value} : ev d 26 21 (o0 :: o1 :: some (.int x) :: T) st h = ev d 26 22 (o0 :: o1 :: some (.int x) :: T) (.int x :: st) h := ev_of d_26_21 rfl
theorem d_26_22 : decode (cd 26) 22 = .ok (.aload_n 0, 1) := by rw [cd_26]; decide +kernel
theorem e_26_22 {d : Nat} {h : mM} {T : mLs} {x : Nat} {st : List Value} : ev d 26 22 ( some (.ref x) :: T) st h = ev d 26 23 ( some (.ref x) :: T) (.ref x :: st) h := ev_of d_26_22 rfl
theorem d_26_23 : decode (cd 26) 23 = .ok (.getfield 29, 3) := by rw [cd_26]; decide +kernel
theorem e_26_23 {d : Nat} {h : mM} {L : mLs} {st : List Value} {a : Nat} : ev d 26 23 L (.ref a :: st) h = if mK h a = 5 then ev d 26 26 L (.int (mI h a 7) :: st) h else none := ev_gI d_26_23 (by decide +kernel) (by decide +kernel)
theorem d_26_26 : decode (cd 26) 26 = .ok (.if_icmp .ne 23, 3) := by rw [cd_26]; decide +kernel
theorem e_26_26 {d : Nat} {h : mM} {L : mLs} {st : List Value} {x y : Int32} : ev d 26 26 L (.int y :: .int x :: st) h = if ¬ x = y then ev d 26 49 L st h else ev d 26 29 L st h := ev_ic (¬ x = y) inferInstance rfl d_26_26 (by decide)
theorem d_26_29 : decode (cd 26) 29 = .ok (.iload_n 3, 1) := by rw [cd_26]; decide +kernel
theorem e_26_29 {d : Nat} {h : mM} {o0 o1 o2 : Option Value} {T : mLs} {x : Int32} {st : List Value} : ev d 26 29 (o0 :: o1 :: o2 :: some (.int x) :: T) st h = ev d 26 30 (o0 :: o1 :: o2 :: some (.int x) :: T) (.int x :: st) h := ev_of d_26_29 rfl
theorem d_26_30 : decode (cd 26) 30 = .ok (.ifCond .gt 15, 3) := by rw [cd_26]; decide +kernel
theorem e_26_30 {d : Nat} {h : mM} {L : mLs} {st : List Value} {x : Int32} : ev d 26 30 L (.int x :: st) h = if 0 < x then ev d 26 45 L st h else ev d 26 33 L st h := ev_if (0 < x) inferInstance rfl d_26_30 (by decide)
theorem d_26_33 : decode (cd 26) 33 = .ok (.iload_n 3, 1) := by rw [cd_26]; decide +kernel
theorem e_26_33 {d : Nat} {h : mM} {o0 o1 o2 : Option Value} {T : mLs} {x : Int32} {st : List Value} : ev d 26 33 (o0 :: o1 :: o2 :: some (.int x) :: T) st h = ev d 26 34 (o0 :: o1 :: o2 :: some (.int x) :: T) (.int x :: st) h := ev_of d_26_33 rfl
theorem d_26_34 : decode (cd 26) 34 = .ok (.ifCond .ne 15, 3) := by rw [cd_26]; decide +kernel
theorem e_26_34 {d : Nat} {h : mM} {L : mLs} {st : List Value} {x : Int32} : ev d 26 34 L (.int x :: st) h = if ¬ x = 0 then ev d 26 49 L st h else ev d 26 37 L st h := ev_if (¬ x = 0) inferInstance rfl d_26_34 (by decide)
theorem d_26_37 : decode (cd 26) 37 = .ok (.iload_n 1, 1) := by rw [cd_26]; decide +kernel
theorem e_26_37 {d : Nat} {h : mM} {o0 : Option Value} {T : mLs} {x : Int32} {st : List Value} : ev d 26 37 (o0 :: some (.int x) :: T) st h = ev d 26 38 (o0 :: some (.int x) :: T) (.int x :: st) h := ev_of d_26_37 rfl
theorem d_26_38 : decode (cd 26) 38 = .ok (.aload_n 0, 1) := by rw [cd_26]; decide +kernel
theorem e_26_38 {d : Nat} {h : mM} {T : mLs} {x : Nat} {st : List Value} : ev d 26 38 ( some (.ref x) :: T) st h = ev d 26 39 ( some (.ref x) :: T) (.ref x :: st) h := ev_of d_26_38 rfl
theorem d_26_39 : decode (cd 26) 39 = .ok (.getfield 26, 3) := by rw [cd_26]; decide +kernel
theorem e_26_39 {d : Nat} {h : mM} {L : mLs} {st : List Value} {a : Nat} : ev d 26 39 L (.ref a :: st) h = if mK h a = 5 then ev d 26 42 L (.int (mI h a 6) :: st) h else none := ev_gI d_26_39 (by decide +kernel) (by decide +kernel)
theorem d_26_42 : decode (cd 26) 42 = .ok (.if_icmp .ge 7, 3) := by rw [cd_26]; decide +kernel
theorem e_26_42 {d : Nat} {h : mM} {L : mLs} {st : List Value} {x y : Int32} : ev d 26 42 L (.int y :: .int x :: st) h = if y ≤ x then ev d 26 49 L st h else ev d 26 45 L st h := ev_ic (y ≤ x) inferInstance rfl d_26_42 (by decide)
theorem d_26_45 : decode (cd 26) 45 = .ok (.iconst 1, 1) := by rw [cd_26]; decide +kernel
theorem e_26_45 {d : Nat} {h : mM} {L : mLs} {st : List Value} : ev d 26 45 L st h = ev d 26 46 L (.int 1 :: st) h := ev_of d_26_45 rfl
theorem d_26_46 : decode (cd 26) 46 = .ok (.goto 4, 3) := by rw [cd_26]; decide +kernel
theorem e_26_46 {d : Nat} {h : mM} {L : mLs} {st : List Value} : ev d 26 46 L st h = ev d 26 50 L st h := ev_go d_26_46 (by decide)
theorem d_26_49 : decode (cd 26) 49 = .ok (.iconst 0, 1) := by rw [cd_26]; decide +kernel
theorem e_26_49 {d : Nat} {h : mM} {L : mLs} {st : List Value} : ev d 26 49 L st h = ev d 26 50 L (.int 0 :: st) h := ev_of d_26_49 rfl
theorem d_26_50 : decode (cd 26) 50 = .ok (.istore 4, 2) := by rw [cd_26]; decide +kernel
theorem e_26_50 {d : Nat} {h : mM} {o0 o1 o2 o3 o4 : Option Value} {T : mLs} {x : Int32} {st : List Value} (hl : mLong o3 = false) : ev d 26 50 (o0 :: o1 :: o2 :: o3 :: o4 :: T) (.int x :: st) h = ev d 26 52 (o0 :: o1 :: o2 :: o3 :: some (.int x) :: T) st h := ev_st_i d_26_50 (by decide +kernel) (mS1_s (j := 3) hl)
theorem d_26_52 : decode (cd 26) 52 = .ok (.iload 4, 2) := by rw [cd_26]; decide +kernel
theorem e_26_52 {d : Nat} {h : mM} {o0 o1 o2 o3 : Option Value} {T : mLs} {x : Int32} {st : List Value} : ev d 26 52 (o0 :: o1 :: o2 :: o3 :: some (.int x) :: T) st h = ev d 26 54 (o0 :: o1 :: o2 :: o3 :: some (.int x) :: T) (.int x :: st) h := ev_of d_26_52 rfl
theorem d_26_54 : decode (cd 26) 54 = .ok (.ifCond .eq 13, 3) := by rw [cd_26]; decide +kernel
theorem e_26_54 {d : Nat} {h : mM} {L : mLs} {st : List Value} {x : Int32} : ev d 26 54 L (.int x :: st) h = if x = 0 then ev d 26 67 L st h else ev d 26 57 L st h := ev_if (x = 0) inferInstance rfl d_26_54 (by decide)
theorem d_26_57 : decode (cd 26) 57 = .ok (.aload_n 0, 1) := by rw [cd_26]; decide +kernel
theorem e_26_57 {d : Nat} {h : mM} {T : mLs} {x : Nat} {st : List Value} : ev d 26 57 ( some (.ref x) :: T) st h = ev d 26 58 ( some (.ref x) :: T) (.ref x :: st) h := ev_of d_26_57 rfl
theorem d_26_58 : decode (cd 26) 58 = .ok (.iload_n 1, 1) := by rw [cd_26]; decide +kernel
theorem e_26_58 {d : Nat} {h : mM} {o0 : Option Value} {T : mLs} {x : Int32} {st : List Value} : ev d 26 58 (o0 :: some (.int x) :: T) st h = ev d 26 59 (o0 :: some (.int x) :: T) (.int x :: st) h := ev_of d_26_58 rfl
theorem d_26_59 : decode (cd 26) 59 = .ok (.putfield 26, 3) := by rw [cd_26]; decide +kernel
theorem e_26_59 {d : Nat} {h : mM} {L : mLs} {st : List Value} {a : Nat} {v : Int32} : ev d 26 59 L (.int v :: .ref a :: st) h = if mK h a = 5 then ev d 26 62 L st (wI h a 6 v) else none := ev_pI d_26_59 (by decide +kernel) (by decide +kernel) (by decide +kernel)
theorem d_26_62 : decode (cd 26) 62 = .ok (.aload_n 0, 1) := by rw [cd_26]; decide +kernel
theorem e_26_62 {d : Nat} {h : mM} {T : mLs} {x : Nat} {st : List Value} : ev d 26 62 ( some (.ref x) :: T) st h = ev d 26 63 ( some (.ref x) :: T) (.ref x :: st) h := ev_of d_26_62 rfl
theorem d_26_63 : decode (cd 26) 63 = .ok (.iload_n 2, 1) := by rw [cd_26]; decide +kernel
theorem e_26_63 {d : Nat} {h : mM} {o0 o1 : Option Value} {T : mLs} {x : Int32} {st : List Value} : ev d 26 63 (o0 :: o1 :: some (.int x) :: T) st h = ev d 26 64 (o0 :: o1 :: some (.int x) :: T) (.int x :: st) h := ev_of d_26_63 rfl
theorem d_26_64 : decode (cd 26) 64 = .ok (.putfield 29, 3) := by rw [cd_26]; decide +kernel
theorem e_26_64 {d : Nat} {h : mM} {L : mLs} {st : List Value} {a : Nat} {v : Int32} : ev d 26 64 L (.int v :: .ref a :: st) h = if mK h a = 5 then ev d 26 67 L st (wI h a 7 v) else none := ev_pI d_26_64 (by decide +kernel) (by decide +kernel) (by decide +kernel)
theorem d_26_67 : decode (cd 26) 67 = .ok (.return_, 1) := by rw [cd_26]; decide +kernel
theorem e_26_67 {d : Nat} {h : mM} {L : mLs} : ev d 26 67 L [] h = some (none, h) := ev_rv d_26_67 (by decide +kernel)
-- 27: Stone.<init>
theorem cd_27 : cd 27 = prog_8_method_1_code := rfl
theorem d_27_0 : decode (cd 27) 0 = .ok (.aload_n 0, 1) := by rw [cd_27]; decide +kernel
theorem e_27_0 {d : Nat} {h : mM} {T : mLs} {x : Nat} {st : List Value} : ev d 27 0 ( some (.ref x) :: T) st h = ev d 27 1 ( some (.ref x) :: T) (.ref x :: st) h := ev_of d_27_0 rfl
theorem d_27_1 : decode (cd 27) 1 = .ok (.invokespecial 1, 3) := by rw [cd_27]; decide +kernel
theorem e_27_1 {d : Nat} {h : mM} {L : mLs} {st : List Value} {a : Nat} (hc : mCat st ≤ 8) : ev d 27 1 L (.ref a :: st) h = ev d 27 4 L st h := ev_obj (mj := 0) d_27_1 (by decide +kernel) hc
theorem d_27_4 : decode (cd 27) 4 = .ok (.aload_n 0, 1) := by rw [cd_27]; decide +kernel
theorem e_27_4 {d : Nat} {h : mM} {T : mLs} {x : Nat} {st : List Value} : ev d 27 4 ( some (.ref x) :: T) st h = ev d 27 5 ( some (.ref x) :: T) (.ref x :: st) h := ev_of d_27_4 rfl
theorem d_27_5 : decode (cd 27) 5 = .ok (.iconst 1, 1) := by rw [cd_27]; decide +kernel
theorem e_27_5 {d : Nat} {h : mM} {L : mLs} {st : List Value} : ev d 27 5 L st h = ev d 27 6 L (.int 1 :: st) h := ev_of d_27_5 rfl
theorem d_27_6 : decode (cd 27) 6 = .ok (.putfield 7, 3) := by rw [cd_27]; decide +kernel
theorem e_27_6 {d : Nat} {h : mM} {L : mLs} {st : List Value} {a : Nat} {v : Int32} : ev d 27 6 L (.int v :: .ref a :: st) h = if mK h a = 6 then ev d 27 9 L st (wI h a 0 v) else none := ev_pI d_27_6 (by decide +kernel) (by decide +kernel) (by decide +kernel)
theorem d_27_9 : decode (cd 27) 9 = .ok (.aload_n 0, 1) := by rw [cd_27]; decide +kernel
theorem e_27_9 {d : Nat} {h : mM} {T : mLs} {x : Nat} {st : List Value} : ev d 27 9 ( some (.ref x) :: T) st h = ev d 27 10 ( some (.ref x) :: T) (.ref x :: st) h := ev_of d_27_9 rfl
theorem d_27_10 : decode (cd 27) 10 = .ok (.iconst 1, 1) := by rw [cd_27]; decide +kernel
theorem e_27_10 {d : Nat} {h : mM} {L : mLs} {st : List Value} : ev d 27 10 L st h = ev d 27 11 L (.int 1 :: st) h := ev_of d_27_10 rfl
theorem d_27_11 : decode (cd 27) 11 = .ok (.putfield 13, 3) := by rw [cd_27]; decide +kernel
theorem e_27_11 {d : Nat} {h : mM} {L : mLs} {st : List Value} {a : Nat} {v : Int32} : ev d 27 11 L (.int v :: .ref a :: st) h = if mK h a = 6 then ev d 27 14 L st (wI h a 1 v) else none := ev_pI d_27_11 (by decide +kernel) (by decide +kernel) (by decide +kernel)
theorem d_27_14 : decode (cd 27) 14 = .ok (.aload_n 0, 1) := by rw [cd_27]; decide +kernel
theorem e_27_14 {d : Nat} {h : mM} {T : mLs} {x : Nat} {st : List Value} : ev d 27 14 ( some (.ref x) :: T) st h = ev d 27 15 ( some (.ref x) :: T) (.ref x :: st) h := ev_of d_27_14 rfl
theorem d_27_15 : decode (cd 27) 15 = .ok (.iconst 1, 1) := by rw [cd_27]; decide +kernel
theorem e_27_15 {d : Nat} {h : mM} {L : mLs} {st : List Value} : ev d 27 15 L st h = ev d 27 16 L (.int 1 :: st) h := ev_of d_27_15 rfl
theorem d_27_16 : decode (cd 27) 16 = .ok (.putfield 16, 3) := by rw [cd_27]; decide +kernel
theorem e_27_16 {d : Nat} {h : mM} {L : mLs} {st : List Value} {a : Nat} {v : Int32} : ev d 27 16 L (.int v :: .ref a :: st) h = if mK h a = 6 then ev d 27 19 L st (wI h a 2 v) else none := ev_pI d_27_16 (by decide +kernel) (by decide +kernel) (by decide +kernel)
theorem d_27_19 : decode (cd 27) 19 = .ok (.aload_n 0, 1) := by rw [cd_27]; decide +kernel
theorem e_27_19 {d : Nat} {h : mM} {T : mLs} {x : Nat} {st : List Value} : ev d 27 19 ( some (.ref x) :: T) st h = ev d 27 20 ( some (.ref x) :: T) (.ref x :: st) h := ev_of d_27_19 rfl
theorem d_27_20 : decode (cd 27) 20 = .ok (.iconst 1, 1) := by rw [cd_27]; decide +kernel
theorem e_27_20 {d : Nat} {h : mM} {L : mLs} {st : List Value} : ev d 27 20 L st h = ev d 27 21 L (.int 1 :: st) h := ev_of d_27_20 rfl
theorem d_27_21 : decode (cd 27) 21 = .ok (.putfield 19, 3) := by rw [cd_27]; decide +kernel
theorem e_27_21 {d : Nat} {h : mM} {L : mLs} {st : List Value} {a : Nat} {v : Int32} : ev d 27 21 L (.int v :: .ref a :: st) h = if mK h a = 6 then ev d 27 24 L st (wI h a 3 v) else none := ev_pI d_27_21 (by decide +kernel) (by decide +kernel) (by decide +kernel)
theorem d_27_24 : decode (cd 27) 24 = .ok (.aload_n 0, 1) := by rw [cd_27]; decide +kernel
theorem e_27_24 {d : Nat} {h : mM} {T : mLs} {x : Nat} {st : List Value} : ev d 27 24 ( some (.ref x) :: T) st h = ev d 27 25 ( some (.ref x) :: T) (.ref x :: st) h := ev_of d_27_24 rfl
theorem d_27_25 : decode (cd 27) 25 = .ok (.iconst 1, 1) := by rw [cd_27]; decide +kernel
theorem e_27_25 {d : Nat} {h : mM} {L : mLs} {st : List Value} : ev d 27 25 L st h = ev d 27 26 L (.int 1 :: st) h := ev_of d_27_25 rfl
theorem d_27_26 : decode (cd 27) 26 = .ok (.putfield 22, 3) := by rw [cd_27]; decide +kernel
theorem e_27_26 {d : Nat} {h : mM} {L : mLs} {st : List Value} {a : Nat} {v : Int32} : ev d 27 26 L (.int v :: .ref a :: st) h = if mK h a = 6 ∧ mZO v = true then ev d 27 29 L st (wI h a 4 v) else none := ev_pZ d_27_26 (by decide +kernel) (by decide +kernel) (by decide +kernel)
theorem d_27_29 : decode (cd 27) 29 = .ok (.return_, 1) := by rw [cd_27]; decide +kernel
theorem e_27_29 {d : Nat} {h : mM} {L : mLs} : ev d 27 29 L [] h = some (none, h) := ev_rv d_27_29 (by decide +kernel)
-- 28: Stone.runs
theorem cd_28 : cd 28 = prog_8_method_2_code := rfl
theorem d_28_0 : decode (cd 28) 0 = .ok (.aload_n 0, 1) := by rw [cd_28]; decide +kernel
theorem e_28_0 {d : Nat} {h : mM} {T : mLs} {x : Nat} {st : List Value} : ev d 28 0 ( some (.ref x) :: T) st h = ev d 28 1 ( some (.ref x) :: T) (.ref x :: st) h := ev_of d_28_0 rfl
theorem d_28_1 : decode (cd 28) 1 = .ok (.getfield 22, 3) := by rw [cd_28]; decide +kernel
theorem e_28_1 {d : Nat} {h : mM} {L : mLs} {st : List Value} {a : Nat} : ev d 28 1 L (.ref a :: st) h = if mK h a = 6 then ev d 28 4 L (.int (mI h a 4) :: st) h else none := ev_gI d_28_1 (by decide +kernel) (by decide +kernel)
theorem d_28_4 : decode (cd 28) 4 = .ok (.ifCond .eq 33, 3) := by rw [cd_28]; decide +kernel
theorem e_28_4 {d : Nat} {h : mM} {L : mLs} {st : List Value} {x : Int32} : ev d 28 4 L (.int x :: st) h = if x = 0 then ev d 28 37 L st h else ev d 28 7 L st h := ev_if (x = 0) inferInstance rfl d_28_4 (by decide)
theorem d_28_7 : decode (cd 28) 7 = .ok (.iload_n 1, 1) := by rw [cd_28]; decide +kernel
theorem e_28_7 {d : Nat} {h : mM} {o0 : Option Value} {T : mLs} {x : Int32} {st : List Value} : ev d 28 7 (o0 :: some (.int x) :: T) st h = ev d 28 8 (o0 :: some (.int x) :: T) (.int x :: st) h := ev_of d_28_7 rfl
theorem d_28_8 : decode (cd 28) 8 = .ok (.aload_n 0, 1) := by rw [cd_28]; decide +kernel
theorem e_28_8 {d : Nat} {h : mM} {T : mLs} {x : Nat} {st : List Value} : ev d 28 8 ( some (.ref x) :: T) st h = ev d 28 9 ( some (.ref x) :: T) (.ref x :: st) h := ev_of d_28_8 rfl
theorem d_28_9 : decode (cd 28) 9 = .ok (.getfield 7, 3) := by rw [cd_28]; decide +kernel
theorem e_28_9 {d : Nat} {h : mM} {L : mLs} {st : List Value} {a : Nat} : ev d 28 9 L (.ref a :: st) h = if mK h a = 6 then ev d 28 12 L (.int (mI h a 0) :: st) h else none := ev_gI d_28_9 (by decide +kernel) (by decide +kernel)
theorem d_28_12 : decode (cd 28) 12 = .ok (.if_icmp .lt 25, 3) := by rw [cd_28]; decide +kernel
theorem e_28_12 {d : Nat} {h : mM} {L : mLs} {st : List Value} {x y : Int32} : ev d 28 12 L (.int y :: .int x :: st) h = if x < y then ev d 28 37 L st h else ev d 28 15 L st h := ev_ic (x < y) inferInstance rfl d_28_12 (by decide)
theorem d_28_15 : decode (cd 28) 15 = .ok (.iload_n 2, 1) := by rw [cd_28]; decide +kernel
theorem e_28_15 {d : Nat} {h : mM} {o0 o1 : Option Value} {T : mLs} {x : Int32} {st : List Value} : ev d 28 15 (o0 :: o1 :: some (.int x) :: T) st h = ev d 28 16 (o0 :: o1 :: some (.int x) :: T) (.int x :: st) h := ev_of d_28_15 rfl
theorem d_28_16 : decode (cd 28) 16 = .ok (.aload_n 0, 1) := by rw [cd_28]; decide +kernel
theorem e_28_16 {d : Nat} {h : mM} {T : mLs} {x : Nat} {st : List Value} : ev d 28 16 ( some (.ref x) :: T) st h = ev d 28 17 ( some (.ref x) :: T) (.ref x :: st) h := ev_of d_28_16 rfl
theorem d_28_17 : decode (cd 28) 17 = .ok (.getfield 13, 3) := by rw [cd_28]; decide +kernel
theorem e_28_17 {d : Nat} {h : mM} {L : mLs} {st : List Value} {a : Nat} : ev d 28 17 L (.ref a :: st) h = if mK h a = 6 then ev d 28 20 L (.int (mI h a 1) :: st) h else none := ev_gI d_28_17 (by decide +kernel) (by decide +kernel)
theorem d_28_20 : decode (cd 28) 20 = .ok (.if_icmp .lt 17, 3) := by rw [cd_28]; decide +kernel
theorem e_28_20 {d : Nat} {h : mM} {L : mLs} {st : List Value} {x y : Int32} : ev d 28 20 L (.int y :: .int x :: st) h = if x < y then ev d 28 37 L st h else ev d 28 23 L st h := ev_ic (x < y) inferInstance rfl d_28_20 (by decide)
theorem d_28_23 : decode (cd 28) 23 = .ok (.iload_n 2, 1) := by rw [cd_28]; decide +kernel
theorem e_28_23 {d : Nat} {h : mM} {o0 o1 : Option Value} {T : mLs} {x : Int32} {st : List Value} : ev d 28 23 (o0 :: o1 :: some (.int x) :: T) st h = ev d 28 24 (o0 :: o1 :: some (.int x) :: T) (.int x :: st) h := ev_of d_28_23 rfl
theorem d_28_24 : decode (cd 28) 24 = .ok (.aload_n 0, 1) := by rw [cd_28]; decide +kernel
theorem e_28_24 {d : Nat} {h : mM} {T : mLs} {x : Nat} {st : List Value} : ev d 28 24 ( some (.ref x) :: T) st h = ev d 28 25 ( some (.ref x) :: T) (.ref x :: st) h := ev_of d_28_24 rfl
theorem d_28_25 : decode (cd 28) 25 = .ok (.getfield 13, 3) := by rw [cd_28]; decide +kernel
theorem e_28_25 {d : Nat} {h : mM} {L : mLs} {st : List Value} {a : Nat} : ev d 28 25 L (.ref a :: st) h = if mK h a = 6 then ev d 28 28 L (.int (mI h a 1) :: st) h else none := ev_gI d_28_25 (by decide +kernel) (by decide +kernel)
theorem d_28_28 : decode (cd 28) 28 = .ok (.isub, 1) := by rw [cd_28]; decide +kernel
theorem e_28_28 {d : Nat} {h : mM} {L : mLs} {st : List Value} {x y : Int32} : ev d 28 28 L (.int y :: .int x :: st) h = ev d 28 29 L (.int (x - y) :: st) h := ev_of d_28_28 rfl
theorem d_28_29 : decode (cd 28) 29 = .ok (.iload_n 3, 1) := by rw [cd_28]; decide +kernel
theorem e_28_29 {d : Nat} {h : mM} {o0 o1 o2 : Option Value} {T : mLs} {x : Int32} {st : List Value} : ev d 28 29 (o0 :: o1 :: o2 :: some (.int x) :: T) st h = ev d 28 30 (o0 :: o1 :: o2 :: some (.int x) :: T) (.int x :: st) h := ev_of d_28_29 rfl
theorem d_28_30 : decode (cd 28) 30 = .ok (.if_icmp .lt 7, 3) := by rw [cd_28]; decide +kernel
theorem e_28_30 {d : Nat} {h : mM} {L : mLs} {st : List Value} {x y : Int32} : ev d 28 30 L (.int y :: .int x :: st) h = if x < y then ev d 28 37 L st h else ev d 28 33 L st h := ev_ic (x < y) inferInstance rfl d_28_30 (by decide)
theorem d_28_33 : decode (cd 28) 33 = .ok (.iconst 1, 1) := by rw [cd_28]; decide +kernel
theorem e_28_33 {d : Nat} {h : mM} {L : mLs} {st : List Value} : ev d 28 33 L st h = ev d 28 34 L (.int 1 :: st) h := ev_of d_28_33 rfl
theorem d_28_34 : decode (cd 28) 34 = .ok (.goto 4, 3) := by rw [cd_28]; decide +kernel
theorem e_28_34 {d : Nat} {h : mM} {L : mLs} {st : List Value} : ev d 28 34 L st h = ev d 28 38 L st h := ev_go d_28_34 (by decide)
theorem d_28_37 : decode (cd 28) 37 = .ok (.iconst 0, 1) := by rw [cd_28]; decide +kernel
theorem e_28_37 {d : Nat} {h : mM} {L : mLs} {st : List Value} : ev d 28 37 L st h = ev d 28 38 L (.int 0 :: st) h := ev_of d_28_37 rfl
theorem d_28_38 : decode (cd 28) 38 = .ok (.ireturn, 1) := by rw [cd_28]; decide +kernel
theorem e_28_38 {d : Nat} {h : mM} {L : mLs} {v : Int32} : ev d 28 38 L [.int v] h = if mZO v = true then some (some (.int v), h) else none := ev_rz d_28_38 (by decide +kernel)
-- 29: Stone.grinds
theorem cd_29 : cd 29 = prog_8_method_3_code := rfl
theorem d_29_0 : decode (cd 29) 0 = .ok (.iload_n 1, 1) := by rw [cd_29]; decide +kernel
theorem e_29_0 {d : Nat} {h : mM} {o0 : Option Value} {T : mLs} {x : Int32} {st : List Value} : ev d 29 0 (o0 :: some (.int x) :: T) st h = ev d 29 1 (o0 :: some (.int x) :: T) (.int x :: st) h := ev_of d_29_0 rfl
theorem d_29_1 : decode (cd 29) 1 = .ok (.aload_n 0, 1) := by rw [cd_29]; decide +kernel
theorem e_29_1 {d : Nat} {h : mM} {T : mLs} {x : Nat} {st : List Value} : ev d 29 1 ( some (.ref x) :: T) st h = ev d 29 2 ( some (.ref x) :: T) (.ref x :: st) h := ev_of d_29_1 rfl
theorem d_29_2 : decode (cd 29) 2 = .ok (.getfield 16, 3) := by rw [cd_29]; decide +kernel
theorem e_29_2 {d : Nat} {h : mM} {L : mLs} {st : List Value} {a : Nat} : ev d 29 2 L (.ref a :: st) h = if mK h a = 6 then ev d 29 5 L (.int (mI h a 2) :: st) h else none := ev_gI d_29_2 (by decide +kernel) (by decide +kernel)
theorem d_29_5 : decode (cd 29) 5 = .ok (.imul, 1) := by rw [cd_29]; decide +kernel
theorem e_29_5 {d : Nat} {h : mM} {L : mLs} {st : List Value} {x y : Int32} : ev d 29 5 L (.int y :: .int x :: st) h = ev d 29 6 L (.int (x * y) :: st) h := ev_of d_29_5 rfl
theorem d_29_6 : decode (cd 29) 6 = .ok (.aload_n 0, 1) := by rw [cd_29]; decide +kernel
theorem e_29_6 {d : Nat} {h : mM} {T : mLs} {x : Nat} {st : List Value} : ev d 29 6 ( some (.ref x) :: T) st h = ev d 29 7 ( some (.ref x) :: T) (.ref x :: st) h := ev_of d_29_6 rfl
theorem d_29_7 : decode (cd 29) 7 = .ok (.getfield 19, 3) := by rw [cd_29]; decide +kernel
theorem e_29_7 {d : Nat} {h : mM} {L : mLs} {st : List Value} {a : Nat} : ev d 29 7 L (.ref a :: st) h = if mK h a = 6 then ev d 29 10 L (.int (mI h a 3) :: st) h else none := ev_gI d_29_7 (by decide +kernel) (by decide +kernel)
theorem d_29_10 : decode (cd 29) 10 = .ok (.invokestatic 26, 3) := by rw [cd_29]; decide +kernel
theorem e_29_10 {d : Nat} {h : mM} {L : mLs} {st : List Value} {x y : Int32} (hc : mCat st ≤ 8) : ev d 29 10 L (.int y :: .int x :: st) h = ev d 29 13 L (.int (if y < x then y else x) :: st) h := ev_min (mj := 0) d_29_10 (by decide +kernel) hc
theorem d_29_13 : decode (cd 29) 13 = .ok (.ireturn, 1) := by rw [cd_29]; decide +kernel
theorem e_29_13 {d : Nat} {h : mM} {L : mLs} {v : Int32} : ev d 29 13 L [.int v] h = some (some (.int v), h) := ev_ri d_29_13 (by decide +kernel)
-- 30: Tides.<init>
theorem cd_30 : cd 30 = prog_9_method_1_code := rfl
theorem d_30_0 : decode (cd 30) 0 = .ok (.aload_n 0, 1) := by rw [cd_30]; decide +kernel
theorem e_30_0 {d : Nat} {h : mM} {T : mLs} {x : Nat} {st : List Value} : ev d 30 0 ( some (.ref x) :: T) st h = ev d 30 1 ( some (.ref x) :: T) (.ref x :: st) h := ev_of d_30_0 rfl
theorem d_30_1 : decode (cd 30) 1 = .ok (.invokespecial 3, 3) := by rw [cd_30]; decide +kernel
theorem e_30_1 {d : Nat} {h : mM} {L : mLs} {st : List Value} {a : Nat} (hc : mCat st ≤ 8) : ev d 30 1 L (.ref a :: st) h = ev d 30 4 L st h := ev_obj (mj := 0) d_30_1 (by decide +kernel) hc
theorem d_30_4 : decode (cd 30) 4 = .ok (.aload_n 0, 1) := by rw [cd_30]; decide +kernel
theorem e_30_4 {d : Nat} {h : mM} {T : mLs} {x : Nat} {st : List Value} : ev d 30 4 ( some (.ref x) :: T) st h = ev d 30 5 ( some (.ref x) :: T) (.ref x :: st) h := ev_of d_30_4 rfl
theorem d_30_5 : decode (cd 30) 5 = .ok (.bipush 24, 2) := by rw [cd_30]; decide +kernel
theorem e_30_5 {d : Nat} {h : mM} {L : mLs} {st : List Value} : ev d 30 5 L st h = ev d 30 7 L (.int 24 :: st) h := ev_of d_30_5 rfl
theorem d_30_7 : decode (cd 30) 7 = .ok (.newarray .int, 2) := by rw [cd_30]; decide +kernel
theorem e_30_7 {d : Nat} {h : mM} {L : mLs} {st : List Value} {n : Int32} (hn : ¬ n < 0) (h1 : n.toNatClampNeg ≤ 1000) : ev d 30 7 L (.int n :: st) h = ev d 30 9 L (.ref (mN h) :: st) (wN h 11 n.toNatClampNeg) := ev_na d_30_7 (by decide) hn h1
theorem d_30_9 : decode (cd 30) 9 = .ok (.putfield 9, 3) := by rw [cd_30]; decide +kernel
theorem e_30_9 {d : Nat} {h : mM} {L : mLs} {st : List Value} {a b : Nat} : ev d 30 9 L (.ref b :: .ref a :: st) h = if mK h a = 7 then ev d 30 12 L st (wR h a 0 (some b)) else none := ev_pR d_30_9 (by decide +kernel) (by decide +kernel) (by decide +kernel)
theorem d_30_12 : decode (cd 30) 12 = .ok (.aload_n 0, 1) := by rw [cd_30]; decide +kernel
theorem e_30_12 {d : Nat} {h : mM} {T : mLs} {x : Nat} {st : List Value} : ev d 30 12 ( some (.ref x) :: T) st h = ev d 30 13 ( some (.ref x) :: T) (.ref x :: st) h := ev_of d_30_12 rfl
theorem d_30_13 : decode (cd 30) 13 = .ok (.bipush 12, 2) := by rw [cd_30]; decide +kernel
theorem e_30_13 {d : Nat} {h : mM} {L : mLs} {st : List Value} : ev d 30 13 L st h = ev d 30 15 L (.int 12 :: st) h := ev_of d_30_13 rfl
theorem d_30_15 : decode (cd 30) 15 = .ok (.putfield 15, 3) := by rw [cd_30]; decide +kernel
theorem e_30_15 {d : Nat} {h : mM} {L : mLs} {st : List Value} {a : Nat} {v : Int32} : ev d 30 15 L (.int v :: .ref a :: st) h = if mK h a = 7 then ev d 30 18 L st (wI h a 1 v) else none := ev_pI d_30_15 (by decide +kernel) (by decide +kernel) (by decide +kernel)
theorem d_30_18 : decode (cd 30) 18 = .ok (.iconst 0, 1) := by rw [cd_30]; decide +kernel
theorem e_30_18 {d : Nat} {h : mM} {L : mLs} {st : List Value} : ev d 30 18 L st h = ev d 30 19 L (.int 0 :: st) h := ev_of d_30_18 rfl
theorem d_30_19 : decode (cd 30) 19 = .ok (.istore_n 1, 1) := by rw [cd_30]; decide +kernel
theorem e_30_19 {d : Nat} {h : mM} {o0 o1 : Option Value} {T : mLs} {x : Int32} {st : List Value} (hl : mLong o0 = false) : ev d 30 19 (o0 :: o1 :: T) (.int x :: st) h = ev d 30 20 (o0 :: some (.int x) :: T) st h := ev_st_in d_30_19 (by decide +kernel) (mS1_s (j := 0) hl)
theorem d_30_20 : decode (cd 30) 20 = .ok (.iload_n 1, 1) := by rw [cd_30]; decide +kernel
theorem e_30_20 {d : Nat} {h : mM} {o0 : Option Value} {T : mLs} {x : Int32} {st : List Value} : ev d 30 20 (o0 :: some (.int x) :: T) st h = ev d 30 21 (o0 :: some (.int x) :: T) (.int x :: st) h := ev_of d_30_20 rfl
theorem d_30_21 : decode (cd 30) 21 = .ok (.bipush 24, 2) := by rw [cd_30]; decide +kernel
theorem e_30_21 {d : Nat} {h : mM} {L : mLs} {st : List Value} : ev d 30 21 L st h = ev d 30 23 L (.int 24 :: st) h := ev_of d_30_21 rfl
theorem d_30_23 : decode (cd 30) 23 = .ok (.if_icmp .ge 32, 3) := by rw [cd_30]; decide +kernel
theorem e_30_23 {d : Nat} {h : mM} {L : mLs} {st : List Value} {x y : Int32} : ev d 30 23 L (.int y :: .int x :: st) h = if y ≤ x then ev d 30 55 L st h else ev d 30 26 L st h := ev_ic (y ≤ x) inferInstance rfl d_30_23 (by decide)
theorem d_30_26 : decode (cd 30) 26 = .ok (.aload_n 0, 1) := by rw [cd_30]; decide +kernel
theorem e_30_26 {d : Nat} {h : mM} {T : mLs} {x : Nat} {st : List Value} : ev d 30 26 ( some (.ref x) :: T) st h = ev d 30 27 ( some (.ref x) :: T) (.ref x :: st) h := ev_of d_30_26 rfl
theorem d_30_27 : decode (cd 30) 27 = .ok (.getfield 9, 3) := by rw [cd_30]; decide +kernel
theorem e_30_27 {d : Nat} {h : mM} {L : mLs} {st : List Value} {a : Nat} : ev d 30 27 L (.ref a :: st) h = if mK h a = 7 then oB (mR h a 0) (fun b => ev d 30 30 L (.ref b :: st) h) else none := ev_gR d_30_27 (by decide +kernel) (by decide +kernel)
theorem d_30_30 : decode (cd 30) 30 = .ok (.iload_n 1, 1) := by rw [cd_30]; decide +kernel
theorem e_30_30 {d : Nat} {h : mM} {o0 : Option Value} {T : mLs} {x : Int32} {st : List Value} : ev d 30 30 (o0 :: some (.int x) :: T) st h = ev d 30 31 (o0 :: some (.int x) :: T) (.int x :: st) h := ev_of d_30_30 rfl
theorem d_30_31 : decode (cd 30) 31 = .ok (.iconst 0, 1) := by rw [cd_30]; decide +kernel
theorem e_30_31 {d : Nat} {h : mM} {L : mLs} {st : List Value} : ev d 30 31 L st h = ev d 30 32 L (.int 0 :: st) h := ev_of d_30_31 rfl
theorem d_30_32 : decode (cd 30) 32 = .ok (.bipush 100, 2) := by rw [cd_30]; decide +kernel
theorem e_30_32 {d : Nat} {h : mM} {L : mLs} {st : List Value} : ev d 30 32 L st h = ev d 30 34 L (.int 100 :: st) h := ev_of d_30_32 rfl
theorem d_30_34 : decode (cd 30) 34 = .ok (.bipush 10, 2) := by rw [cd_30]; decide +kernel
theorem e_30_34 {d : Nat} {h : mM} {L : mLs} {st : List Value} : ev d 30 34 L st h = ev d 30 36 L (.int 10 :: st) h := ev_of d_30_34 rfl
theorem d_30_36 : decode (cd 30) 36 = .ok (.iload_n 1, 1) := by rw [cd_30]; decide +kernel
theorem e_30_36 {d : Nat} {h : mM} {o0 : Option Value} {T : mLs} {x : Int32} {st : List Value} : ev d 30 36 (o0 :: some (.int x) :: T) st h = ev d 30 37 (o0 :: some (.int x) :: T) (.int x :: st) h := ev_of d_30_36 rfl
theorem d_30_37 : decode (cd 30) 37 = .ok (.bipush 6, 2) := by rw [cd_30]; decide +kernel
theorem e_30_37 {d : Nat} {h : mM} {L : mLs} {st : List Value} : ev d 30 37 L st h = ev d 30 39 L (.int 6 :: st) h := ev_of d_30_37 rfl
theorem d_30_39 : decode (cd 30) 39 = .ok (.isub, 1) := by rw [cd_30]; decide +kernel
theorem e_30_39 {d : Nat} {h : mM} {L : mLs} {st : List Value} {x y : Int32} : ev d 30 39 L (.int y :: .int x :: st) h = ev d 30 40 L (.int (x - y) :: st) h := ev_of d_30_39 rfl
theorem d_30_40 : decode (cd 30) 40 = .ok (.invokestatic 19, 3) := by rw [cd_30]; decide +kernel
theorem e_30_40 {d : Nat} {h : mM} {L : mLs} {st : List Value} {x : Int32} (hc : mCat st ≤ 8) : ev d 30 40 L (.int x :: st) h = ev d 30 43 L (.int (if 0 ≤ x then x else 0 - x) :: st) h := ev_abs (mj := 0) d_30_40 (by decide +kernel) hc
theorem d_30_43 : decode (cd 30) 43 = .ok (.imul, 1) := by rw [cd_30]; decide +kernel
theorem e_30_43 {d : Nat} {h : mM} {L : mLs} {st : List Value} {x y : Int32} : ev d 30 43 L (.int y :: .int x :: st) h = ev d 30 44 L (.int (x * y) :: st) h := ev_of d_30_43 rfl
theorem d_30_44 : decode (cd 30) 44 = .ok (.isub, 1) := by rw [cd_30]; decide +kernel
theorem e_30_44 {d : Nat} {h : mM} {L : mLs} {st : List Value} {x y : Int32} : ev d 30 44 L (.int y :: .int x :: st) h = ev d 30 45 L (.int (x - y) :: st) h := ev_of d_30_44 rfl
theorem d_30_45 : decode (cd 30) 45 = .ok (.invokestatic 25, 3) := by rw [cd_30]; decide +kernel
theorem e_30_45 {d : Nat} {h : mM} {L : mLs} {st : List Value} {x y : Int32} (hc : mCat st ≤ 8) : ev d 30 45 L (.int y :: .int x :: st) h = ev d 30 48 L (.int (if x < y then y else x) :: st) h := ev_max (mj := 0) d_30_45 (by decide +kernel) hc
theorem d_30_48 : decode (cd 30) 48 = .ok (.iastore, 1) := by rw [cd_30]; decide +kernel
theorem e_30_48 {d : Nat} {h : mM} {L : mLs} {st : List Value} {a : Nat} {i v : Int32} : ev d 30 48 L (.int v :: .int i :: .ref a :: st) h = if mK h a = 11 ∧ ixOK i (mL h a) = true then ev d 30 49 L st (wI h a i.toNatClampNeg v) else none := ev_is d_30_48
theorem d_30_49 : decode (cd 30) 49 = .ok (.iinc 1 1, 3) := by rw [cd_30]; decide +kernel
theorem e_30_49 {d : Nat} {h : mM} {o0 : Option Value} {T : mLs} {x : Int32} {st : List Value} (hl : mLong o0 = false) : ev d 30 49 (o0 :: some (.int x) :: T) st h = ev d 30 52 (o0 :: some (.int (x + 1)) :: T) st h := ev_inc d_30_49 (by decide +kernel) rfl rfl (mS1_s (j := 0) hl)
theorem d_30_52 : decode (cd 30) 52 = .ok (.goto (-32), 3) := by rw [cd_30]; decide +kernel
theorem e_30_52 {d : Nat} {h : mM} {L : mLs} {st : List Value} : ev d 30 52 L st h = ev d 30 20 L st h := ev_go d_30_52 (by decide)
theorem d_30_55 : decode (cd 30) 55 = .ok (.return_, 1) := by rw [cd_30]; decide +kernel
theorem e_30_55 {d : Nat} {h : mM} {L : mLs} : ev d 30 55 L [] h = some (none, h) := ev_rv d_30_55 (by decide +kernel)
-- 31: Tides.at
theorem cd_31 : cd 31 = prog_9_method_2_code := rfl
theorem d_31_0 : decode (cd 31) 0 = .ok (.aload_n 0, 1) := by rw [cd_31]; decide +kernel
theorem e_31_0 {d : Nat} {h : mM} {T : mLs} {x : Nat} {st : List Value} : ev d 31 0 ( some (.ref x) :: T) st h = ev d 31 1 ( some (.ref x) :: T) (.ref x :: st) h := ev_of d_31_0 rfl
theorem d_31_1 : decode (cd 31) 1 = .ok (.getfield 15, 3) := by rw [cd_31]; decide +kernel
theorem e_31_1 {d : Nat} {h : mM} {L : mLs} {st : List Value} {a : Nat} : ev d 31 1 L (.ref a :: st) h = if mK h a = 7 then ev d 31 4 L (.int (mI h a 1) :: st) h else none := ev_gI d_31_1 (by decide +kernel) (by decide +kernel)
theorem d_31_4 : decode (cd 31) 4 = .ok (.ifCond .le 21, 3) := by rw [cd_31]; decide +kernel
theorem e_31_4 {d : Nat} {h : mM} {L : mLs} {st : List Value} {x : Int32} : ev d 31 4 L (.int x :: st) h = if x ≤ 0 then ev d 31 25 L st h else ev d 31 7 L st h := ev_if (x ≤ 0) inferInstance rfl d_31_4 (by decide)
theorem d_31_7 : decode (cd 31) 7 = .ok (.iload_n 1, 1) := by rw [cd_31]; decide +kernel
theorem e_31_7 {d : Nat} {h : mM} {o0 : Option Value} {T : mLs} {x : Int32} {st : List Value} : ev d 31 7 (o0 :: some (.int x) :: T) st h = ev d 31 8 (o0 :: some (.int x) :: T) (.int x :: st) h := ev_of d_31_7 rfl
theorem d_31_8 : decode (cd 31) 8 = .ok (.ifCond .lt 17, 3) := by rw [cd_31]; decide +kernel
theorem e_31_8 {d : Nat} {h : mM} {L : mLs} {st : List Value} {x : Int32} : ev d 31 8 L (.int x :: st) h = if x < 0 then ev d 31 25 L st h else ev d 31 11 L st h := ev_if (x < 0) inferInstance rfl d_31_8 (by decide)
theorem d_31_11 : decode (cd 31) 11 = .ok (.aload_n 0, 1) := by rw [cd_31]; decide +kernel
theorem e_31_11 {d : Nat} {h : mM} {T : mLs} {x : Nat} {st : List Value} : ev d 31 11 ( some (.ref x) :: T) st h = ev d 31 12 ( some (.ref x) :: T) (.ref x :: st) h := ev_of d_31_11 rfl
theorem d_31_12 : decode (cd 31) 12 = .ok (.getfield 9, 3) := by rw [cd_31]; decide +kernel
theorem e_31_12 {d : Nat} {h : mM} {L : mLs} {st : List Value} {a : Nat} : ev d 31 12 L (.ref a :: st) h = if mK h a = 7 then oB (mR h a 0) (fun b => ev d 31 15 L (.ref b :: st) h) else none := ev_gR d_31_12 (by decide +kernel) (by decide +kernel)
theorem d_31_15 : decode (cd 31) 15 = .ok (.iload_n 1, 1) := by rw [cd_31]; decide +kernel
theorem e_31_15 {d : Nat} {h : mM} {o0 : Option Value} {T : mLs} {x : Int32} {st : List Value} : ev d 31 15 (o0 :: some (.int x) :: T) st h = ev d 31 16 (o0 :: some (.int x) :: T) (.int x :: st) h := ev_of d_31_15 rfl
theorem d_31_16 : decode (cd 31) 16 = .ok (.aload_n 0, 1) := by rw [cd_31]; decide +kernel
theorem e_31_16 {d : Nat} {h : mM} {T : mLs} {x : Nat} {st : List Value} : ev d 31 16 ( some (.ref x) :: T) st h = ev d 31 17 ( some (.ref x) :: T) (.ref x :: st) h := ev_of d_31_16 rfl
theorem d_31_17 : decode (cd 31) 17 = .ok (.getfield 15, 3) := by rw [cd_31]; decide +kernel
theorem e_31_17 {d : Nat} {h : mM} {L : mLs} {st : List Value} {a : Nat} : ev d 31 17 L (.ref a :: st) h = if mK h a = 7 then ev d 31 20 L (.int (mI h a 1) :: st) h else none := ev_gI d_31_17 (by decide +kernel) (by decide +kernel)
theorem d_31_20 : decode (cd 31) 20 = .ok (.irem, 1) := by rw [cd_31]; decide +kernel
theorem e_31_20 {d : Nat} {h : mM} {L : mLs} {st : List Value} {x y : Int32} : ev d 31 20 L (.int y :: .int x :: st) h = if y = 0 then none else ev d 31 21 L (.int (x - x / y * y) :: st) h := ev_rem d_31_20
theorem d_31_21 : decode (cd 31) 21 = .ok (.iaload, 1) := by rw [cd_31]; decide +kernel
theorem e_31_21 {d : Nat} {h : mM} {L : mLs} {st : List Value} {a : Nat} {i : Int32} : ev d 31 21 L (.int i :: .ref a :: st) h = if (mK h a = 11 ∨ mK h a = 19) ∧ ixOK i (mL h a) = true then ev d 31 22 L (.int (mI h a i.toNatClampNeg) :: st) h else none := ev_ia d_31_21
theorem d_31_22 : decode (cd 31) 22 = .ok (.goto 4, 3) := by rw [cd_31]; decide +kernel
theorem e_31_22 {d : Nat} {h : mM} {L : mLs} {st : List Value} : ev d 31 22 L st h = ev d 31 26 L st h := ev_go d_31_22 (by decide)
theorem d_31_25 : decode (cd 31) 25 = .ok (.iconst 0, 1) := by rw [cd_31]; decide +kernel
theorem e_31_25 {d : Nat} {h : mM} {L : mLs} {st : List Value} : ev d 31 25 L st h = ev d 31 26 L (.int 0 :: st) h := ev_of d_31_25 rfl
theorem d_31_26 : decode (cd 31) 26 = .ok (.ireturn, 1) := by rw [cd_31]; decide +kernel
theorem e_31_26 {d : Nat} {h : mM} {L : mLs} {v : Int32} : ev d 31 26 L [.int v] h = some (some (.int v), h) := ev_ri d_31_26 (by decide +kernel)
-- 32: Works.<init>
theorem cd_32 : cd 32 = prog_10_method_1_code := rfl
theorem d_32_0 : decode (cd 32) 0 = .ok (.aload_n 0, 1) := by rw [cd_32]; decide +kernel
theorem e_32_0 {d : Nat} {h : mM} {T : mLs} {x : Nat} {st : List Value} : ev d 32 0 ( some (.ref x) :: T) st h = ev d 32 1 ( some (.ref x) :: T) (.ref x :: st) h := ev_of d_32_0 rfl
theorem d_32_1 : decode (cd 32) 1 = .ok (.invokespecial 3, 3) := by rw [cd_32]; decide +kernel
theorem e_32_1 {d : Nat} {h : mM} {L : mLs} {st : List Value} {a : Nat} (hc : mCat st ≤ 8) : ev d 32 1 L (.ref a :: st) h = ev d 32 4 L st h := ev_obj (mj := 0) d_32_1 (by decide +kernel) hc
theorem d_32_4 : decode (cd 32) 4 = .ok (.aload_n 0, 1) := by rw [cd_32]; decide +kernel
theorem e_32_4 {d : Nat} {h : mM} {T : mLs} {x : Nat} {st : List Value} : ev d 32 4 ( some (.ref x) :: T) st h = ev d 32 5 ( some (.ref x) :: T) (.ref x :: st) h := ev_of d_32_4 rfl
theorem d_32_5 : decode (cd 32) 5 = .ok (.iconst 4, 1) := by rw [cd_32]; decide +kernel
theorem e_32_5 {d : Nat} {h : mM} {L : mLs} {st : List Value} : ev d 32 5 L st h = ev d 32 6 L (.int 4 :: st) h := ev_of d_32_5 rfl
theorem d_32_6 : decode (cd 32) 6 = .ok (.anewarray 9, 3) := by rw [cd_32]; decide +kernel
theorem e_32_6 {d : Nat} {h : mM} {L : mLs} {st : List Value} {n : Int32} (hn : ¬ n < 0) (h1 : n.toNatClampNeg ≤ 1000) : ev d 32 6 L (.int n :: st) h = ev d 32 9 L (.ref (mN h) :: st) (wN h 13 n.toNatClampNeg) := ev_anew d_32_6 (by decide +kernel : nGet (ow 32) 9 = some 3) (by decide) hn h1
theorem d_32_9 : decode (cd 32) 9 = .ok (.putfield 11, 3) := by rw [cd_32]; decide +kernel
theorem e_32_9 {d : Nat} {h : mM} {L : mLs} {st : List Value} {a b : Nat} : ev d 32 9 L (.ref b :: .ref a :: st) h = if mK h a = 8 then ev d 32 12 L st (wR h a 0 (some b)) else none := ev_pR d_32_9 (by decide +kernel) (by decide +kernel) (by decide +kernel)
theorem d_32_12 : decode (cd 32) 12 = .ok (.aload_n 0, 1) := by rw [cd_32]; decide +kernel
theorem e_32_12 {d : Nat} {h : mM} {T : mLs} {x : Nat} {st : List Value} : ev d 32 12 ( some (.ref x) :: T) st h = ev d 32 13 ( some (.ref x) :: T) (.ref x :: st) h := ev_of d_32_12 rfl
theorem d_32_13 : decode (cd 32) 13 = .ok (.iconst 4, 1) := by rw [cd_32]; decide +kernel
theorem e_32_13 {d : Nat} {h : mM} {L : mLs} {st : List Value} : ev d 32 13 L st h = ev d 32 14 L (.int 4 :: st) h := ev_of d_32_13 rfl
theorem d_32_14 : decode (cd 32) 14 = .ok (.anewarray 17, 3) := by rw [cd_32]; decide +kernel
theorem e_32_14 {d : Nat} {h : mM} {L : mLs} {st : List Value} {n : Int32} (hn : ¬ n < 0) (h1 : n.toNatClampNeg ≤ 1000) : ev d 32 14 L (.int n :: st) h = ev d 32 17 L (.ref (mN h) :: st) (wN h 14 n.toNatClampNeg) := ev_anew d_32_14 (by decide +kernel : nGet (ow 32) 17 = some 0) (by decide) hn h1
theorem d_32_17 : decode (cd 32) 17 = .ok (.putfield 19, 3) := by rw [cd_32]; decide +kernel
theorem e_32_17 {d : Nat} {h : mM} {L : mLs} {st : List Value} {a b : Nat} : ev d 32 17 L (.ref b :: .ref a :: st) h = if mK h a = 8 then ev d 32 20 L st (wR h a 1 (some b)) else none := ev_pR d_32_17 (by decide +kernel) (by decide +kernel) (by decide +kernel)
theorem d_32_20 : decode (cd 32) 20 = .ok (.aload_n 0, 1) := by rw [cd_32]; decide +kernel
theorem e_32_20 {d : Nat} {h : mM} {T : mLs} {x : Nat} {st : List Value} : ev d 32 20 ( some (.ref x) :: T) st h = ev d 32 21 ( some (.ref x) :: T) (.ref x :: st) h := ev_of d_32_20 rfl
theorem d_32_21 : decode (cd 32) 21 = .ok (.iconst 4, 1) := by rw [cd_32]; decide +kernel
theorem e_32_21 {d : Nat} {h : mM} {L : mLs} {st : List Value} : ev d 32 21 L st h = ev d 32 22 L (.int 4 :: st) h := ev_of d_32_21 rfl
theorem d_32_22 : decode (cd 32) 22 = .ok (.anewarray 23, 3) := by rw [cd_32]; decide +kernel
theorem e_32_22 {d : Nat} {h : mM} {L : mLs} {st : List Value} {n : Int32} (hn : ¬ n < 0) (h1 : n.toNatClampNeg ≤ 1000) : ev d 32 22 L (.int n :: st) h = ev d 32 25 L (.ref (mN h) :: st) (wN h 15 n.toNatClampNeg) := ev_anew d_32_22 (by decide +kernel : nGet (ow 32) 23 = some 2) (by decide) hn h1
theorem d_32_25 : decode (cd 32) 25 = .ok (.putfield 25, 3) := by rw [cd_32]; decide +kernel
theorem e_32_25 {d : Nat} {h : mM} {L : mLs} {st : List Value} {a b : Nat} : ev d 32 25 L (.ref b :: .ref a :: st) h = if mK h a = 8 then ev d 32 28 L st (wR h a 2 (some b)) else none := ev_pR d_32_25 (by decide +kernel) (by decide +kernel) (by decide +kernel)
theorem d_32_28 : decode (cd 32) 28 = .ok (.aload_n 0, 1) := by rw [cd_32]; decide +kernel
theorem e_32_28 {d : Nat} {h : mM} {T : mLs} {x : Nat} {st : List Value} : ev d 32 28 ( some (.ref x) :: T) st h = ev d 32 29 ( some (.ref x) :: T) (.ref x :: st) h := ev_of d_32_28 rfl
theorem d_32_29 : decode (cd 32) 29 = .ok (.iconst 4, 1) := by rw [cd_32]; decide +kernel
theorem e_32_29 {d : Nat} {h : mM} {L : mLs} {st : List Value} : ev d 32 29 L st h = ev d 32 30 L (.int 4 :: st) h := ev_of d_32_29 rfl
theorem d_32_30 : decode (cd 32) 30 = .ok (.newarray .int, 2) := by rw [cd_32]; decide +kernel
theorem e_32_30 {d : Nat} {h : mM} {L : mLs} {st : List Value} {n : Int32} (hn : ¬ n < 0) (h1 : n.toNatClampNeg ≤ 1000) : ev d 32 30 L (.int n :: st) h = ev d 32 32 L (.ref (mN h) :: st) (wN h 11 n.toNatClampNeg) := ev_na d_32_30 (by decide) hn h1
theorem d_32_32 : decode (cd 32) 32 = .ok (.putfield 29, 3) := by rw [cd_32]; decide +kernel
theorem e_32_32 {d : Nat} {h : mM} {L : mLs} {st : List Value} {a b : Nat} : ev d 32 32 L (.ref b :: .ref a :: st) h = if mK h a = 8 then ev d 32 35 L st (wR h a 3 (some b)) else none := ev_pR d_32_32 (by decide +kernel) (by decide +kernel) (by decide +kernel)
theorem d_32_35 : decode (cd 32) 35 = .ok (.aload_n 0, 1) := by rw [cd_32]; decide +kernel
theorem e_32_35 {d : Nat} {h : mM} {T : mLs} {x : Nat} {st : List Value} : ev d 32 35 ( some (.ref x) :: T) st h = ev d 32 36 ( some (.ref x) :: T) (.ref x :: st) h := ev_of d_32_35 rfl
theorem d_32_36 : decode (cd 32) 36 = .ok (.iconst 0, 1) := by rw [cd_32]; decide +kernel
theorem e_32_36 {d : Nat} {h : mM} {L : mLs} {st : List Value} : ev d 32 36 L st h = ev d 32 37 L (.int 0 :: st) h := ev_of d_32_36 rfl
theorem d_32_37 : decode (cd 32) 37 = .ok (.putfield 33, 3) := by rw [cd_32]; decide +kernel
theorem e_32_37 {d : Nat} {h : mM} {L : mLs} {st : List Value} {a : Nat} {v : Int32} : ev d 32 37 L (.int v :: .ref a :: st) h = if mK h a = 8 then ev d 32 40 L st (wI h a 4 v) else none := ev_pI d_32_37 (by decide +kernel) (by decide +kernel) (by decide +kernel)
theorem d_32_40 : decode (cd 32) 40 = .ok (.aload_n 0, 1) := by rw [cd_32]; decide +kernel
theorem e_32_40 {d : Nat} {h : mM} {T : mLs} {x : Nat} {st : List Value} : ev d 32 40 ( some (.ref x) :: T) st h = ev d 32 41 ( some (.ref x) :: T) (.ref x :: st) h := ev_of d_32_40 rfl
theorem d_32_41 : decode (cd 32) 41 = .ok (.iconst 0, 1) := by rw [cd_32]; decide +kernel
theorem e_32_41 {d : Nat} {h : mM} {L : mLs} {st : List Value} : ev d 32 41 L st h = ev d 32 42 L (.int 0 :: st) h := ev_of d_32_41 rfl
theorem d_32_42 : decode (cd 32) 42 = .ok (.putfield 37, 3) := by rw [cd_32]; decide +kernel
theorem e_32_42 {d : Nat} {h : mM} {L : mLs} {st : List Value} {a : Nat} {v : Int32} : ev d 32 42 L (.int v :: .ref a :: st) h = if mK h a = 8 then ev d 32 45 L st (wI h a 5 v) else none := ev_pI d_32_42 (by decide +kernel) (by decide +kernel) (by decide +kernel)
theorem d_32_45 : decode (cd 32) 45 = .ok (.aload_n 0, 1) := by rw [cd_32]; decide +kernel
theorem e_32_45 {d : Nat} {h : mM} {T : mLs} {x : Nat} {st : List Value} : ev d 32 45 ( some (.ref x) :: T) st h = ev d 32 46 ( some (.ref x) :: T) (.ref x :: st) h := ev_of d_32_45 rfl
theorem d_32_46 : decode (cd 32) 46 = .ok (.iconst 0, 1) := by rw [cd_32]; decide +kernel
theorem e_32_46 {d : Nat} {h : mM} {L : mLs} {st : List Value} : ev d 32 46 L st h = ev d 32 47 L (.int 0 :: st) h := ev_of d_32_46 rfl
theorem d_32_47 : decode (cd 32) 47 = .ok (.putfield 40, 3) := by rw [cd_32]; decide +kernel
theorem e_32_47 {d : Nat} {h : mM} {L : mLs} {st : List Value} {a : Nat} {v : Int32} : ev d 32 47 L (.int v :: .ref a :: st) h = if mK h a = 8 then ev d 32 50 L st (wI h a 6 v) else none := ev_pI d_32_47 (by decide +kernel) (by decide +kernel) (by decide +kernel)
theorem d_32_50 : decode (cd 32) 50 = .ok (.iconst 0, 1) := by rw [cd_32]; decide +kernel
theorem e_32_50 {d : Nat} {h : mM} {L : mLs} {st : List Value} : ev d 32 50 L st h = ev d 32 51 L (.int 0 :: st) h := ev_of d_32_50 rfl
theorem d_32_51 : decode (cd 32) 51 = .ok (.istore_n 1, 1) := by rw [cd_32]; decide +kernel
theorem e_32_51 {d : Nat} {h : mM} {o0 o1 : Option Value} {T : mLs} {x : Int32} {st : List Value} (hl : mLong o0 = false) : ev d 32 51 (o0 :: o1 :: T) (.int x :: st) h = ev d 32 52 (o0 :: some (.int x) :: T) st h := ev_st_in d_32_51 (by decide +kernel) (mS1_s (j := 0) hl)
theorem d_32_52 : decode (cd 32) 52 = .ok (.iload_n 1, 1) := by rw [cd_32]; decide +kernel
theorem e_32_52 {d : Nat} {h : mM} {o0 : Option Value} {T : mLs} {x : Int32} {st : List Value} : ev d 32 52 (o0 :: some (.int x) :: T) st h = ev d 32 53 (o0 :: some (.int x) :: T) (.int x :: st) h := ev_of d_32_52 rfl
theorem d_32_53 : decode (cd 32) 53 = .ok (.iconst 4, 1) := by rw [cd_32]; decide +kernel
theorem e_32_53 {d : Nat} {h : mM} {L : mLs} {st : List Value} : ev d 32 53 L st h = ev d 32 54 L (.int 4 :: st) h := ev_of d_32_53 rfl
theorem d_32_54 : decode (cd 32) 54 = .ok (.if_icmp .ge 22, 3) := by rw [cd_32]; decide +kernel
theorem e_32_54 {d : Nat} {h : mM} {L : mLs} {st : List Value} {x y : Int32} : ev d 32 54 L (.int y :: .int x :: st) h = if y ≤ x then ev d 32 76 L st h else ev d 32 57 L st h := ev_ic (y ≤ x) inferInstance rfl d_32_54 (by decide)
theorem d_32_57 : decode (cd 32) 57 = .ok (.aload_n 0, 1) := by rw [cd_32]; decide +kernel
theorem e_32_57 {d : Nat} {h : mM} {T : mLs} {x : Nat} {st : List Value} : ev d 32 57 ( some (.ref x) :: T) st h = ev d 32 58 ( some (.ref x) :: T) (.ref x :: st) h := ev_of d_32_57 rfl
theorem d_32_58 : decode (cd 32) 58 = .ok (.getfield 11, 3) := by rw [cd_32]; decide +kernel
theorem e_32_58 {d : Nat} {h : mM} {L : mLs} {st : List Value} {a : Nat} : ev d 32 58 L (.ref a :: st) h = if mK h a = 8 then oB (mR h a 0) (fun b => ev d 32 61 L (.ref b :: st) h) else none := ev_gR d_32_58 (by decide +kernel) (by decide +kernel)
theorem d_32_61 : decode (cd 32) 61 = .ok (.iload_n 1, 1) := by rw [cd_32]; decide +kernel
theorem e_32_61 {d : Nat} {h : mM} {o0 : Option Value} {T : mLs} {x : Int32} {st : List Value} : ev d 32 61 (o0 :: some (.int x) :: T) st h = ev d 32 62 (o0 :: some (.int x) :: T) (.int x :: st) h := ev_of d_32_61 rfl
theorem d_32_62 : decode (cd 32) 62 = .ok (.new 9, 3) := by rw [cd_32]; decide +kernel
theorem e_32_62 {d : Nat} {h : mM} {L : mLs} {st : List Value} : ev d 32 62 L st h = ev d 32 65 L (.ref (mN h) :: st) (wN h 3 4) := ev_new d_32_62 (by decide +kernel)
theorem d_32_65 : decode (cd 32) 65 = .ok (.dup, 1) := by rw [cd_32]; decide +kernel
theorem e_32_65r {d : Nat} {h : mM} {L : mLs} {st : List Value} {a : Nat} : ev d 32 65 L (.ref a :: st) h = ev d 32 66 L (.ref a :: .ref a :: st) h := ev_of d_32_65 rfl
theorem e_32_65i {d : Nat} {h : mM} {L : mLs} {st : List Value} {x : Int32} : ev d 32 65 L (.int x :: st) h = ev d 32 66 L (.int x :: .int x :: st) h := ev_of d_32_65 rfl
theorem d_32_66 : decode (cd 32) 66 = .ok (.invokespecial 43, 3) := by rw [cd_32]; decide +kernel
theorem e_32_66 {d : Nat} {h : mM} {L : mLs} {st : List Value} {a : Nat} (hc : mCat st ≤ 8) : ev (d + 1) 32 66 L (.ref a :: st) h = cV (ev d 15 0 [some (.ref a)] [] h) (fun v h1 => ev (d + 1) 32 69 L (v ++ st) h1) := ev_ci (kd := 4) (mj := 15) (as := []) (rest := st) d_32_66 (by decide +kernel) (by decide) rfl rfl (by show _ ≤ List.length _; simp only [List.length_cons]; have : na 15 = 0 := rfl; omega) rfl (Nat.le_of_ble_eq_true rfl) hc
theorem d_32_69 : decode (cd 32) 69 = .ok (.aastore, 1) := by rw [cd_32]; decide +kernel
theorem e_32_69 {d : Nat} {h : mM} {L : mLs} {st : List Value} {a b : Nat} {i : Int32} : ev d 32 69 L (.ref b :: .int i :: .ref a :: st) h = if (12 < mK h a ∧ mK h a < 18) ∧ mK h b = mEl (mK h a) ∧ ixOK i (mL h a) = true then ev d 32 70 L st (wR h a i.toNatClampNeg (some b)) else none := ev_as d_32_69
theorem d_32_70 : decode (cd 32) 70 = .ok (.iinc 1 1, 3) := by rw [cd_32]; decide +kernel
theorem e_32_70 {d : Nat} {h : mM} {o0 : Option Value} {T : mLs} {x : Int32} {st : List Value} (hl : mLong o0 = false) : ev d 32 70 (o0 :: some (.int x) :: T) st h = ev d 32 73 (o0 :: some (.int (x + 1)) :: T) st h := ev_inc d_32_70 (by decide +kernel) rfl rfl (mS1_s (j := 0) hl)
theorem d_32_73 : decode (cd 32) 73 = .ok (.goto (-21), 3) := by rw [cd_32]; decide +kernel
theorem e_32_73 {d : Nat} {h : mM} {L : mLs} {st : List Value} : ev d 32 73 L st h = ev d 32 52 L st h := ev_go d_32_73 (by decide)
theorem d_32_76 : decode (cd 32) 76 = .ok (.iconst 0, 1) := by rw [cd_32]; decide +kernel
theorem e_32_76 {d : Nat} {h : mM} {L : mLs} {st : List Value} : ev d 32 76 L st h = ev d 32 77 L (.int 0 :: st) h := ev_of d_32_76 rfl
theorem d_32_77 : decode (cd 32) 77 = .ok (.istore_n 1, 1) := by rw [cd_32]; decide +kernel
theorem e_32_77 {d : Nat} {h : mM} {o0 o1 : Option Value} {T : mLs} {x : Int32} {st : List Value} (hl : mLong o0 = false) : ev d 32 77 (o0 :: o1 :: T) (.int x :: st) h = ev d 32 78 (o0 :: some (.int x) :: T) st h := ev_st_in d_32_77 (by decide +kernel) (mS1_s (j := 0) hl)
theorem d_32_78 : decode (cd 32) 78 = .ok (.iload_n 1, 1) := by rw [cd_32]; decide +kernel
theorem e_32_78 {d : Nat} {h : mM} {o0 : Option Value} {T : mLs} {x : Int32} {st : List Value} : ev d 32 78 (o0 :: some (.int x) :: T) st h = ev d 32 79 (o0 :: some (.int x) :: T) (.int x :: st) h := ev_of d_32_78 rfl
theorem d_32_79 : decode (cd 32) 79 = .ok (.iconst 4, 1) := by rw [cd_32]; decide +kernel
theorem e_32_79 {d : Nat} {h : mM} {L : mLs} {st : List Value} : ev d 32 79 L st h = ev d 32 80 L (.int 4 :: st) h := ev_of d_32_79 rfl
theorem d_32_80 : decode (cd 32) 80 = .ok (.if_icmp .ge 22, 3) := by rw [cd_32]; decide +kernel
theorem e_32_80 {d : Nat} {h : mM} {L : mLs} {st : List Value} {x y : Int32} : ev d 32 80 L (.int y :: .int x :: st) h = if y ≤ x then ev d 32 102 L st h else ev d 32 83 L st h := ev_ic (y ≤ x) inferInstance rfl d_32_80 (by decide)
theorem d_32_83 : decode (cd 32) 83 = .ok (.aload_n 0, 1) := by rw [cd_32]; decide +kernel
theorem e_32_83 {d : Nat} {h : mM} {T : mLs} {x : Nat} {st : List Value} : ev d 32 83 ( some (.ref x) :: T) st h = ev d 32 84 ( some (.ref x) :: T) (.ref x :: st) h := ev_of d_32_83 rfl
theorem d_32_84 : decode (cd 32) 84 = .ok (.getfield 19, 3) := by rw [cd_32]; decide +kernel
theorem e_32_84 {d : Nat} {h : mM} {L : mLs} {st : List Value} {a : Nat} : ev d 32 84 L (.ref a :: st) h = if mK h a = 8 then oB (mR h a 1) (fun b => ev d 32 87 L (.ref b :: st) h) else none := ev_gR d_32_84 (by decide +kernel) (by decide +kernel)
theorem d_32_87 : decode (cd 32) 87 = .ok (.iload_n 1, 1) := by rw [cd_32]; decide +kernel
theorem e_32_87 {d : Nat} {h : mM} {o0 : Option Value} {T : mLs} {x : Int32} {st : List Value} : ev d 32 87 (o0 :: some (.int x) :: T) st h = ev d 32 88 (o0 :: some (.int x) :: T) (.int x :: st) h := ev_of d_32_87 rfl
theorem d_32_88 : decode (cd 32) 88 = .ok (.new 17, 3) := by rw [cd_32]; decide +kernel
theorem e_32_88 {d : Nat} {h : mM} {L : mLs} {st : List Value} : ev d 32 88 L st h = ev d 32 91 L (.ref (mN h) :: st) (wN h 0 3) := ev_new d_32_88 (by decide +kernel)
theorem d_32_91 : decode (cd 32) 91 = .ok (.dup, 1) := by rw [cd_32]; decide +kernel
theorem e_32_91r {d : Nat} {h : mM} {L : mLs} {st : List Value} {a : Nat} : ev d 32 91 L (.ref a :: st) h = ev d 32 92 L (.ref a :: .ref a :: st) h := ev_of d_32_91 rfl
theorem e_32_91i {d : Nat} {h : mM} {L : mLs} {st : List Value} {x : Int32} : ev d 32 91 L (.int x :: st) h = ev d 32 92 L (.int x :: .int x :: st) h := ev_of d_32_91 rfl
theorem d_32_92 : decode (cd 32) 92 = .ok (.invokespecial 44, 3) := by rw [cd_32]; decide +kernel
theorem e_32_92 {d : Nat} {h : mM} {L : mLs} {st : List Value} {a : Nat} (hc : mCat st ≤ 8) : ev (d + 1) 32 92 L (.ref a :: st) h = cV (ev d 0 0 [some (.ref a)] [] h) (fun v h1 => ev (d + 1) 32 95 L (v ++ st) h1) := ev_ci (kd := 4) (mj := 0) (as := []) (rest := st) d_32_92 (by decide +kernel) (by decide) rfl rfl (by show _ ≤ List.length _; simp only [List.length_cons]; have : na 0 = 0 := rfl; omega) rfl (Nat.le_of_ble_eq_true rfl) hc
theorem d_32_95 : decode (cd 32) 95 = .ok (.aastore, 1) := by rw [cd_32]; decide +kernel
theorem e_32_95 {d : Nat} {h : mM} {L : mLs} {st : List Value} {a b : Nat} {i : Int32} : ev d 32 95 L (.ref b :: .int i :: .ref a :: st) h = if (12 < mK h a ∧ mK h a < 18) ∧ mK h b = mEl (mK h a) ∧ ixOK i (mL h a) = true then ev d 32 96 L st (wR h a i.toNatClampNeg (some b)) else none := ev_as d_32_95
theorem d_32_96 : decode (cd 32) 96 = .ok (.iinc 1 1, 3) := by rw [cd_32]; decide +kernel
theorem e_32_96 {d : Nat} {h : mM} {o0 : Option Value} {T : mLs} {x : Int32} {st : List Value} (hl : mLong o0 = false) : ev d 32 96 (o0 :: some (.int x) :: T) st h = ev d 32 99 (o0 :: some (.int (x + 1)) :: T) st h := ev_inc d_32_96 (by decide +kernel) rfl rfl (mS1_s (j := 0) hl)
theorem d_32_99 : decode (cd 32) 99 = .ok (.goto (-21), 3) := by rw [cd_32]; decide +kernel
theorem e_32_99 {d : Nat} {h : mM} {L : mLs} {st : List Value} : ev d 32 99 L st h = ev d 32 78 L st h := ev_go d_32_99 (by decide)
theorem d_32_102 : decode (cd 32) 102 = .ok (.iconst 0, 1) := by rw [cd_32]; decide +kernel
theorem e_32_102 {d : Nat} {h : mM} {L : mLs} {st : List Value} : ev d 32 102 L st h = ev d 32 103 L (.int 0 :: st) h := ev_of d_32_102 rfl
theorem d_32_103 : decode (cd 32) 103 = .ok (.istore_n 1, 1) := by rw [cd_32]; decide +kernel
theorem e_32_103 {d : Nat} {h : mM} {o0 o1 : Option Value} {T : mLs} {x : Int32} {st : List Value} (hl : mLong o0 = false) : ev d 32 103 (o0 :: o1 :: T) (.int x :: st) h = ev d 32 104 (o0 :: some (.int x) :: T) st h := ev_st_in d_32_103 (by decide +kernel) (mS1_s (j := 0) hl)
theorem d_32_104 : decode (cd 32) 104 = .ok (.iload_n 1, 1) := by rw [cd_32]; decide +kernel
theorem e_32_104 {d : Nat} {h : mM} {o0 : Option Value} {T : mLs} {x : Int32} {st : List Value} : ev d 32 104 (o0 :: some (.int x) :: T) st h = ev d 32 105 (o0 :: some (.int x) :: T) (.int x :: st) h := ev_of d_32_104 rfl
theorem d_32_105 : decode (cd 32) 105 = .ok (.iconst 4, 1) := by rw [cd_32]; decide +kernel
theorem e_32_105 {d : Nat} {h : mM} {L : mLs} {st : List Value} : ev d 32 105 L st h = ev d 32 106 L (.int 4 :: st) h := ev_of d_32_105 rfl
theorem d_32_106 : decode (cd 32) 106 = .ok (.if_icmp .ge 22, 3) := by rw [cd_32]; decide +kernel
theorem e_32_106 {d : Nat} {h : mM} {L : mLs} {st : List Value} {x y : Int32} : ev d 32 106 L (.int y :: .int x :: st) h = if y ≤ x then ev d 32 128 L st h else ev d 32 109 L st h := ev_ic (y ≤ x) inferInstance rfl d_32_106 (by decide)
theorem d_32_109 : decode (cd 32) 109 = .ok (.aload_n 0, 1) := by rw [cd_32]; decide +kernel
theorem e_32_109 {d : Nat} {h : mM} {T : mLs} {x : Nat} {st : List Value} : ev d 32 109 ( some (.ref x) :: T) st h = ev d 32 110 ( some (.ref x) :: T) (.ref x :: st) h := ev_of d_32_109 rfl
theorem d_32_110 : decode (cd 32) 110 = .ok (.getfield 25, 3) := by rw [cd_32]; decide +kernel
theorem e_32_110 {d : Nat} {h : mM} {L : mLs} {st : List Value} {a : Nat} : ev d 32 110 L (.ref a :: st) h = if mK h a = 8 then oB (mR h a 2) (fun b => ev d 32 113 L (.ref b :: st) h) else none := ev_gR d_32_110 (by decide +kernel) (by decide +kernel)
theorem d_32_113 : decode (cd 32) 113 = .ok (.iload_n 1, 1) := by rw [cd_32]; decide +kernel
theorem e_32_113 {d : Nat} {h : mM} {o0 : Option Value} {T : mLs} {x : Int32} {st : List Value} : ev d 32 113 (o0 :: some (.int x) :: T) st h = ev d 32 114 (o0 :: some (.int x) :: T) (.int x :: st) h := ev_of d_32_113 rfl
theorem d_32_114 : decode (cd 32) 114 = .ok (.new 23, 3) := by rw [cd_32]; decide +kernel
theorem e_32_114 {d : Nat} {h : mM} {L : mLs} {st : List Value} : ev d 32 114 L st h = ev d 32 117 L (.ref (mN h) :: st) (wN h 2 15) := ev_new d_32_114 (by decide +kernel)
theorem d_32_117 : decode (cd 32) 117 = .ok (.dup, 1) := by rw [cd_32]; decide +kernel
theorem e_32_117r {d : Nat} {h : mM} {L : mLs} {st : List Value} {a : Nat} : ev d 32 117 L (.ref a :: st) h = ev d 32 118 L (.ref a :: .ref a :: st) h := ev_of d_32_117 rfl
theorem e_32_117i {d : Nat} {h : mM} {L : mLs} {st : List Value} {x : Int32} : ev d 32 117 L (.int x :: st) h = ev d 32 118 L (.int x :: .int x :: st) h := ev_of d_32_117 rfl
theorem d_32_118 : decode (cd 32) 118 = .ok (.invokespecial 45, 3) := by rw [cd_32]; decide +kernel
theorem e_32_118 {d : Nat} {h : mM} {L : mLs} {st : List Value} {a : Nat} (hc : mCat st ≤ 8) : ev (d + 1) 32 118 L (.ref a :: st) h = cV (ev d 11 0 [some (.ref a), none] [] h) (fun v h1 => ev (d + 1) 32 121 L (v ++ st) h1) := ev_ci (kd := 2) (mj := 11) (as := []) (rest := st) d_32_118 (by decide +kernel) (by decide) rfl rfl (by show _ ≤ List.length _; simp only [List.length_cons]; have : na 11 = 0 := rfl; omega) rfl (Nat.le_of_ble_eq_true rfl) hc
theorem d_32_121 : decode (cd 32) 121 = .ok (.aastore, 1) := by rw [cd_32]; decide +kernel
theorem e_32_121 {d : Nat} {h : mM} {L : mLs} {st : List Value} {a b : Nat} {i : Int32} : ev d 32 121 L (.ref b :: .int i :: .ref a :: st) h = if (12 < mK h a ∧ mK h a < 18) ∧ mK h b = mEl (mK h a) ∧ ixOK i (mL h a) = true then ev d 32 122 L st (wR h a i.toNatClampNeg (some b)) else none := ev_as d_32_121
theorem d_32_122 : decode (cd 32) 122 = .ok (.iinc 1 1, 3) := by rw [cd_32]; decide +kernel
theorem e_32_122 {d : Nat} {h : mM} {o0 : Option Value} {T : mLs} {x : Int32} {st : List Value} (hl : mLong o0 = false) : ev d 32 122 (o0 :: some (.int x) :: T) st h = ev d 32 125 (o0 :: some (.int (x + 1)) :: T) st h := ev_inc d_32_122 (by decide +kernel) rfl rfl (mS1_s (j := 0) hl)
theorem d_32_125 : decode (cd 32) 125 = .ok (.goto (-21), 3) := by rw [cd_32]; decide +kernel
theorem e_32_125 {d : Nat} {h : mM} {L : mLs} {st : List Value} : ev d 32 125 L st h = ev d 32 104 L st h := ev_go d_32_125 (by decide)
theorem d_32_128 : decode (cd 32) 128 = .ok (.return_, 1) := by rw [cd_32]; decide +kernel
theorem e_32_128 {d : Nat} {h : mM} {L : mLs} : ev d 32 128 L [] h = some (none, h) := ev_rv d_32_128 (by decide +kernel)
-- 33: Works.putInOrder
theorem cd_33 : cd 33 = prog_10_method_2_code := rfl
theorem d_33_0 : decode (cd 33) 0 = .ok (.iload_n 1, 1) := by rw [cd_33]; decide +kernel
theorem e_33_0 {d : Nat} {h : mM} {o0 : Option Value} {T : mLs} {x : Int32} {st : List Value} : ev d 33 0 (o0 :: some (.int x) :: T) st h = ev d 33 1 (o0 :: some (.int x) :: T) (.int x :: st) h := ev_of d_33_0 rfl
theorem d_33_1 : decode (cd 33) 1 = .ok (.istore_n 2, 1) := by rw [cd_33]; decide +kernel
theorem e_33_1 {d : Nat} {h : mM} {o0 o1 o2 : Option Value} {T : mLs} {x : Int32} {st : List Value} (hl : mLong o1 = false) : ev d 33 1 (o0 :: o1 :: o2 :: T) (.int x :: st) h = ev d 33 2 (o0 :: o1 :: some (.int x) :: T) st h := ev_st_in d_33_1 (by decide +kernel) (mS1_s (j := 1) hl)
theorem d_33_2 : decode (cd 33) 2 = .ok (.iload_n 2, 1) := by rw [cd_33]; decide +kernel
theorem e_33_2 {d : Nat} {h : mM} {o0 o1 : Option Value} {T : mLs} {x : Int32} {st : List Value} : ev d 33 2 (o0 :: o1 :: some (.int x) :: T) st h = ev d 33 3 (o0 :: o1 :: some (.int x) :: T) (.int x :: st) h := ev_of d_33_2 rfl
theorem d_33_3 : decode (cd 33) 3 = .ok (.ifCond .le 51, 3) := by rw [cd_33]; decide +kernel
theorem e_33_3 {d : Nat} {h : mM} {L : mLs} {st : List Value} {x : Int32} : ev d 33 3 L (.int x :: st) h = if x ≤ 0 then ev d 33 54 L st h else ev d 33 6 L st h := ev_if (x ≤ 0) inferInstance rfl d_33_3 (by decide)
theorem d_33_6 : decode (cd 33) 6 = .ok (.aload_n 0, 1) := by rw [cd_33]; decide +kernel
theorem e_33_6 {d : Nat} {h : mM} {T : mLs} {x : Nat} {st : List Value} : ev d 33 6 ( some (.ref x) :: T) st h = ev d 33 7 ( some (.ref x) :: T) (.ref x :: st) h := ev_of d_33_6 rfl
theorem d_33_7 : decode (cd 33) 7 = .ok (.getfield 25, 3) := by rw [cd_33]; decide +kernel
theorem e_33_7 {d : Nat} {h : mM} {L : mLs} {st : List Value} {a : Nat} : ev d 33 7 L (.ref a :: st) h = if mK h a = 8 then oB (mR h a 2) (fun b => ev d 33 10 L (.ref b :: st) h) else none := ev_gR d_33_7 (by decide +kernel) (by decide +kernel)
theorem d_33_10 : decode (cd 33) 10 = .ok (.aload_n 0, 1) := by rw [cd_33]; decide +kernel
theorem e_33_10 {d : Nat} {h : mM} {T : mLs} {x : Nat} {st : List Value} : ev d 33 10 ( some (.ref x) :: T) st h = ev d 33 11 ( some (.ref x) :: T) (.ref x :: st) h := ev_of d_33_10 rfl
theorem d_33_11 : decode (cd 33) 11 = .ok (.getfield 29, 3) := by rw [cd_33]; decide +kernel
theorem e_33_11 {d : Nat} {h : mM} {L : mLs} {st : List Value} {a : Nat} : ev d 33 11 L (.ref a :: st) h = if mK h a = 8 then oB (mR h a 3) (fun b => ev d 33 14 L (.ref b :: st) h) else none := ev_gR d_33_11 (by decide +kernel) (by decide +kernel)
theorem d_33_14 : decode (cd 33) 14 = .ok (.iload_n 2, 1) := by rw [cd_33]; decide +kernel
theorem e_33_14 {d : Nat} {h : mM} {o0 o1 : Option Value} {T : mLs} {x : Int32} {st : List Value} : ev d 33 14 (o0 :: o1 :: some (.int x) :: T) st h = ev d 33 15 (o0 :: o1 :: some (.int x) :: T) (.int x :: st) h := ev_of d_33_14 rfl
theorem d_33_15 : decode (cd 33) 15 = .ok (.iconst 1, 1) := by rw [cd_33]; decide +kernel
theorem e_33_15 {d : Nat} {h : mM} {L : mLs} {st : List Value} : ev d 33 15 L st h = ev d 33 16 L (.int 1 :: st) h := ev_of d_33_15 rfl
theorem d_33_16 : decode (cd 33) 16 = .ok (.isub, 1) := by rw [cd_33]; decide +kernel
theorem e_33_16 {d : Nat} {h : mM} {L : mLs} {st : List Value} {x y : Int32} : ev d 33 16 L (.int y :: .int x :: st) h = ev d 33 17 L (.int (x - y) :: st) h := ev_of d_33_16 rfl
theorem d_33_17 : decode (cd 33) 17 = .ok (.iaload, 1) := by rw [cd_33]; decide +kernel
theorem e_33_17 {d : Nat} {h : mM} {L : mLs} {st : List Value} {a : Nat} {i : Int32} : ev d 33 17 L (.int i :: .ref a :: st) h = if (mK h a = 11 ∨ mK h a = 19) ∧ ixOK i (mL h a) = true then ev d 33 18 L (.int (mI h a i.toNatClampNeg) :: st) h else none := ev_ia d_33_17
theorem d_33_18 : decode (cd 33) 18 = .ok (.aaload, 1) := by rw [cd_33]; decide +kernel
theorem e_33_18 {d : Nat} {h : mM} {L : mLs} {st : List Value} {a : Nat} {i : Int32} : ev d 33 18 L (.int i :: .ref a :: st) h = if (12 < mK h a ∧ mK h a < 19) ∧ ixOK i (mL h a) = true then oB (mR h a i.toNatClampNeg) (fun b => ev d 33 19 L (.ref b :: st) h) else none := ev_aa d_33_18
theorem d_33_19 : decode (cd 33) 19 = .ok (.getfield 46, 3) := by rw [cd_33]; decide +kernel
theorem e_33_19 {d : Nat} {h : mM} {L : mLs} {st : List Value} {a : Nat} : ev d 33 19 L (.ref a :: st) h = if mK h a = 2 then ev d 33 22 L (.int (mI h a 4) :: st) h else none := ev_gI d_33_19 (by decide +kernel) (by decide +kernel)
theorem d_33_22 : decode (cd 33) 22 = .ok (.aload_n 0, 1) := by rw [cd_33]; decide +kernel
theorem e_33_22 {d : Nat} {h : mM} {T : mLs} {x : Nat} {st : List Value} : ev d 33 22 ( some (.ref x) :: T) st h = ev d 33 23 ( some (.ref x) :: T) (.ref x :: st) h := ev_of d_33_22 rfl
theorem d_33_23 : decode (cd 33) 23 = .ok (.getfield 25, 3) := by rw [cd_33]; decide +kernel
theorem e_33_23 {d : Nat} {h : mM} {L : mLs} {st : List Value} {a : Nat} : ev d 33 23 L (.ref a :: st) h = if mK h a = 8 then oB (mR h a 2) (fun b => ev d 33 26 L (.ref b :: st) h) else none := ev_gR d_33_23 (by decide +kernel) (by decide +kernel)
theorem d_33_26 : decode (cd 33) 26 = .ok (.iload_n 1, 1) := by rw [cd_33]; decide +kernel
theorem e_33_26 {d : Nat} {h : mM} {o0 : Option Value} {T : mLs} {x : Int32} {st : List Value} : ev d 33 26 (o0 :: some (.int x) :: T) st h = ev d 33 27 (o0 :: some (.int x) :: T) (.int x :: st) h := ev_of d_33_26 rfl
theorem d_33_27 : decode (cd 33) 27 = .ok (.aaload, 1) := by rw [cd_33]; decide +kernel
theorem e_33_27 {d : Nat} {h : mM} {L : mLs} {st : List Value} {a : Nat} {i : Int32} : ev d 33 27 L (.int i :: .ref a :: st) h = if (12 < mK h a ∧ mK h a < 19) ∧ ixOK i (mL h a) = true then oB (mR h a i.toNatClampNeg) (fun b => ev d 33 28 L (.ref b :: st) h) else none := ev_aa d_33_27
theorem d_33_28 : decode (cd 33) 28 = .ok (.getfield 46, 3) := by rw [cd_33]; decide +kernel
theorem e_33_28 {d : Nat} {h : mM} {L : mLs} {st : List Value} {a : Nat} : ev d 33 28 L (.ref a :: st) h = if mK h a = 2 then ev d 33 31 L (.int (mI h a 4) :: st) h else none := ev_gI d_33_28 (by decide +kernel) (by decide +kernel)
theorem d_33_31 : decode (cd 33) 31 = .ok (.if_icmp .le 23, 3) := by rw [cd_33]; decide +kernel
theorem e_33_31 {d : Nat} {h : mM} {L : mLs} {st : List Value} {x y : Int32} : ev d 33 31 L (.int y :: .int x :: st) h = if x ≤ y then ev d 33 54 L st h else ev d 33 34 L st h := ev_ic (x ≤ y) inferInstance rfl d_33_31 (by decide)
theorem d_33_34 : decode (cd 33) 34 = .ok (.aload_n 0, 1) := by rw [cd_33]; decide +kernel
theorem e_33_34 {d : Nat} {h : mM} {T : mLs} {x : Nat} {st : List Value} : ev d 33 34 ( some (.ref x) :: T) st h = ev d 33 35 ( some (.ref x) :: T) (.ref x :: st) h := ev_of d_33_34 rfl
theorem d_33_35 : decode (cd 33) 35 = .ok (.getfield 29, 3) := by rw [cd_33]; decide +kernel
theorem e_33_35 {d : Nat} {h : mM} {L : mLs} {st : List Value} {a : Nat} : ev d 33 35 L (.ref a :: st) h = if mK h a = 8 then oB (mR h a 3) (fun b => ev d 33 38 L (.ref b :: st) h) else none := ev_gR d_33_35 (by decide +kernel) (by decide +kernel)
theorem d_33_38 : decode (cd 33) 38 = .ok (.iload_n 2, 1) := by rw [cd_33]; decide +kernel
theorem e_33_38 {d : Nat} {h : mM} {o0 o1 : Option Value} {T : mLs} {x : Int32} {st : List Value} : ev d 33 38 (o0 :: o1 :: some (.int x) :: T) st h = ev d 33 39 (o0 :: o1 :: some (.int x) :: T) (.int x :: st) h := ev_of d_33_38 rfl
theorem d_33_39 : decode (cd 33) 39 = .ok (.aload_n 0, 1) := by rw [cd_33]; decide +kernel
theorem e_33_39 {d : Nat} {h : mM} {T : mLs} {x : Nat} {st : List Value} : ev d 33 39 ( some (.ref x) :: T) st h = ev d 33 40 ( some (.ref x) :: T) (.ref x :: st) h := ev_of d_33_39 rfl
theorem d_33_40 : decode (cd 33) 40 = .ok (.getfield 29, 3) := by rw [cd_33]; decide +kernel
theorem e_33_40 {d : Nat} {h : mM} {L : mLs} {st : List Value} {a : Nat} : ev d 33 40 L (.ref a :: st) h = if mK h a = 8 then oB (mR h a 3) (fun b => ev d 33 43 L (.ref b :: st) h) else none := ev_gR d_33_40 (by decide +kernel) (by decide +kernel)
theorem d_33_43 : decode (cd 33) 43 = .ok (.iload_n 2, 1) := by rw [cd_33]; decide +kernel
theorem e_33_43 {d : Nat} {h : mM} {o0 o1 : Option Value} {T : mLs} {x : Int32} {st : List Value} : ev d 33 43 (o0 :: o1 :: some (.int x) :: T) st h = ev d 33 44 (o0 :: o1 :: some (.int x) :: T) (.int x :: st) h := ev_of d_33_43 rfl
theorem d_33_44 : decode (cd 33) 44 = .ok (.iconst 1, 1) := by rw [cd_33]; decide +kernel
theorem e_33_44 {d : Nat} {h : mM} {L : mLs} {st : List Value} : ev d 33 44 L st h = ev d 33 45 L (.int 1 :: st) h := ev_of d_33_44 rfl
theorem d_33_45 : decode (cd 33) 45 = .ok (.isub, 1) := by rw [cd_33]; decide +kernel
theorem e_33_45 {d : Nat} {h : mM} {L : mLs} {st : List Value} {x y : Int32} : ev d 33 45 L (.int y :: .int x :: st) h = ev d 33 46 L (.int (x - y) :: st) h := ev_of d_33_45 rfl
theorem d_33_46 : decode (cd 33) 46 = .ok (.iaload, 1) := by rw [cd_33]; decide +kernel
theorem e_33_46 {d : Nat} {h : mM} {L : mLs} {st : List Value} {a : Nat} {i : Int32} : ev d 33 46 L (.int i :: .ref a :: st) h = if (mK h a = 11 ∨ mK h a = 19) ∧ ixOK i (mL h a) = true then ev d 33 47 L (.int (mI h a i.toNatClampNeg) :: st) h else none := ev_ia d_33_46
theorem d_33_47 : decode (cd 33) 47 = .ok (.iastore, 1) := by rw [cd_33]; decide +kernel
theorem e_33_47 {d : Nat} {h : mM} {L : mLs} {st : List Value} {a : Nat} {i v : Int32} : ev d 33 47 L (.int v :: .int i :: .ref a :: st) h = if mK h a = 11 ∧ ixOK i (mL h a) = true then ev d 33 48 L st (wI h a i.toNatClampNeg v) else none := ev_is d_33_47
theorem d_33_48 : decode (cd 33) 48 = .ok (.iinc 2 (-1), 3) := by rw [cd_33]; decide +kernel
theorem e_33_48 {d : Nat} {h : mM} {o0 o1 : Option Value} {T : mLs} {x : Int32} {st : List Value} (hl : mLong o1 = false) : ev d 33 48 (o0 :: o1 :: some (.int x) :: T) st h = ev d 33 51 (o0 :: o1 :: some (.int (x + (-1))) :: T) st h := ev_inc d_33_48 (by decide +kernel) rfl rfl (mS1_s (j := 1) hl)
theorem d_33_51 : decode (cd 33) 51 = .ok (.goto (-49), 3) := by rw [cd_33]; decide +kernel
theorem e_33_51 {d : Nat} {h : mM} {L : mLs} {st : List Value} : ev d 33 51 L st h = ev d 33 2 L st h := ev_go d_33_51 (by decide)
theorem d_33_54 : decode (cd 33) 54 = .ok (.aload_n 0, 1) := by rw [cd_33]; decide +kernel
theorem e_33_54 {d : Nat} {h : mM} {T : mLs} {x : Nat} {st : List Value} : ev d 33 54 ( some (.ref x) :: T) st h = ev d 33 55 ( some (.ref x) :: T) (.ref x :: st) h := ev_of d_33_54 rfl
theorem d_33_55 : decode (cd 33) 55 = .ok (.getfield 29, 3) := by rw [cd_33]; decide +kernel
theorem e_33_55 {d : Nat} {h : mM} {L : mLs} {st : List Value} {a : Nat} : ev d 33 55 L (.ref a :: st) h = if mK h a = 8 then oB (mR h a 3) (fun b => ev d 33 58 L (.ref b :: st) h) else none := ev_gR d_33_55 (by decide +kernel) (by decide +kernel)
theorem d_33_58 : decode (cd 33) 58 = .ok (.iload_n 2, 1) := by rw [cd_33]; decide +kernel
theorem e_33_58 {d : Nat} {h : mM} {o0 o1 : Option Value} {T : mLs} {x : Int32} {st : List Value} : ev d 33 58 (o0 :: o1 :: some (.int x) :: T) st h = ev d 33 59 (o0 :: o1 :: some (.int x) :: T) (.int x :: st) h := ev_of d_33_58 rfl
theorem d_33_59 : decode (cd 33) 59 = .ok (.iload_n 1, 1) := by rw [cd_33]; decide +kernel
theorem e_33_59 {d : Nat} {h : mM} {o0 : Option Value} {T : mLs} {x : Int32} {st : List Value} : ev d 33 59 (o0 :: some (.int x) :: T) st h = ev d 33 60 (o0 :: some (.int x) :: T) (.int x :: st) h := ev_of d_33_59 rfl
theorem d_33_60 : decode (cd 33) 60 = .ok (.iastore, 1) := by rw [cd_33]; decide +kernel
theorem e_33_60 {d : Nat} {h : mM} {L : mLs} {st : List Value} {a : Nat} {i v : Int32} : ev d 33 60 L (.int v :: .int i :: .ref a :: st) h = if mK h a = 11 ∧ ixOK i (mL h a) = true then ev d 33 61 L st (wI h a i.toNatClampNeg v) else none := ev_is d_33_60
theorem d_33_61 : decode (cd 33) 61 = .ok (.return_, 1) := by rw [cd_33]; decide +kernel
theorem e_33_61 {d : Nat} {h : mM} {L : mLs} : ev d 33 61 L [] h = some (none, h) := ev_rv d_33_61 (by decide +kernel)
-- 34: Works.millsAt
theorem cd_34 : cd 34 = prog_10_method_3_code := rfl
theorem d_34_0 : decode (cd 34) 0 = .ok (.iconst 0, 1) := by rw [cd_34]; decide +kernel
theorem e_34_0 {d : Nat} {h : mM} {L : mLs} {st : List Value} : ev d 34 0 L st h = ev d 34 1 L (.int 0 :: st) h := ev_of d_34_0 rfl
theorem d_34_1 : decode (cd 34) 1 = .ok (.istore_n 2, 1) := by rw [cd_34]; decide +kernel
theorem e_34_1 {d : Nat} {h : mM} {o0 o1 o2 : Option Value} {T : mLs} {x : Int32} {st : List Value} (hl : mLong o1 = false) : ev d 34 1 (o0 :: o1 :: o2 :: T) (.int x :: st) h = ev d 34 2 (o0 :: o1 :: some (.int x) :: T) st h := ev_st_in d_34_1 (by decide +kernel) (mS1_s (j := 1) hl)
theorem d_34_2 : decode (cd 34) 2 = .ok (.iconst 0, 1) := by rw [cd_34]; decide +kernel
theorem e_34_2 {d : Nat} {h : mM} {L : mLs} {st : List Value} : ev d 34 2 L st h = ev d 34 3 L (.int 0 :: st) h := ev_of d_34_2 rfl
theorem d_34_3 : decode (cd 34) 3 = .ok (.istore_n 3, 1) := by rw [cd_34]; decide +kernel
theorem e_34_3 {d : Nat} {h : mM} {o0 o1 o2 o3 : Option Value} {T : mLs} {x : Int32} {st : List Value} (hl : mLong o2 = false) : ev d 34 3 (o0 :: o1 :: o2 :: o3 :: T) (.int x :: st) h = ev d 34 4 (o0 :: o1 :: o2 :: some (.int x) :: T) st h := ev_st_in d_34_3 (by decide +kernel) (mS1_s (j := 2) hl)
theorem d_34_4 : decode (cd 34) 4 = .ok (.iload_n 3, 1) := by rw [cd_34]; decide +kernel
theorem e_34_4 {d : Nat} {h : mM} {o0 o1 o2 : Option Value} {T : mLs} {x : Int32} {st : List Value} : ev d 34 4 (o0 :: o1 :: o2 :: some (.int x) :: T) st h = ev d 34 5 (o0 :: o1 :: o2 :: some (.int x) :: T) (.int x :: st) h := ev_of d_34_4 rfl
theorem d_34_5 : decode (cd 34) 5 = .ok (.aload_n 0, 1) := by rw [cd_34]; decide +kernel
theorem e_34_5 {d : Nat} {h : mM} {T : mLs} {x : Nat} {st : List Value} : ev d 34 5 ( some (.ref x) :: T) st h = ev d 34 6 ( some (.ref x) :: T) (.ref x :: st) h := ev_of d_34_5 rfl
theorem d_34_6 : decode (cd 34) 6 = .ok (.getfield 40, 3) := by rw [cd_34]; decide +kernel
theorem e_34_6 {d : Nat} {h : mM} {L : mLs} {st : List Value} {a : Nat} : ev d 34 6 L (.ref a :: st) h = if mK h a = 8 then ev d 34 9 L (.int (mI h a 6) :: st) h else none := ev_gI d_34_6 (by decide +kernel) (by decide +kernel)
theorem d_34_9 : decode (cd 34) 9 = .ok (.if_icmp .ge 25, 3) := by rw [cd_34]; decide +kernel
theorem e_34_9 {d : Nat} {h : mM} {L : mLs} {st : List Value} {x y : Int32} : ev d 34 9 L (.int y :: .int x :: st) h = if y ≤ x then ev d 34 34 L st h else ev d 34 12 L st h := ev_ic (y ≤ x) inferInstance rfl d_34_9 (by decide)
theorem d_34_12 : decode (cd 34) 12 = .ok (.aload_n 0, 1) := by rw [cd_34]; decide +kernel
theorem e_34_12 {d : Nat} {h : mM} {T : mLs} {x : Nat} {st : List Value} : ev d 34 12 ( some (.ref x) :: T) st h = ev d 34 13 ( some (.ref x) :: T) (.ref x :: st) h := ev_of d_34_12 rfl
theorem d_34_13 : decode (cd 34) 13 = .ok (.getfield 25, 3) := by rw [cd_34]; decide +kernel
theorem e_34_13 {d : Nat} {h : mM} {L : mLs} {st : List Value} {a : Nat} : ev d 34 13 L (.ref a :: st) h = if mK h a = 8 then oB (mR h a 2) (fun b => ev d 34 16 L (.ref b :: st) h) else none := ev_gR d_34_13 (by decide +kernel) (by decide +kernel)
theorem d_34_16 : decode (cd 34) 16 = .ok (.iload_n 3, 1) := by rw [cd_34]; decide +kernel
theorem e_34_16 {d : Nat} {h : mM} {o0 o1 o2 : Option Value} {T : mLs} {x : Int32} {st : List Value} : ev d 34 16 (o0 :: o1 :: o2 :: some (.int x) :: T) st h = ev d 34 17 (o0 :: o1 :: o2 :: some (.int x) :: T) (.int x :: st) h := ev_of d_34_16 rfl
theorem d_34_17 : decode (cd 34) 17 = .ok (.aaload, 1) := by rw [cd_34]; decide +kernel
theorem e_34_17 {d : Nat} {h : mM} {L : mLs} {st : List Value} {a : Nat} {i : Int32} : ev d 34 17 L (.int i :: .ref a :: st) h = if (12 < mK h a ∧ mK h a < 19) ∧ ixOK i (mL h a) = true then oB (mR h a i.toNatClampNeg) (fun b => ev d 34 18 L (.ref b :: st) h) else none := ev_aa d_34_17
theorem d_34_18 : decode (cd 34) 18 = .ok (.getfield 49, 3) := by rw [cd_34]; decide +kernel
theorem e_34_18 {d : Nat} {h : mM} {L : mLs} {st : List Value} {a : Nat} : ev d 34 18 L (.ref a :: st) h = if mK h a = 2 then ev d 34 21 L (.int (mI h a 3) :: st) h else none := ev_gI d_34_18 (by decide +kernel) (by decide +kernel)
theorem d_34_21 : decode (cd 34) 21 = .ok (.iload_n 1, 1) := by rw [cd_34]; decide +kernel
theorem e_34_21 {d : Nat} {h : mM} {o0 : Option Value} {T : mLs} {x : Int32} {st : List Value} : ev d 34 21 (o0 :: some (.int x) :: T) st h = ev d 34 22 (o0 :: some (.int x) :: T) (.int x :: st) h := ev_of d_34_21 rfl
theorem d_34_22 : decode (cd 34) 22 = .ok (.if_icmp .ne 6, 3) := by rw [cd_34]; decide +kernel
theorem e_34_22 {d : Nat} {h : mM} {L : mLs} {st : List Value} {x y : Int32} : ev d 34 22 L (.int y :: .int x :: st) h = if ¬ x = y then ev d 34 28 L st h else ev d 34 25 L st h := ev_ic (¬ x = y) inferInstance rfl d_34_22 (by decide)
theorem d_34_25 : decode (cd 34) 25 = .ok (.iinc 2 1, 3) := by rw [cd_34]; decide +kernel
theorem e_34_25 {d : Nat} {h : mM} {o0 o1 : Option Value} {T : mLs} {x : Int32} {st : List Value} (hl : mLong o1 = false) : ev d 34 25 (o0 :: o1 :: some (.int x) :: T) st h = ev d 34 28 (o0 :: o1 :: some (.int (x + 1)) :: T) st h := ev_inc d_34_25 (by decide +kernel) rfl rfl (mS1_s (j := 1) hl)
theorem d_34_28 : decode (cd 34) 28 = .ok (.iinc 3 1, 3) := by rw [cd_34]; decide +kernel
theorem e_34_28 {d : Nat} {h : mM} {o0 o1 o2 : Option Value} {T : mLs} {x : Int32} {st : List Value} (hl : mLong o2 = false) : ev d 34 28 (o0 :: o1 :: o2 :: some (.int x) :: T) st h = ev d 34 31 (o0 :: o1 :: o2 :: some (.int (x + 1)) :: T) st h := ev_inc d_34_28 (by decide +kernel) rfl rfl (mS1_s (j := 2) hl)
theorem d_34_31 : decode (cd 34) 31 = .ok (.goto (-27), 3) := by rw [cd_34]; decide +kernel
theorem e_34_31 {d : Nat} {h : mM} {L : mLs} {st : List Value} : ev d 34 31 L st h = ev d 34 4 L st h := ev_go d_34_31 (by decide)
theorem d_34_34 : decode (cd 34) 34 = .ok (.iload_n 2, 1) := by rw [cd_34]; decide +kernel
theorem e_34_34 {d : Nat} {h : mM} {o0 o1 : Option Value} {T : mLs} {x : Int32} {st : List Value} : ev d 34 34 (o0 :: o1 :: some (.int x) :: T) st h = ev d 34 35 (o0 :: o1 :: some (.int x) :: T) (.int x :: st) h := ev_of d_34_34 rfl
theorem d_34_35 : decode (cd 34) 35 = .ok (.ireturn, 1) := by rw [cd_34]; decide +kernel
theorem e_34_35 {d : Nat} {h : mM} {L : mLs} {v : Int32} : ev d 34 35 L [.int v] h = some (some (.int v), h) := ev_ri d_34_35 (by decide +kernel)
-- 35: Works.sacksWaiting
theorem cd_35 : cd 35 = prog_10_method_4_code := rfl
theorem d_35_0 : decode (cd 35) 0 = .ok (.iconst 0, 1) := by rw [cd_35]; decide +kernel
theorem e_35_0 {d : Nat} {h : mM} {L : mLs} {st : List Value} : ev d 35 0 L st h = ev d 35 1 L (.int 0 :: st) h := ev_of d_35_0 rfl
theorem d_35_1 : decode (cd 35) 1 = .ok (.istore_n 1, 1) := by rw [cd_35]; decide +kernel
theorem e_35_1 {d : Nat} {h : mM} {o0 o1 : Option Value} {T : mLs} {x : Int32} {st : List Value} (hl : mLong o0 = false) : ev d 35 1 (o0 :: o1 :: T) (.int x :: st) h = ev d 35 2 (o0 :: some (.int x) :: T) st h := ev_st_in d_35_1 (by decide +kernel) (mS1_s (j := 0) hl)
theorem d_35_2 : decode (cd 35) 2 = .ok (.iconst 0, 1) := by rw [cd_35]; decide +kernel
theorem e_35_2 {d : Nat} {h : mM} {L : mLs} {st : List Value} : ev d 35 2 L st h = ev d 35 3 L (.int 0 :: st) h := ev_of d_35_2 rfl
theorem d_35_3 : decode (cd 35) 3 = .ok (.istore_n 2, 1) := by rw [cd_35]; decide +kernel
theorem e_35_3 {d : Nat} {h : mM} {o0 o1 o2 : Option Value} {T : mLs} {x : Int32} {st : List Value} (hl : mLong o1 = false) : ev d 35 3 (o0 :: o1 :: o2 :: T) (.int x :: st) h = ev d 35 4 (o0 :: o1 :: some (.int x) :: T) st h := ev_st_in d_35_3 (by decide +kernel) (mS1_s (j := 1) hl)
theorem d_35_4 : decode (cd 35) 4 = .ok (.iload_n 2, 1) := by rw [cd_35]; decide +kernel
theorem e_35_4 {d : Nat} {h : mM} {o0 o1 : Option Value} {T : mLs} {x : Int32} {st : List Value} : ev d 35 4 (o0 :: o1 :: some (.int x) :: T) st h = ev d 35 5 (o0 :: o1 :: some (.int x) :: T) (.int x :: st) h := ev_of d_35_4 rfl
theorem d_35_5 : decode (cd 35) 5 = .ok (.aload_n 0, 1) := by rw [cd_35]; decide +kernel
theorem e_35_5 {d : Nat} {h : mM} {T : mLs} {x : Nat} {st : List Value} : ev d 35 5 ( some (.ref x) :: T) st h = ev d 35 6 ( some (.ref x) :: T) (.ref x :: st) h := ev_of d_35_5 rfl
theorem d_35_6 : decode (cd 35) 6 = .ok (.getfield 40, 3) := by rw [cd_35]; decide +kernel
theorem e_35_6 {d : Nat} {h : mM} {L : mLs} {st : List Value} {a : Nat} : ev d 35 6 L (.ref a :: st) h = if mK h a = 8 then ev d 35 9 L (.int (mI h a 6) :: st) h else none := ev_gI d_35_6 (by decide +kernel) (by decide +kernel)
theorem d_35_9 : decode (cd 35) 9 = .ok (.if_icmp .ge 21, 3) := by rw [cd_35]; decide +kernel
theorem e_35_9 {d : Nat} {h : mM} {L : mLs} {st : List Value} {x y : Int32} : ev d 35 9 L (.int y :: .int x :: st) h = if y ≤ x then ev d 35 30 L st h else ev d 35 12 L st h := ev_ic (y ≤ x) inferInstance rfl d_35_9 (by decide)
theorem d_35_12 : decode (cd 35) 12 = .ok (.iload_n 1, 1) := by rw [cd_35]; decide +kernel
theorem e_35_12 {d : Nat} {h : mM} {o0 : Option Value} {T : mLs} {x : Int32} {st : List Value} : ev d 35 12 (o0 :: some (.int x) :: T) st h = ev d 35 13 (o0 :: some (.int x) :: T) (.int x :: st) h := ev_of d_35_12 rfl
theorem d_35_13 : decode (cd 35) 13 = .ok (.aload_n 0, 1) := by rw [cd_35]; decide +kernel
theorem e_35_13 {d : Nat} {h : mM} {T : mLs} {x : Nat} {st : List Value} : ev d 35 13 ( some (.ref x) :: T) st h = ev d 35 14 ( some (.ref x) :: T) (.ref x :: st) h := ev_of d_35_13 rfl
theorem d_35_14 : decode (cd 35) 14 = .ok (.getfield 25, 3) := by rw [cd_35]; decide +kernel
theorem e_35_14 {d : Nat} {h : mM} {L : mLs} {st : List Value} {a : Nat} : ev d 35 14 L (.ref a :: st) h = if mK h a = 8 then oB (mR h a 2) (fun b => ev d 35 17 L (.ref b :: st) h) else none := ev_gR d_35_14 (by decide +kernel) (by decide +kernel)
theorem d_35_17 : decode (cd 35) 17 = .ok (.iload_n 2, 1) := by rw [cd_35]; decide +kernel
theorem e_35_17 {d : Nat} {h : mM} {o0 o1 : Option Value} {T : mLs} {x : Int32} {st : List Value} : ev d 35 17 (o0 :: o1 :: some (.int x) :: T) st h = ev d 35 18 (o0 :: o1 :: some (.int x) :: T) (.int x :: st) h := ev_of d_35_17 rfl
theorem d_35_18 : decode (cd 35) 18 = .ok (.aaload, 1) := by rw [cd_35]; decide +kernel
theorem e_35_18 {d : Nat} {h : mM} {L : mLs} {st : List Value} {a : Nat} {i : Int32} : ev d 35 18 L (.int i :: .ref a :: st) h = if (12 < mK h a ∧ mK h a < 19) ∧ ixOK i (mL h a) = true then oB (mR h a i.toNatClampNeg) (fun b => ev d 35 19 L (.ref b :: st) h) else none := ev_aa d_35_18
theorem d_35_19 : decode (cd 35) 19 = .ok (.getfield 52, 3) := by rw [cd_35]; decide +kernel
theorem e_35_19 {d : Nat} {h : mM} {L : mLs} {st : List Value} {a : Nat} : ev d 35 19 L (.ref a :: st) h = if mK h a = 2 then ev d 35 22 L (.int (mI h a 8) :: st) h else none := ev_gI d_35_19 (by decide +kernel) (by decide +kernel)
theorem d_35_22 : decode (cd 35) 22 = .ok (.iadd, 1) := by rw [cd_35]; decide +kernel
theorem e_35_22 {d : Nat} {h : mM} {L : mLs} {st : List Value} {x y : Int32} : ev d 35 22 L (.int y :: .int x :: st) h = ev d 35 23 L (.int (x + y) :: st) h := ev_of d_35_22 rfl
theorem d_35_23 : decode (cd 35) 23 = .ok (.istore_n 1, 1) := by rw [cd_35]; decide +kernel
theorem e_35_23 {d : Nat} {h : mM} {o0 o1 : Option Value} {T : mLs} {x : Int32} {st : List Value} (hl : mLong o0 = false) : ev d 35 23 (o0 :: o1 :: T) (.int x :: st) h = ev d 35 24 (o0 :: some (.int x) :: T) st h := ev_st_in d_35_23 (by decide +kernel) (mS1_s (j := 0) hl)
theorem d_35_24 : decode (cd 35) 24 = .ok (.iinc 2 1, 3) := by rw [cd_35]; decide +kernel
theorem e_35_24 {d : Nat} {h : mM} {o0 o1 : Option Value} {T : mLs} {x : Int32} {st : List Value} (hl : mLong o1 = false) : ev d 35 24 (o0 :: o1 :: some (.int x) :: T) st h = ev d 35 27 (o0 :: o1 :: some (.int (x + 1)) :: T) st h := ev_inc d_35_24 (by decide +kernel) rfl rfl (mS1_s (j := 1) hl)
theorem d_35_27 : decode (cd 35) 27 = .ok (.goto (-23), 3) := by rw [cd_35]; decide +kernel
theorem e_35_27 {d : Nat} {h : mM} {L : mLs} {st : List Value} : ev d 35 27 L st h = ev d 35 4 L st h := ev_go d_35_27 (by decide)
theorem d_35_30 : decode (cd 35) 30 = .ok (.iload_n 1, 1) := by rw [cd_35]; decide +kernel
theorem e_35_30 {d : Nat} {h : mM} {o0 : Option Value} {T : mLs} {x : Int32} {st : List Value} : ev d 35 30 (o0 :: some (.int x) :: T) st h = ev d 35 31 (o0 :: some (.int x) :: T) (.int x :: st) h := ev_of d_35_30 rfl
theorem d_35_31 : decode (cd 35) 31 = .ok (.ireturn, 1) := by rw [cd_35]; decide +kernel
theorem e_35_31 {d : Nat} {h : mM} {L : mLs} {v : Int32} : ev d 35 31 L [.int v] h = some (some (.int v), h) := ev_ri d_35_31 (by decide +kernel)
-- 36: Works.keptFrom
theorem cd_36 : cd 36 = prog_10_method_5_code := rfl
theorem d_36_0 : decode (cd 36) 0 = .ok (.iconst 0, 1) := by rw [cd_36]; decide +kernel
theorem e_36_0 {d : Nat} {h : mM} {L : mLs} {st : List Value} : ev d 36 0 L st h = ev d 36 1 L (.int 0 :: st) h := ev_of d_36_0 rfl
theorem d_36_1 : decode (cd 36) 1 = .ok (.istore_n 2, 1) := by rw [cd_36]; decide +kernel
theorem e_36_1 {d : Nat} {h : mM} {o0 o1 o2 : Option Value} {T : mLs} {x : Int32} {st : List Value} (hl : mLong o1 = false) : ev d 36 1 (o0 :: o1 :: o2 :: T) (.int x :: st) h = ev d 36 2 (o0 :: o1 :: some (.int x) :: T) st h := ev_st_in d_36_1 (by decide +kernel) (mS1_s (j := 1) hl)
theorem d_36_2 : decode (cd 36) 2 = .ok (.iconst 0, 1) := by rw [cd_36]; decide +kernel
theorem e_36_2 {d : Nat} {h : mM} {L : mLs} {st : List Value} : ev d 36 2 L st h = ev d 36 3 L (.int 0 :: st) h := ev_of d_36_2 rfl
theorem d_36_3 : decode (cd 36) 3 = .ok (.istore_n 3, 1) := by rw [cd_36]; decide +kernel
theorem e_36_3 {d : Nat} {h : mM} {o0 o1 o2 o3 : Option Value} {T : mLs} {x : Int32} {st : List Value} (hl : mLong o2 = false) : ev d 36 3 (o0 :: o1 :: o2 :: o3 :: T) (.int x :: st) h = ev d 36 4 (o0 :: o1 :: o2 :: some (.int x) :: T) st h := ev_st_in d_36_3 (by decide +kernel) (mS1_s (j := 2) hl)
theorem d_36_4 : decode (cd 36) 4 = .ok (.iload_n 3, 1) := by rw [cd_36]; decide +kernel
theorem e_36_4 {d : Nat} {h : mM} {o0 o1 o2 : Option Value} {T : mLs} {x : Int32} {st : List Value} : ev d 36 4 (o0 :: o1 :: o2 :: some (.int x) :: T) st h = ev d 36 5 (o0 :: o1 :: o2 :: some (.int x) :: T) (.int x :: st) h := ev_of d_36_4 rfl
theorem d_36_5 : decode (cd 36) 5 = .ok (.aload_n 0, 1) := by rw [cd_36]; decide +kernel
theorem e_36_5 {d : Nat} {h : mM} {T : mLs} {x : Nat} {st : List Value} : ev d 36 5 ( some (.ref x) :: T) st h = ev d 36 6 ( some (.ref x) :: T) (.ref x :: st) h := ev_of d_36_5 rfl
theorem d_36_6 : decode (cd 36) 6 = .ok (.getfield 40, 3) := by rw [cd_36]; decide +kernel
theorem e_36_6 {d : Nat} {h : mM} {L : mLs} {st : List Value} {a : Nat} : ev d 36 6 L (.ref a :: st) h = if mK h a = 8 then ev d 36 9 L (.int (mI h a 6) :: st) h else none := ev_gI d_36_6 (by decide +kernel) (by decide +kernel)
theorem d_36_9 : decode (cd 36) 9 = .ok (.if_icmp .ge 51, 3) := by rw [cd_36]; decide +kernel
theorem e_36_9 {d : Nat} {h : mM} {L : mLs} {st : List Value} {x y : Int32} : ev d 36 9 L (.int y :: .int x :: st) h = if y ≤ x then ev d 36 60 L st h else ev d 36 12 L st h := ev_ic (y ≤ x) inferInstance rfl d_36_9 (by decide)
theorem d_36_12 : decode (cd 36) 12 = .ok (.aload_n 0, 1) := by rw [cd_36]; decide +kernel
theorem e_36_12 {d : Nat} {h : mM} {T : mLs} {x : Nat} {st : List Value} : ev d 36 12 ( some (.ref x) :: T) st h = ev d 36 13 ( some (.ref x) :: T) (.ref x :: st) h := ev_of d_36_12 rfl
theorem d_36_13 : decode (cd 36) 13 = .ok (.getfield 25, 3) := by rw [cd_36]; decide +kernel
theorem e_36_13 {d : Nat} {h : mM} {L : mLs} {st : List Value} {a : Nat} : ev d 36 13 L (.ref a :: st) h = if mK h a = 8 then oB (mR h a 2) (fun b => ev d 36 16 L (.ref b :: st) h) else none := ev_gR d_36_13 (by decide +kernel) (by decide +kernel)
theorem d_36_16 : decode (cd 36) 16 = .ok (.iload_n 3, 1) := by rw [cd_36]; decide +kernel
theorem e_36_16 {d : Nat} {h : mM} {o0 o1 o2 : Option Value} {T : mLs} {x : Int32} {st : List Value} : ev d 36 16 (o0 :: o1 :: o2 :: some (.int x) :: T) st h = ev d 36 17 (o0 :: o1 :: o2 :: some (.int x) :: T) (.int x :: st) h := ev_of d_36_16 rfl
theorem d_36_17 : decode (cd 36) 17 = .ok (.aaload, 1) := by rw [cd_36]; decide +kernel
theorem e_36_17 {d : Nat} {h : mM} {L : mLs} {st : List Value} {a : Nat} {i : Int32} : ev d 36 17 L (.int i :: .ref a :: st) h = if (12 < mK h a ∧ mK h a < 19) ∧ ixOK i (mL h a) = true then oB (mR h a i.toNatClampNeg) (fun b => ev d 36 18 L (.ref b :: st) h) else none := ev_aa d_36_17
theorem d_36_18 : decode (cd 36) 18 = .ok (.astore 4, 2) := by rw [cd_36]; decide +kernel
theorem e_36_18 {d : Nat} {h : mM} {o0 o1 o2 o3 o4 : Option Value} {T : mLs} {x : Nat} {st : List Value} (hl : mLong o3 = false) : ev d 36 18 (o0 :: o1 :: o2 :: o3 :: o4 :: T) (.ref x :: st) h = ev d 36 20 (o0 :: o1 :: o2 :: o3 :: some (.ref x) :: T) st h := ev_st_r d_36_18 (by decide +kernel) (mS1_s (j := 3) hl)
theorem d_36_20 : decode (cd 36) 20 = .ok (.aload 4, 2) := by rw [cd_36]; decide +kernel
theorem e_36_20 {d : Nat} {h : mM} {o0 o1 o2 o3 : Option Value} {T : mLs} {x : Nat} {st : List Value} : ev d 36 20 (o0 :: o1 :: o2 :: o3 :: some (.ref x) :: T) st h = ev d 36 22 (o0 :: o1 :: o2 :: o3 :: some (.ref x) :: T) (.ref x :: st) h := ev_of d_36_20 rfl
theorem d_36_22 : decode (cd 36) 22 = .ok (.getfield 49, 3) := by rw [cd_36]; decide +kernel
theorem e_36_22 {d : Nat} {h : mM} {L : mLs} {st : List Value} {a : Nat} : ev d 36 22 L (.ref a :: st) h = if mK h a = 2 then ev d 36 25 L (.int (mI h a 3) :: st) h else none := ev_gI d_36_22 (by decide +kernel) (by decide +kernel)
theorem d_36_25 : decode (cd 36) 25 = .ok (.aload_n 1, 1) := by rw [cd_36]; decide +kernel
theorem e_36_25 {d : Nat} {h : mM} {o0 : Option Value} {T : mLs} {x : Nat} {st : List Value} : ev d 36 25 (o0 :: some (.ref x) :: T) st h = ev d 36 26 (o0 :: some (.ref x) :: T) (.ref x :: st) h := ev_of d_36_25 rfl
theorem d_36_26 : decode (cd 36) 26 = .ok (.getfield 49, 3) := by rw [cd_36]; decide +kernel
theorem e_36_26 {d : Nat} {h : mM} {L : mLs} {st : List Value} {a : Nat} : ev d 36 26 L (.ref a :: st) h = if mK h a = 2 then ev d 36 29 L (.int (mI h a 3) :: st) h else none := ev_gI d_36_26 (by decide +kernel) (by decide +kernel)
theorem d_36_29 : decode (cd 36) 29 = .ok (.if_icmp .ne 25, 3) := by rw [cd_36]; decide +kernel
theorem e_36_29 {d : Nat} {h : mM} {L : mLs} {st : List Value} {x y : Int32} : ev d 36 29 L (.int y :: .int x :: st) h = if ¬ x = y then ev d 36 54 L st h else ev d 36 32 L st h := ev_ic (¬ x = y) inferInstance rfl d_36_29 (by decide)
theorem d_36_32 : decode (cd 36) 32 = .ok (.aload 4, 2) := by rw [cd_36]; decide +kernel
theorem e_36_32 {d : Nat} {h : mM} {o0 o1 o2 o3 : Option Value} {T : mLs} {x : Nat} {st : List Value} : ev d 36 32 (o0 :: o1 :: o2 :: o3 :: some (.ref x) :: T) st h = ev d 36 34 (o0 :: o1 :: o2 :: o3 :: some (.ref x) :: T) (.ref x :: st) h := ev_of d_36_32 rfl
theorem d_36_34 : decode (cd 36) 34 = .ok (.getfield 46, 3) := by rw [cd_36]; decide +kernel
theorem e_36_34 {d : Nat} {h : mM} {L : mLs} {st : List Value} {a : Nat} : ev d 36 34 L (.ref a :: st) h = if mK h a = 2 then ev d 36 37 L (.int (mI h a 4) :: st) h else none := ev_gI d_36_34 (by decide +kernel) (by decide +kernel)
theorem d_36_37 : decode (cd 36) 37 = .ok (.aload_n 1, 1) := by rw [cd_36]; decide +kernel
theorem e_36_37 {d : Nat} {h : mM} {o0 : Option Value} {T : mLs} {x : Nat} {st : List Value} : ev d 36 37 (o0 :: some (.ref x) :: T) st h = ev d 36 38 (o0 :: some (.ref x) :: T) (.ref x :: st) h := ev_of d_36_37 rfl
theorem d_36_38 : decode (cd 36) 38 = .ok (.getfield 46, 3) := by rw [cd_36]; decide +kernel
theorem e_36_38 {d : Nat} {h : mM} {L : mLs} {st : List Value} {a : Nat} : ev d 36 38 L (.ref a :: st) h = if mK h a = 2 then ev d 36 41 L (.int (mI h a 4) :: st) h else none := ev_gI d_36_38 (by decide +kernel) (by decide +kernel)
theorem d_36_41 : decode (cd 36) 41 = .ok (.if_icmp .ge 13, 3) := by rw [cd_36]; decide +kernel
theorem e_36_41 {d : Nat} {h : mM} {L : mLs} {st : List Value} {x y : Int32} : ev d 36 41 L (.int y :: .int x :: st) h = if y ≤ x then ev d 36 54 L st h else ev d 36 44 L st h := ev_ic (y ≤ x) inferInstance rfl d_36_41 (by decide)
theorem d_36_44 : decode (cd 36) 44 = .ok (.iload_n 2, 1) := by rw [cd_36]; decide +kernel
theorem e_36_44 {d : Nat} {h : mM} {o0 o1 : Option Value} {T : mLs} {x : Int32} {st : List Value} : ev d 36 44 (o0 :: o1 :: some (.int x) :: T) st h = ev d 36 45 (o0 :: o1 :: some (.int x) :: T) (.int x :: st) h := ev_of d_36_44 rfl
theorem d_36_45 : decode (cd 36) 45 = .ok (.aload 4, 2) := by rw [cd_36]; decide +kernel
theorem e_36_45 {d : Nat} {h : mM} {o0 o1 o2 o3 : Option Value} {T : mLs} {x : Nat} {st : List Value} : ev d 36 45 (o0 :: o1 :: o2 :: o3 :: some (.ref x) :: T) st h = ev d 36 47 (o0 :: o1 :: o2 :: o3 :: some (.ref x) :: T) (.ref x :: st) h := ev_of d_36_45 rfl
theorem d_36_47 : decode (cd 36) 47 = .ok (.getfield 55, 3) := by rw [cd_36]; decide +kernel
theorem e_36_47 {d : Nat} {h : mM} {L : mLs} {st : List Value} {a : Nat} : ev d 36 47 L (.ref a :: st) h = if mK h a = 2 then ev d 36 50 L (.int (mI h a 5) :: st) h else none := ev_gI d_36_47 (by decide +kernel) (by decide +kernel)
theorem d_36_50 : decode (cd 36) 50 = .ok (.invokestatic 58, 3) := by rw [cd_36]; decide +kernel
theorem e_36_50 {d : Nat} {h : mM} {L : mLs} {st : List Value} {x y : Int32} (hc : mCat st ≤ 8) : ev d 36 50 L (.int y :: .int x :: st) h = ev d 36 53 L (.int (if x < y then y else x) :: st) h := ev_max (mj := 0) d_36_50 (by decide +kernel) hc
theorem d_36_53 : decode (cd 36) 53 = .ok (.istore_n 2, 1) := by rw [cd_36]; decide +kernel
theorem e_36_53 {d : Nat} {h : mM} {o0 o1 o2 : Option Value} {T : mLs} {x : Int32} {st : List Value} (hl : mLong o1 = false) : ev d 36 53 (o0 :: o1 :: o2 :: T) (.int x :: st) h = ev d 36 54 (o0 :: o1 :: some (.int x) :: T) st h := ev_st_in d_36_53 (by decide +kernel) (mS1_s (j := 1) hl)
theorem d_36_54 : decode (cd 36) 54 = .ok (.iinc 3 1, 3) := by rw [cd_36]; decide +kernel
theorem e_36_54 {d : Nat} {h : mM} {o0 o1 o2 : Option Value} {T : mLs} {x : Int32} {st : List Value} (hl : mLong o2 = false) : ev d 36 54 (o0 :: o1 :: o2 :: some (.int x) :: T) st h = ev d 36 57 (o0 :: o1 :: o2 :: some (.int (x + 1)) :: T) st h := ev_inc d_36_54 (by decide +kernel) rfl rfl (mS1_s (j := 2) hl)
theorem d_36_57 : decode (cd 36) 57 = .ok (.goto (-53), 3) := by rw [cd_36]; decide +kernel
theorem e_36_57 {d : Nat} {h : mM} {L : mLs} {st : List Value} : ev d 36 57 L st h = ev d 36 4 L st h := ev_go d_36_57 (by decide)
theorem d_36_60 : decode (cd 36) 60 = .ok (.aload_n 0, 1) := by rw [cd_36]; decide +kernel
theorem e_36_60 {d : Nat} {h : mM} {T : mLs} {x : Nat} {st : List Value} : ev d 36 60 ( some (.ref x) :: T) st h = ev d 36 61 ( some (.ref x) :: T) (.ref x :: st) h := ev_of d_36_60 rfl
theorem d_36_61 : decode (cd 36) 61 = .ok (.getfield 11, 3) := by rw [cd_36]; decide +kernel
theorem e_36_61 {d : Nat} {h : mM} {L : mLs} {st : List Value} {a : Nat} : ev d 36 61 L (.ref a :: st) h = if mK h a = 8 then oB (mR h a 0) (fun b => ev d 36 64 L (.ref b :: st) h) else none := ev_gR d_36_61 (by decide +kernel) (by decide +kernel)
theorem d_36_64 : decode (cd 36) 64 = .ok (.aload_n 1, 1) := by rw [cd_36]; decide +kernel
theorem e_36_64 {d : Nat} {h : mM} {o0 : Option Value} {T : mLs} {x : Nat} {st : List Value} : ev d 36 64 (o0 :: some (.ref x) :: T) st h = ev d 36 65 (o0 :: some (.ref x) :: T) (.ref x :: st) h := ev_of d_36_64 rfl
theorem d_36_65 : decode (cd 36) 65 = .ok (.getfield 49, 3) := by rw [cd_36]; decide +kernel
theorem e_36_65 {d : Nat} {h : mM} {L : mLs} {st : List Value} {a : Nat} : ev d 36 65 L (.ref a :: st) h = if mK h a = 2 then ev d 36 68 L (.int (mI h a 3) :: st) h else none := ev_gI d_36_65 (by decide +kernel) (by decide +kernel)
theorem d_36_68 : decode (cd 36) 68 = .ok (.aaload, 1) := by rw [cd_36]; decide +kernel
theorem e_36_68 {d : Nat} {h : mM} {L : mLs} {st : List Value} {a : Nat} {i : Int32} : ev d 36 68 L (.int i :: .ref a :: st) h = if (12 < mK h a ∧ mK h a < 19) ∧ ixOK i (mL h a) = true then oB (mR h a i.toNatClampNeg) (fun b => ev d 36 69 L (.ref b :: st) h) else none := ev_aa d_36_68
theorem d_36_69 : decode (cd 36) 69 = .ok (.getfield 64, 3) := by rw [cd_36]; decide +kernel
theorem e_36_69 {d : Nat} {h : mM} {L : mLs} {st : List Value} {a : Nat} : ev d 36 69 L (.ref a :: st) h = if mK h a = 3 then ev d 36 72 L (.int (mI h a 0) :: st) h else none := ev_gI d_36_69 (by decide +kernel) (by decide +kernel)
theorem d_36_72 : decode (cd 36) 72 = .ok (.iload_n 2, 1) := by rw [cd_36]; decide +kernel
theorem e_36_72 {d : Nat} {h : mM} {o0 o1 : Option Value} {T : mLs} {x : Int32} {st : List Value} : ev d 36 72 (o0 :: o1 :: some (.int x) :: T) st h = ev d 36 73 (o0 :: o1 :: some (.int x) :: T) (.int x :: st) h := ev_of d_36_72 rfl
theorem d_36_73 : decode (cd 36) 73 = .ok (.imul, 1) := by rw [cd_36]; decide +kernel
theorem e_36_73 {d : Nat} {h : mM} {L : mLs} {st : List Value} {x y : Int32} : ev d 36 73 L (.int y :: .int x :: st) h = ev d 36 74 L (.int (x * y) :: st) h := ev_of d_36_73 rfl
theorem d_36_74 : decode (cd 36) 74 = .ok (.ireturn, 1) := by rw [cd_36]; decide +kernel
theorem e_36_74 {d : Nat} {h : mM} {L : mLs} {v : Int32} : ev d 36 74 L [.int v] h = some (some (.int v), h) := ev_ri d_36_74 (by decide +kernel)
end
