-- PART A of the skeleton, the names and field tables: printed texts (claim/NAMES.whole, kit/laws/SKELETON); the rest by gen_names.py
/-- a private method of a class that the tables say can be made, by its rows of tables_1 -/
def lw_okq (q : MethodName × Nat) : Prop := (q.1.cls ≠ "java/lang/invoke/MethodHandle" ∧ q.1.cls ≠ "java/lang/invoke/VarHandle") ∧ Cond.instantiable q.1.cls q.2 ∈ tables_1 ∧ Cond.privateMethod q.1 ∈ tables_1 ∧ Cond.instanceMethod q.1 ∈ tables_1
theorem lw_p0 : lw_okq (⟨"TideMill", "finding", "(I)I"⟩, 16) := ⟨⟨by decide +kernel, by decide +kernel⟩, List.mem_of_getElem? (i := 16) (by decide +kernel), List.mem_of_getElem? (i := 393) (by decide +kernel), List.mem_of_getElem? (i := 394) (by decide +kernel)⟩
theorem lw_p1 : lw_okq (⟨"TideMill", "isPond", "(I)Z"⟩, 16) := ⟨⟨by decide +kernel, by decide +kernel⟩, List.mem_of_getElem? (i := 16) (by decide +kernel), List.mem_of_getElem? (i := 421) (by decide +kernel), List.mem_of_getElem? (i := 422) (by decide +kernel)⟩
theorem lw_p2 : lw_okq (⟨"TideMill", "isMill", "(I)Z"⟩, 16) := ⟨⟨by decide +kernel, by decide +kernel⟩, List.mem_of_getElem? (i := 16) (by decide +kernel), List.mem_of_getElem? (i := 474) (by decide +kernel), List.mem_of_getElem? (i := 475) (by decide +kernel)⟩
theorem lw_p3 : lw_okq (⟨"TideMill", "countWater", "()V"⟩, 16) := ⟨⟨by decide +kernel, by decide +kernel⟩, List.mem_of_getElem? (i := 16) (by decide +kernel), List.mem_of_getElem? (i := 567) (by decide +kernel), List.mem_of_getElem? (i := 568) (by decide +kernel)⟩
theorem lw_p4 : lw_okq (⟨"TideMill", "handOutGround", "()I"⟩, 16) := ⟨⟨by decide +kernel, by decide +kernel⟩, List.mem_of_getElem? (i := 16) (by decide +kernel), List.mem_of_getElem? (i := 571) (by decide +kernel), List.mem_of_getElem? (i := 572) (by decide +kernel)⟩
theorem lw_p5 : lw_okq (⟨"TideMill", "startLater", "()V"⟩, 16) := ⟨⟨by decide +kernel, by decide +kernel⟩, List.mem_of_getElem? (i := 16) (by decide +kernel), List.mem_of_getElem? (i := 597) (by decide +kernel), List.mem_of_getElem? (i := 598) (by decide +kernel)⟩
theorem lw_p6 : lw_okq (⟨"TideMill", "waterInPonds", "()I"⟩, 16) := ⟨⟨by decide +kernel, by decide +kernel⟩, List.mem_of_getElem? (i := 16) (by decide +kernel), List.mem_of_getElem? (i := 641) (by decide +kernel), List.mem_of_getElem? (i := 642) (by decide +kernel)⟩
theorem lw_p7 : lw_okq (⟨"TideMillModel", "finding", "(J)J"⟩, 37) := ⟨⟨by decide +kernel, by decide +kernel⟩, List.mem_of_getElem? (i := 665) (by decide +kernel), List.mem_of_getElem? (i := 794) (by decide +kernel), List.mem_of_getElem? (i := 795) (by decide +kernel)⟩
theorem lw_p8 : lw_okq (⟨"TideMillModel", "tideOf", "(I)I"⟩, 37) := ⟨⟨by decide +kernel, by decide +kernel⟩, List.mem_of_getElem? (i := 665) (by decide +kernel), List.mem_of_getElem? (i := 807) (by decide +kernel), List.mem_of_getElem? (i := 808) (by decide +kernel)⟩
theorem lw_p9 : lw_okq (⟨"TideMillModel", "isPond", "(I)Z"⟩, 37) := ⟨⟨by decide +kernel, by decide +kernel⟩, List.mem_of_getElem? (i := 665) (by decide +kernel), List.mem_of_getElem? (i := 820) (by decide +kernel), List.mem_of_getElem? (i := 821) (by decide +kernel)⟩
theorem lw_p10 : lw_okq (⟨"TideMillModel", "isMill", "(I)Z"⟩, 37) := ⟨⟨by decide +kernel, by decide +kernel⟩, List.mem_of_getElem? (i := 665) (by decide +kernel), List.mem_of_getElem? (i := 848) (by decide +kernel), List.mem_of_getElem? (i := 849) (by decide +kernel)⟩
theorem lw_p11 : lw_okq (⟨"TideMillModel", "goes", "([IIIZ)V"⟩, 37) := ⟨⟨by decide +kernel, by decide +kernel⟩, List.mem_of_getElem? (i := 665) (by decide +kernel), List.mem_of_getElem? (i := 883) (by decide +kernel), List.mem_of_getElem? (i := 884) (by decide +kernel)⟩
theorem lw_p12 : lw_okq (⟨"TideMillModel", "gates", "([II)V"⟩, 37) := ⟨⟨by decide +kernel, by decide +kernel⟩, List.mem_of_getElem? (i := 665) (by decide +kernel), List.mem_of_getElem? (i := 887) (by decide +kernel), List.mem_of_getElem? (i := 888) (by decide +kernel)⟩
theorem lw_p13 : lw_okq (⟨"TideMillModel", "flows", "(II)V"⟩, 37) := ⟨⟨by decide +kernel, by decide +kernel⟩, List.mem_of_getElem? (i := 665) (by decide +kernel), List.mem_of_getElem? (i := 892) (by decide +kernel), List.mem_of_getElem? (i := 893) (by decide +kernel)⟩
theorem lw_p14 : lw_okq (⟨"TideMillModel", "evens", "([I)V"⟩, 37) := ⟨⟨by decide +kernel, by decide +kernel⟩, List.mem_of_getElem? (i := 665) (by decide +kernel), List.mem_of_getElem? (i := 896) (by decide +kernel), List.mem_of_getElem? (i := 897) (by decide +kernel)⟩
theorem lw_p15 : lw_okq (⟨"TideMillModel", "turns", "([III)V"⟩, 37) := ⟨⟨by decide +kernel, by decide +kernel⟩, List.mem_of_getElem? (i := 665) (by decide +kernel), List.mem_of_getElem? (i := 900) (by decide +kernel), List.mem_of_getElem? (i := 901) (by decide +kernel)⟩
def lw_privs_1 : List (MethodName × Nat) := [(⟨"TideMill", "finding", "(I)I"⟩, 16), (⟨"TideMill", "isPond", "(I)Z"⟩, 16), (⟨"TideMill", "isMill", "(I)Z"⟩, 16), (⟨"TideMill", "countWater", "()V"⟩, 16), (⟨"TideMill", "handOutGround", "()I"⟩, 16), (⟨"TideMill", "startLater", "()V"⟩, 16), (⟨"TideMill", "waterInPonds", "()I"⟩, 16), (⟨"TideMillModel", "finding", "(J)J"⟩, 37), (⟨"TideMillModel", "tideOf", "(I)I"⟩, 37), (⟨"TideMillModel", "isPond", "(I)Z"⟩, 37), (⟨"TideMillModel", "isMill", "(I)Z"⟩, 37), (⟨"TideMillModel", "goes", "([IIIZ)V"⟩, 37), (⟨"TideMillModel", "gates", "([II)V"⟩, 37), (⟨"TideMillModel", "flows", "(II)V"⟩, 37), (⟨"TideMillModel", "evens", "([I)V"⟩, 37), (⟨"TideMillModel", "turns", "([III)V"⟩, 37)]
theorem lw_r1 : ∀ q ∈ lw_privs_1, lw_okq q := List.forall_mem_cons.mpr ⟨lw_p0, List.forall_mem_cons.mpr ⟨lw_p1, List.forall_mem_cons.mpr ⟨lw_p2, List.forall_mem_cons.mpr ⟨lw_p3, List.forall_mem_cons.mpr ⟨lw_p4, List.forall_mem_cons.mpr ⟨lw_p5, List.forall_mem_cons.mpr ⟨lw_p6, List.forall_mem_cons.mpr ⟨lw_p7, List.forall_mem_cons.mpr ⟨lw_p8, List.forall_mem_cons.mpr ⟨lw_p9, List.forall_mem_cons.mpr ⟨lw_p10, List.forall_mem_cons.mpr ⟨lw_p11, List.forall_mem_cons.mpr ⟨lw_p12, List.forall_mem_cons.mpr ⟨lw_p13, List.forall_mem_cons.mpr ⟨lw_p14, List.forall_mem_cons.mpr ⟨lw_p15, fun _ h => absurd h List.not_mem_nil⟩⟩⟩⟩⟩⟩⟩⟩⟩⟩⟩⟩⟩⟩⟩⟩
theorem lw_p16 : lw_okq (⟨"TideMillModel", "turn", "([IIIII)V"⟩, 37) := ⟨⟨by decide +kernel, by decide +kernel⟩, List.mem_of_getElem? (i := 665) (by decide +kernel), List.mem_of_getElem? (i := 904) (by decide +kernel), List.mem_of_getElem? (i := 905) (by decide +kernel)⟩
theorem lw_p17 : lw_okq (⟨"TideMillModel", "keptFor", "(I)I"⟩, 37) := ⟨⟨by decide +kernel, by decide +kernel⟩, List.mem_of_getElem? (i := 665) (by decide +kernel), List.mem_of_getElem? (i := 908) (by decide +kernel), List.mem_of_getElem? (i := 909) (by decide +kernel)⟩
theorem lw_p18 : lw_okq (⟨"TideMillModel", "gives", "(II)V"⟩, 37) := ⟨⟨by decide +kernel, by decide +kernel⟩, List.mem_of_getElem? (i := 665) (by decide +kernel), List.mem_of_getElem? (i := 912) (by decide +kernel), List.mem_of_getElem? (i := 913) (by decide +kernel)⟩
theorem lw_p19 : lw_okq (⟨"TideMillModel", "done", "(II)V"⟩, 37) := ⟨⟨by decide +kernel, by decide +kernel⟩, List.mem_of_getElem? (i := 665) (by decide +kernel), List.mem_of_getElem? (i := 916) (by decide +kernel), List.mem_of_getElem? (i := 917) (by decide +kernel)⟩
theorem lw_p20 : lw_okq (⟨"TideMillModel", "spills", "([I)V"⟩, 37) := ⟨⟨by decide +kernel, by decide +kernel⟩, List.mem_of_getElem? (i := 665) (by decide +kernel), List.mem_of_getElem? (i := 920) (by decide +kernel), List.mem_of_getElem? (i := 921) (by decide +kernel)⟩
theorem lw_p21 : lw_okq (⟨"TideMillModel", "begin", "()V"⟩, 37) := ⟨⟨by decide +kernel, by decide +kernel⟩, List.mem_of_getElem? (i := 665) (by decide +kernel), List.mem_of_getElem? (i := 928) (by decide +kernel), List.mem_of_getElem? (i := 929) (by decide +kernel)⟩
def lw_privs_2 : List (MethodName × Nat) := [(⟨"TideMillModel", "turn", "([IIIII)V"⟩, 37), (⟨"TideMillModel", "keptFor", "(I)I"⟩, 37), (⟨"TideMillModel", "gives", "(II)V"⟩, 37), (⟨"TideMillModel", "done", "(II)V"⟩, 37), (⟨"TideMillModel", "spills", "([I)V"⟩, 37), (⟨"TideMillModel", "begin", "()V"⟩, 37)]
theorem lw_r2 : ∀ q ∈ lw_privs_2, lw_okq q := List.forall_mem_cons.mpr ⟨lw_p16, List.forall_mem_cons.mpr ⟨lw_p17, List.forall_mem_cons.mpr ⟨lw_p18, List.forall_mem_cons.mpr ⟨lw_p19, List.forall_mem_cons.mpr ⟨lw_p20, List.forall_mem_cons.mpr ⟨lw_p21, fun _ h => absurd h List.not_mem_nil⟩⟩⟩⟩⟩⟩
def lw_privs : List (MethodName × Nat) := lw_privs_1 ++ (lw_privs_2)
def lw_tbl : List Cond := k2_sels lw_privs ++ tables_1
theorem lw_privs_ok : ∀ q ∈ lw_privs, lw_okq q := by
  show ∀ q ∈ lw_privs_1 ++ (lw_privs_2), lw_okq q
  exact List.forall_mem_append.mpr ⟨lw_r1, lw_r2⟩
def RX0 : String := "TideMill$Channel"
def TX0 : u_T := fun k => match k with
  | 0 => ("TideMill$Channel", "a", "I", false)
  | 1 => ("TideMill$Channel", "b", "I", false)
  | _ => ("TideMill$Channel", "width", "I", false)
def tyX0 : Nat → FieldType := fun k => match k with
  | 0 => .int
  | 1 => .int
  | _ => .int
def RX1 : String := "TideMill$Flow"
def TX1 : u_T := fun k => match k with
  | 0 => ("TideMill$Flow", "works", "LTideMill$Works;", true)
  | 1 => ("TideMill$Flow", "ground", "[I", true)
  | 2 => ("TideMill$Flow", "cameIn", "I", false)
  | 3 => ("TideMill$Flow", "wentOut", "I", false)
  | 4 => ("TideMill$Flow", "spilt", "I", false)
  | _ => ("TideMill$Flow", "drawn", "I", false)
def tyX1 : Nat → FieldType := fun k => match k with
  | 0 => .object "TideMill$Works"
  | 1 => .array .int
  | 2 => .int
  | 3 => .int
  | 4 => .int
  | _ => .int
def RX2 : String := "TideMill$Mill"
def TX2 : u_T := fun k => match k with
  | 0 => ("TideMill$Mill", "stones", "[LTideMill$Stone;", true)
  | 1 => ("TideMill$Mill", "sacks", "[LTideMill$Sack;", true)
  | 2 => ("TideMill$Mill", "kind", "I", false)
  | 3 => ("TideMill$Mill", "pond", "I", false)
  | 4 => ("TideMill$Mill", "rank", "I", false)
  | 5 => ("TideMill$Mill", "keeps", "I", false)
  | 6 => ("TideMill$Mill", "customer", "I", false)
  | 7 => ("TideMill$Mill", "stoneCount", "I", false)
  | 8 => ("TideMill$Mill", "sackCount", "I", false)
  | 9 => ("TideMill$Mill", "ground", "I", false)
  | 10 => ("TideMill$Mill", "toll", "I", false)
  | 11 => ("TideMill$Mill", "done", "I", false)
  | 12 => ("TideMill$Mill", "late", "I", false)
  | 13 => ("TideMill$Mill", "idle", "I", false)
  | _ => ("TideMill$Mill", "cloth", "I", false)
def tyX2 : Nat → FieldType := fun k => match k with
  | 0 => .array (.object "TideMill$Stone")
  | 1 => .array (.object "TideMill$Sack")
  | 2 => .int
  | 3 => .int
  | 4 => .int
  | 5 => .int
  | 6 => .int
  | 7 => .int
  | 8 => .int
  | 9 => .int
  | 10 => .int
  | 11 => .int
  | 12 => .int
  | 13 => .int
  | _ => .int
def RX3 : String := "TideMill$Pond"
def TX3 : u_T := fun k => match k with
  | 0 => ("TideMill$Pond", "area", "I", false)
  | 1 => ("TideMill$Pond", "bank", "I", false)
  | 2 => ("TideMill$Pond", "width", "I", false)
  | _ => ("TideMill$Pond", "gate", "I", false)
def tyX3 : Nat → FieldType := fun k => match k with
  | 0 => .int
  | 1 => .int
  | 2 => .int
  | _ => .int
def RX4 : String := "TideMill$Sack"
def TX4 : u_T := fun k => match k with
  | 0 => ("TideMill$Sack", "customer", "I", false)
  | 1 => ("TideMill$Sack", "amount", "I", false)
  | 2 => ("TideMill$Sack", "wants", "I", false)
  | _ => ("TideMill$Sack", "due", "I", false)
def tyX4 : Nat → FieldType := fun k => match k with
  | 0 => .int
  | 1 => .int
  | 2 => .int
  | _ => .int
def RX5 : String := "TideMill$Search"
def TX5 : u_T := fun k => match k with
  | 0 => ("TideMill$Search", "flow", "LTideMill$Flow;", true)
  | 1 => ("TideMill$Search", "tides", "LTideMill$Tides;", true)
  | 2 => ("TideMill$Search", "water", "[[I", true)
  | 3 => ("TideMill$Search", "mill", "I", false)
  | 4 => ("TideMill$Search", "hours", "I", false)
  | 5 => ("TideMill$Search", "firstHour", "I", false)
  | 6 => ("TideMill$Search", "bestSet", "I", false)
  | _ => ("TideMill$Search", "bestGround", "I", false)
def tyX5 : Nat → FieldType := fun k => match k with
  | 0 => .object "TideMill$Flow"
  | 1 => .object "TideMill$Tides"
  | 2 => .array (.array .int)
  | 3 => .int
  | 4 => .int
  | 5 => .int
  | 6 => .int
  | _ => .int
def RX6 : String := "TideMill$Stone"
def TX6 : u_T := fun k => match k with
  | 0 => ("TideMill$Stone", "least", "I", false)
  | 1 => ("TideMill$Stone", "draw", "I", false)
  | 2 => ("TideMill$Stone", "rate", "I", false)
  | 3 => ("TideMill$Stone", "most", "I", false)
  | _ => ("TideMill$Stone", "isOn", "Z", false)
def tyX6 : Nat → FieldType := fun k => match k with
  | 0 => .int
  | 1 => .int
  | 2 => .int
  | 3 => .int
  | _ => .boolean
def RX7 : String := "TideMill$Tides"
def TX7 : u_T := fun k => match k with
  | 0 => ("TideMill$Tides", "heights", "[I", true)
  | _ => ("TideMill$Tides", "round", "I", false)
def tyX7 : Nat → FieldType := fun k => match k with
  | 0 => .array .int
  | _ => .int
def RX8 : String := "TideMill$Works"
def TX8 : u_T := fun k => match k with
  | 0 => ("TideMill$Works", "ponds", "[LTideMill$Pond;", true)
  | 1 => ("TideMill$Works", "channels", "[LTideMill$Channel;", true)
  | 2 => ("TideMill$Works", "mills", "[LTideMill$Mill;", true)
  | 3 => ("TideMill$Works", "order", "[I", true)
  | 4 => ("TideMill$Works", "pondCount", "I", false)
  | 5 => ("TideMill$Works", "channelCount", "I", false)
  | _ => ("TideMill$Works", "millCount", "I", false)
def tyX8 : Nat → FieldType := fun k => match k with
  | 0 => .array (.object "TideMill$Pond")
  | 1 => .array (.object "TideMill$Channel")
  | 2 => .array (.object "TideMill$Mill")
  | 3 => .array .int
  | 4 => .int
  | 5 => .int
  | _ => .int
def RX9 : String := "TideMill"
def TX9 : u_T := fun k => match k with
  | 0 => ("TideMill", "tides", "LTideMill$Tides;", true)
  | 1 => ("TideMill", "works", "LTideMill$Works;", true)
  | 2 => ("TideMill", "flow", "LTideMill$Flow;", true)
  | 3 => ("TideMill", "search", "LTideMill$Search;", true)
  | 4 => ("TideMill", "water", "[I", true)
  | 5 => ("TideMill", "flourOf", "[I", true)
  | 6 => ("TideMill", "numbers", "[I", true)
  | 7 => ("TideMill", "findings", "[I", true)
  | 8 => ("TideMill", "later", "[I", true)
  | 9 => ("TideMill", "hour", "I", false)
  | 10 => ("TideMill", "numbersWaiting", "I", false)
  | 11 => ("TideMill", "cameIn", "I", false)
  | 12 => ("TideMill", "wentOut", "I", false)
  | 13 => ("TideMill", "spilt", "I", false)
  | 14 => ("TideMill", "drawn", "I", false)
  | _ => ("TideMill", "putIn", "I", false)
def tyX9 : Nat → FieldType := fun k => match k with
  | 0 => .object "TideMill$Tides"
  | 1 => .object "TideMill$Works"
  | 2 => .object "TideMill$Flow"
  | 3 => .object "TideMill$Search"
  | 4 => .array .int
  | 5 => .array .int
  | 6 => .array .int
  | 7 => .array .int
  | 8 => .array .int
  | 9 => .int
  | 10 => .int
  | 11 => .int
  | 12 => .int
  | 13 => .int
  | 14 => .int
  | _ => .int
def RX10 : String := "TideMillModel"
def TX10 : u_T := fun k => match k with
  | 0 => ("TideMillModel", "hour", "I", false)
  | 1 => ("TideMillModel", "round", "I", false)
  | 2 => ("TideMillModel", "heights", "[I", true)
  | 3 => ("TideMillModel", "ponds", "I", false)
  | 4 => ("TideMillModel", "areaOf", "[I", true)
  | 5 => ("TideMillModel", "bankOf", "[I", true)
  | 6 => ("TideMillModel", "widthOf", "[I", true)
  | 7 => ("TideMillModel", "gateOf", "[I", true)
  | 8 => ("TideMillModel", "waters", "[I", true)
  | 9 => ("TideMillModel", "channels", "I", false)
  | 10 => ("TideMillModel", "oneEnd", "[I", true)
  | 11 => ("TideMillModel", "otherEnd", "[I", true)
  | 12 => ("TideMillModel", "wideOf", "[I", true)
  | 13 => ("TideMillModel", "mills", "I", false)
  | 14 => ("TideMillModel", "kindOf", "[I", true)
  | 15 => ("TideMillModel", "pondOf", "[I", true)
  | 16 => ("TideMillModel", "rankOf", "[I", true)
  | 17 => ("TideMillModel", "keepsOf", "[I", true)
  | 18 => ("TideMillModel", "customerOf", "[I", true)
  | 19 => ("TideMillModel", "stones", "[I", true)
  | 20 => ("TideMillModel", "least", "[I", true)
  | 21 => ("TideMillModel", "draw", "[I", true)
  | 22 => ("TideMillModel", "rate", "[I", true)
  | 23 => ("TideMillModel", "most", "[I", true)
  | 24 => ("TideMillModel", "on", "I", false)
  | 25 => ("TideMillModel", "sacks", "[I", true)
  | 26 => ("TideMillModel", "row", "[I", true)
  | 27 => ("TideMillModel", "account", "[J", true)
  | 28 => ("TideMillModel", "flour", "[J", true)
  | 29 => ("TideMillModel", "flows", "[J", true)
  | 30 => ("TideMillModel", "tells", "I", false)
  | 31 => ("TideMillModel", "told", "[I", true)
  | 32 => ("TideMillModel", "findings", "[J", true)
  | 33 => ("TideMillModel", "ahead", "[I", true)
  | 34 => ("TideMillModel", "ran", "I", false)
  | 35 => ("TideMillModel", "grinds", "[J", true)
  | _ => ("TideMillModel", "isMeant", "Z", false)
def tyX10 : Nat → FieldType := fun k => match k with
  | 0 => .int
  | 1 => .int
  | 2 => .array .int
  | 3 => .int
  | 4 => .array .int
  | 5 => .array .int
  | 6 => .array .int
  | 7 => .array .int
  | 8 => .array .int
  | 9 => .int
  | 10 => .array .int
  | 11 => .array .int
  | 12 => .array .int
  | 13 => .int
  | 14 => .array .int
  | 15 => .array .int
  | 16 => .array .int
  | 17 => .array .int
  | 18 => .array .int
  | 19 => .array .int
  | 20 => .array .int
  | 21 => .array .int
  | 22 => .array .int
  | 23 => .array .int
  | 24 => .int
  | 25 => .array .int
  | 26 => .array .int
  | 27 => .array .long
  | 28 => .array .long
  | 29 => .array .long
  | 30 => .int
  | 31 => .array .int
  | 32 => .array .long
  | 33 => .array .int
  | 34 => .int
  | 35 => .array .long
  | _ => .boolean
def RJ6 : String := "java/lang/Integer"
def RL : String := "TideMillLaw"
def lw_good : List Cond := lw_tbl.filter goodWord
def RN (k : Nat) : String := [RX0, RX1, RX2, RX3, RX4, RX5, RX6, RX7, RX8, RX9, RX10, RL, RJ6].getD k RX0
def TN (k : Nat) : u_T := [TX0, TX1, TX2, TX3, TX4, TX5, TX6, TX7, TX8, TX9, TX10].getD k TX0
def tyN (k : Nat) : Nat → FieldType := [tyX0, tyX1, tyX2, tyX3, tyX4, tyX5, tyX6, tyX7, tyX8, tyX9, tyX10].getD k tyX0
def nfN (k : Nat) : Nat := [3, 6, 15, 4, 4, 8, 5, 2, 7, 16, 37].getD k 0
def mCl : List vw_C := (List.range 11).map (fun k => (RN k, TN k, nfN k))
/-- the methods: name, bytes, locals, answer, kl number, parameters -/
def mTab : List (MethodName × ByteArray × Nat × Option FieldType × Nat × Nat) := [
  (⟨RX0, "<init>", "()V"⟩, prog_2_method_1_code, 1, none, 0, 0),
  (⟨RX1, "<init>", "(LTideMill$Works;)V"⟩, prog_3_method_1_code, 2, none, 1, 1),
  (⟨RX1, "goBy", "([III)V"⟩, prog_3_method_2_code, 4, none, 1, 3),
  (⟨RX1, "passGates", "([II)V"⟩, prog_3_method_3_code, 6, none, 1, 2),
  (⟨RX1, "passChannels", "([I)V"⟩, prog_3_method_4_code, 6, none, 1, 1),
  (⟨RX1, "lead", "([IIII)V"⟩, prog_3_method_5_code, 10, none, 1, 4),
  (⟨RX1, "runMills", "([III)V"⟩, prog_3_method_6_code, 6, none, 1, 3),
  (⟨RX1, "runStones", "([III)V"⟩, prog_3_method_7_code, 11, none, 1, 3),
  (⟨RX1, "spillBanks", "([I)V"⟩, prog_3_method_8_code, 4, none, 1, 1),
  (⟨RX1, "groundBy", "(I)I"⟩, prog_3_method_9_code, 4, (some .int), 1, 1),
  (⟨RX1, "stonesThatRan", "(I)I"⟩, prog_3_method_10_code, 4, (some .int), 1, 1),
  (⟨RX2, "<init>", "()V"⟩, prog_4_method_1_code, 2, none, 2, 0),
  (⟨RX2, "isOf", "(I)Z"⟩, prog_4_method_2_code, 2, (some .boolean), 2, 1),
  (⟨RX2, "take", "(II[I)V"⟩, prog_4_method_3_code, 8, none, 2, 3),
  (⟨RX2, "finishFirst", "(I[I)V"⟩, prog_4_method_4_code, 6, none, 2, 2),
  (⟨RX3, "<init>", "()V"⟩, prog_5_method_1_code, 1, none, 3, 0),
  (⟨RX3, "level", "(I)I"⟩, prog_5_method_2_code, 2, (some .int), 3, 1),
  (⟨RX3, "brim", "()I"⟩, prog_5_method_3_code, 1, (some .int), 3, 0),
  (⟨RX3, "comesIn", "(II)I"⟩, prog_5_method_4_code, 4, (some .int), 3, 2),
  (⟨RX3, "goesOut", "(II)I"⟩, prog_5_method_5_code, 4, (some .int), 3, 2),
  (⟨RX4, "<init>", "()V"⟩, prog_6_method_1_code, 1, none, 4, 0),
  (⟨RX5, "<init>", "(LTideMill$Works;LTideMill$Tides;)V"⟩, prog_7_method_1_code, 3, none, 5, 2),
  (⟨RX5, "start", "(III[I)V"⟩, prog_7_method_2_code, 5, none, 5, 4),
  (⟨RX3, "brim", "()I"⟩, prog_5_method_3_code, 1, (some .int), 3, 0),
  (⟨RX3, "brim", "()I"⟩, prog_5_method_3_code, 1, (some .int), 3, 0),
  (⟨RX5, "goOn", "(II)I"⟩, prog_7_method_3_code, 3, (some .int), 5, 2),
  (⟨RX5, "keepIfBetter", "(II)V"⟩, prog_7_method_4_code, 5, none, 5, 2),
  (⟨RX6, "<init>", "()V"⟩, prog_8_method_1_code, 1, none, 6, 0),
  (⟨RX6, "runs", "(III)Z"⟩, prog_8_method_2_code, 4, (some .boolean), 6, 3),
  (⟨RX6, "grinds", "(I)I"⟩, prog_8_method_3_code, 2, (some .int), 6, 1),
  (⟨RX7, "<init>", "()V"⟩, prog_9_method_1_code, 2, none, 7, 0),
  (⟨RX7, "at", "(I)I"⟩, prog_9_method_2_code, 2, (some .int), 7, 1),
  (⟨RX8, "<init>", "()V"⟩, prog_10_method_1_code, 2, none, 8, 0),
  (⟨RX8, "putInOrder", "(I)V"⟩, prog_10_method_2_code, 3, none, 8, 1),
  (⟨RX8, "millsAt", "(I)I"⟩, prog_10_method_3_code, 4, (some .int), 8, 1),
  (⟨RX8, "sacksWaiting", "()I"⟩, prog_10_method_4_code, 3, (some .int), 8, 0),
  (⟨RX8, "keptFrom", "(LTideMill$Mill;)I"⟩, prog_10_method_5_code, 5, (some .int), 8, 1),
  (⟨RX9, "<init>", "()V"⟩, prog_1_method_1_code, 1, none, 9, 0),
  (⟨RX9, "round", "(I)I"⟩, prog_1_method_2_code, 3, (some .int), 9, 1),
  (⟨RX9, "height", "(II)I"⟩, prog_1_method_3_code, 4, (some .int), 9, 2),
  (⟨RX9, "tide", "(I)I"⟩, prog_1_method_4_code, 2, (some .int), 9, 1),
  (⟨RX9, "pond", "(III)I"⟩, prog_1_method_5_code, 6, (some .int), 9, 3),
  (⟨RX9, "gate", "(II)I"⟩, prog_1_method_6_code, 4, (some .int), 9, 2),
  (⟨RX9, "water", "(II)I"⟩, prog_1_method_7_code, 4, (some .int), 9, 2),
  (⟨RX9, "channel", "(III)I"⟩, prog_1_method_8_code, 6, (some .int), 9, 3),
  (⟨RX9, "widen", "(II)I"⟩, prog_1_method_9_code, 4, (some .int), 9, 2),
  (⟨RX9, "about", "(II)I"⟩, prog_1_method_10_code, 4, (some .int), 9, 2),
  (⟨RX9, "mill", "(IIIII)I"⟩, prog_1_method_11_code, 8, (some .int), 9, 5),
  (⟨RX9, "as", "(II)I"⟩, prog_1_method_12_code, 3, (some .int), 9, 2),
  (⟨RX9, "stone", "(IIIII)I"⟩, prog_1_method_13_code, 9, (some .int), 9, 5),
  (⟨RX9, "on", "(III)I"⟩, prog_1_method_14_code, 6, (some .int), 9, 3),
  (⟨RX9, "sack", "(IIII)I"⟩, prog_1_method_15_code, 7, (some .int), 9, 4),
  (⟨RX9, "row", "(III)I"⟩, prog_1_method_16_code, 6, (some .int), 9, 3),
  (⟨RX9, "told", "(II)I"⟩, prog_1_method_17_code, 4, (some .int), 9, 2),
  (⟨RX9, "flour", "(I)I"⟩, prog_1_method_18_code, 2, (some .int), 9, 1),
  (⟨RX9, "hours", "(I)I"⟩, prog_1_method_19_code, 4, (some .int), 9, 1),
  (⟨RX9, "running", "()I"⟩, prog_1_method_20_code, 3, (some .int), 9, 0),
  (⟨RX9, "best", "(III)I"⟩, prog_1_method_21_code, 4, (some .int), 9, 3),
  (⟨RX9, "ahead", "(II)I"⟩, prog_1_method_22_code, 4, (some .int), 9, 2),
  (⟨RX9, "all", "(I)I"⟩, prog_1_method_23_code, 2, (some .int), 9, 1),
  (⟨RX9, "tell", "(I)I"⟩, prog_1_method_24_code, 2, (some .int), 9, 1),
  (⟨RX9, "check", "(I)I"⟩, prog_1_method_25_code, 4, (some .int), 9, 1),
  (⟨RX9, "count", "(I)I"⟩, prog_1_method_26_code, 2, (some .int), 9, 1),
  (⟨RX9, "found", "(I)I"⟩, prog_1_method_27_code, 2, (some .int), 9, 1),
  (⟨RX9, "finding", "(I)I"⟩, prog_1_method_28_code, 2, (some .int), 9, 1),
  (⟨RX9, "isWithin", "(III)Z"⟩, prog_1_method_29_code, 3, (some .boolean), 9, 3),
  (⟨RX9, "isWidth", "(I)Z"⟩, prog_1_method_30_code, 1, (some .boolean), 9, 1),
  (⟨RX9, "isKind", "(I)Z"⟩, prog_1_method_31_code, 1, (some .boolean), 9, 1),
  (⟨RX9, "isCustomer", "(I)Z"⟩, prog_1_method_32_code, 1, (some .boolean), 9, 1),
  (⟨RX9, "isCustomerOfKind", "(II)Z"⟩, prog_1_method_33_code, 2, (some .boolean), 9, 2),
  (⟨RX9, "isPond", "(I)Z"⟩, prog_1_method_34_code, 2, (some .boolean), 9, 1),
  (⟨RX9, "isMill", "(I)Z"⟩, prog_1_method_35_code, 2, (some .boolean), 9, 1),
  (⟨RX9, "waterInPonds", "()I"⟩, prog_1_method_36_code, 3, (some .int), 9, 0),
  (⟨RX9, "countWater", "()V"⟩, prog_1_method_37_code, 1, none, 9, 0),
  (⟨RX9, "handOutGround", "()I"⟩, prog_1_method_38_code, 5, (some .int), 9, 0),
  (⟨RX9, "startLater", "()V"⟩, prog_1_method_39_code, 1, none, 9, 0),
  (⟨RX9, "searchFrom", "(LTideMill$Search;III)V"⟩, prog_1_method_40_code, 5, none, 9, 4),
  (⟨RX3, "brim", "()I"⟩, prog_5_method_3_code, 1, (some .int), 3, 0),
  (⟨RX10, "<init>", "()V"⟩, prog_12_method_1_code, 2, none, 10, 0),
  (⟨RX10, "finding", "(J)J"⟩, prog_12_method_2_code, 3, (some .long), 10, 1),
  (⟨RX10, "within", "(III)Z"⟩, prog_12_method_3_code, 3, (some .boolean), 10, 3),
  (⟨RX10, "isPond", "(I)Z"⟩, prog_12_method_4_code, 2, (some .boolean), 10, 1),
  (⟨RX10, "isMill", "(I)Z"⟩, prog_12_method_5_code, 2, (some .boolean), 10, 1),
  (⟨RX10, "round", "(I)J"⟩, prog_12_method_6_code, 3, (some .long), 10, 1),
  (⟨RX10, "height", "(II)J"⟩, prog_12_method_7_code, 4, (some .long), 10, 2),
  (⟨RX10, "tideOf", "(I)I"⟩, prog_12_method_8_code, 2, (some .int), 10, 1),
  (⟨RX10, "tide", "(I)J"⟩, prog_12_method_9_code, 2, (some .long), 10, 1),
  (⟨RX10, "pond", "(III)J"⟩, prog_12_method_10_code, 4, (some .long), 10, 3),
  (⟨RX10, "gate", "(II)J"⟩, prog_12_method_11_code, 4, (some .long), 10, 2),
  (⟨RX10, "water", "(II)J"⟩, prog_12_method_12_code, 4, (some .long), 10, 2),
  (⟨RX10, "channel", "(III)J"⟩, prog_12_method_13_code, 4, (some .long), 10, 3),
  (⟨RX10, "widen", "(II)J"⟩, prog_12_method_14_code, 4, (some .long), 10, 2),
  (⟨RX10, "about", "(II)J"⟩, prog_12_method_15_code, 5, (some .long), 10, 2),
  (⟨RX10, "mill", "(IIIII)J"⟩, prog_12_method_16_code, 6, (some .long), 10, 5),
  (⟨RX10, "as", "(II)J"⟩, prog_12_method_17_code, 3, (some .long), 10, 2),
  (⟨RX10, "stone", "(IIIII)J"⟩, prog_12_method_18_code, 7, (some .long), 10, 5),
  (⟨RX10, "on", "(III)J"⟩, prog_12_method_19_code, 6, (some .long), 10, 3),
  (⟨RX10, "sack", "(IIII)J"⟩, prog_12_method_20_code, 6, (some .long), 10, 4),
  (⟨RX10, "row", "(III)J"⟩, prog_12_method_21_code, 4, (some .long), 10, 3),
  (⟨RX10, "told", "(II)J"⟩, prog_12_method_22_code, 4, (some .long), 10, 2),
  (⟨RX10, "flour", "(I)J"⟩, prog_12_method_23_code, 2, (some .long), 10, 1),
  (⟨RX10, "flows", "(II)V"⟩, prog_12_method_24_code, 3, none, 10, 2),
  (⟨RX10, "gates", "([II)V"⟩, prog_12_method_25_code, 7, none, 10, 2),
  (⟨RX10, "evens", "([I)V"⟩, prog_12_method_26_code, 10, none, 10, 1),
  (⟨RX10, "keptFor", "(I)I"⟩, prog_12_method_27_code, 4, (some .int), 10, 1),
  (⟨RX10, "turns", "([III)V"⟩, prog_12_method_28_code, 7, none, 10, 3),
  (⟨RX10, "turn", "([IIIII)V"⟩, prog_12_method_29_code, 9, none, 10, 5),
  (⟨RX10, "gives", "(II)V"⟩, prog_12_method_30_code, 7, none, 10, 2),
  (⟨RX10, "done", "(II)V"⟩, prog_12_method_31_code, 5, none, 10, 2),
  (⟨RX10, "spills", "([I)V"⟩, prog_12_method_32_code, 4, none, 10, 1),
  (⟨RX10, "goes", "([IIIZ)V"⟩, prog_12_method_33_code, 6, none, 10, 4),
  (⟨RX10, "begin", "()V"⟩, prog_12_method_34_code, 2, none, 10, 0),
  (⟨RX10, "hours", "(I)J"⟩, prog_12_method_35_code, 6, (some .long), 10, 1),
  (⟨RX10, "running", "()J"⟩, prog_12_method_36_code, 1, (some .long), 10, 0),
  (⟨RX10, "best", "(III)J"⟩, prog_12_method_37_code, 14, (some .long), 10, 3),
  (⟨RX10, "ahead", "(II)J"⟩, prog_12_method_38_code, 4, (some .long), 10, 2),
  (⟨RX10, "all", "(I)J"⟩, prog_12_method_39_code, 5, (some .long), 10, 1),
  (⟨RX10, "tell", "(I)J"⟩, prog_12_method_40_code, 2, (some .long), 10, 1),
  (⟨RX10, "check", "(I)J"⟩, prog_12_method_41_code, 4, (some .long), 10, 1),
  (⟨RX10, "count", "(I)J"⟩, prog_12_method_42_code, 4, (some .long), 10, 1),
  (⟨RX10, "found", "(I)J"⟩, prog_12_method_43_code, 2, (some .long), 10, 1),
  (⟨RJ6, "bitCount", "(I)I"⟩, prog_13_method_49_code, 1, (some .int), 12, 1),
  (⟨RL, "law", "([I)Z"⟩, code, 4, (some .boolean), 11, 1)]
def mDft : MethodName × ByteArray × Nat × Option FieldType × Nat × Nat := (⟨RX0, "", ""⟩, ⟨#[]⟩, 0, none, 0, 0)
def yn (k : Nat) : MethodName := (mTab.getD k mDft).1
def cd (k : Nat) : ByteArray := (mTab.getD k mDft).2.1
def mx (k : Nat) : Nat := (mTab.getD k mDft).2.2.1
def mrt (k : Nat) : Option FieldType := (mTab.getD k mDft).2.2.2.1
def ow (k : Nat) : Nat := (mTab.getD k mDft).2.2.2.2.1
def na (k : Nat) : Nat := (mTab.getD k mDft).2.2.2.2.2
/-- field links: (kl number, pool place, kl number, slot) -/
def fL : List (Nat × Nat × Nat × Nat) := [(7, 9, 7, 0), (9, 90, 7, 0), (7, 15, 7, 1), (9, 87, 7, 1), (3, 9, 3, 0), (1, 91, 3, 0), (8, 64, 3, 0), (9, 107, 3, 0), (3, 15, 3, 1), (9, 112, 3, 1), (3, 18, 3, 2), (9, 115, 3, 2), (3, 21, 3, 3), (9, 121, 3, 3), (0, 7, 0, 0), (1, 72, 0, 0), (9, 135, 0, 0), (0, 13, 0, 1), (1, 81, 0, 1), (9, 140, 0, 1), (0, 16, 0, 2), (1, 84, 0, 2), (9, 143, 0, 2), (6, 7, 6, 0), (9, 198, 6, 0), (6, 13, 6, 1), (1, 134, 6, 1), (9, 203, 6, 1), (6, 16, 6, 2), (9, 206, 6, 2), (6, 19, 6, 3), (9, 209, 6, 3), (6, 22, 6, 4), (9, 212, 6, 4), (4, 7, 4, 0), (2, 84, 4, 0), (9, 226, 4, 0), (4, 13, 4, 1), (2, 78, 4, 1), (9, 229, 4, 1), (4, 16, 4, 2), (2, 65, 4, 2), (9, 232, 4, 2), (4, 19, 4, 3), (2, 81, 4, 3), (9, 235, 4, 3), (2, 11, 2, 0), (1, 124, 2, 0), (9, 194, 2, 0), (2, 19, 2, 1), (9, 222, 2, 1), (2, 23, 2, 2), (9, 164, 2, 2), (2, 27, 2, 3), (8, 49, 2, 3), (1, 112, 2, 3), (9, 169, 2, 3), (2, 30, 2, 4), (8, 46, 2, 4), (9, 172, 2, 4), (2, 33, 2, 5), (8, 55, 2, 5), (9, 175, 2, 5), (2, 36, 2, 6), (9, 178, 2, 6), (2, 39, 2, 7), (1, 121, 2, 7), (9, 191, 2, 7), (2, 42, 2, 8), (8, 52, 2, 8), (9, 219, 2, 8), (2, 45, 2, 9), (9, 238, 2, 9), (2, 48, 2, 10), (9, 241, 2, 10), (2, 51, 2, 11), (9, 244, 2, 11), (2, 54, 2, 12), (9, 247, 2, 12), (2, 57, 2, 13), (9, 250, 2, 13), (2, 60, 2, 14), (9, 253, 2, 14), (8, 11, 8, 0), (1, 52, 8, 0), (9, 103, 8, 0), (8, 19, 8, 1), (1, 68, 8, 1), (9, 131, 8, 1), (8, 25, 8, 2), (1, 108, 8, 2), (9, 160, 8, 2), (8, 29, 8, 3), (1, 102, 8, 3), (8, 33, 8, 4), (1, 47, 8, 4), (9, 100, 8, 4), (8, 37, 8, 5), (1, 65, 8, 5), (9, 128, 8, 5), (8, 40, 8, 6), (1, 99, 8, 6), (9, 157, 8, 6), (1, 28, 1, 0), (1, 9, 1, 1), (9, 269, 1, 1), (1, 15, 1, 2), (9, 292, 1, 2), (1, 19, 1, 3), (9, 293, 1, 3), (1, 22, 1, 4), (9, 294, 1, 4), (1, 25, 1, 5), (9, 295, 1, 5), (5, 37, 5, 0), (5, 41, 5, 1), (5, 11, 5, 2), (5, 16, 5, 3), (9, 323, 5, 3), (5, 20, 5, 4), (9, 312, 5, 4), (5, 23, 5, 5), (5, 26, 5, 6), (9, 279, 5, 6), (5, 29, 5, 7), (9, 282, 5, 7), (9, 10, 9, 0), (9, 19, 9, 1), (9, 28, 9, 2), (9, 37, 9, 3), (9, 41, 9, 4), (9, 45, 9, 5), (9, 48, 9, 6), (9, 51, 9, 7), (9, 54, 9, 8), (9, 57, 9, 9), (9, 61, 9, 10), (9, 64, 9, 11), (9, 67, 9, 12), (9, 70, 9, 13), (9, 73, 9, 14), (9, 76, 9, 15), (10, 147, 10, 0), (10, 9, 10, 1), (10, 13, 10, 2), (10, 111, 10, 3), (10, 17, 10, 4), (10, 20, 10, 5), (10, 23, 10, 6), (10, 26, 10, 7), (10, 29, 10, 8), (10, 136, 10, 9), (10, 32, 10, 10), (10, 35, 10, 11), (10, 38, 10, 12), (10, 118, 10, 13), (10, 41, 10, 14), (10, 44, 10, 15), (10, 47, 10, 16), (10, 50, 10, 17), (10, 53, 10, 18), (10, 56, 10, 19), (10, 59, 10, 20), (10, 62, 10, 21), (10, 65, 10, 22), (10, 68, 10, 23), (10, 144, 10, 24), (10, 71, 10, 25), (10, 74, 10, 26), (10, 77, 10, 27), (10, 81, 10, 28), (10, 84, 10, 29), (10, 204, 10, 30), (10, 87, 10, 31), (10, 90, 10, 32), (10, 93, 10, 33), (10, 164, 10, 34), (10, 96, 10, 35), (10, 154, 10, 36)]
/-- method links: (kl number, pool place, kind, method) -/
def mLk : List (Nat × Nat × Nat × Nat) := [(11, 9, 2, 37), (9, 1, 5, 0), (9, 9, 2, 30), (7, 3, 5, 0), (7, 19, 8, 0), (7, 25, 6, 0), (9, 18, 2, 32), (8, 3, 5, 0), (8, 43, 4, 15), (3, 3, 5, 0), (8, 44, 4, 0), (0, 1, 5, 0), (8, 45, 2, 11), (2, 3, 5, 0), (2, 63, 4, 27), (6, 1, 5, 0), (2, 64, 4, 20), (4, 1, 5, 0), (9, 25, 2, 1), (1, 3, 5, 0), (9, 34, 2, 21), (5, 3, 5, 0), (5, 34, 2, 1), (11, 13, 0, 38), (9, 79, 1, 65), (9, 83, 0, 64), (11, 20, 0, 39), (11, 27, 0, 40), (9, 93, 0, 31), (11, 32, 0, 41), (9, 96, 1, 66), (11, 39, 0, 42), (9, 118, 0, 70), (11, 44, 0, 43), (9, 124, 0, 17), (11, 49, 0, 44), (11, 54, 0, 45), (11, 59, 0, 46), (9, 144, 0, 16), (9, 147, 0, 34), (11, 64, 0, 47), (9, 150, 1, 67), (9, 153, 1, 69), (9, 216, 1, 68), (9, 181, 0, 33), (11, 71, 0, 48), (9, 185, 0, 71), (9, 188, 0, 12), (11, 76, 0, 49), (11, 81, 0, 50), (11, 86, 0, 51), (11, 93, 0, 52), (11, 98, 0, 53), (11, 103, 0, 54), (11, 108, 0, 55), (9, 256, 0, 2), (1, 32, 0, 3), (1, 56, 0, 18), (3, 24, 0, 16), (3, 28, 7, 0), (1, 62, 0, 19), (1, 36, 0, 4), (1, 77, 0, 16), (1, 87, 0, 5), (1, 94, 7, 0), (1, 40, 0, 6), (1, 105, 0, 7), (1, 117, 0, 36), (8, 58, 6, 0), (1, 128, 0, 28), (1, 137, 0, 29), (6, 26, 7, 0), (1, 44, 0, 8), (1, 140, 0, 17), (9, 260, 0, 73), (9, 263, 0, 74), (9, 296, 0, 10), (9, 299, 0, 9), (9, 302, 0, 13), (2, 68, 7, 0), (2, 74, 0, 14), (2, 85, 3, 68), (11, 113, 0, 56), (9, 266, 0, 75), (9, 306, 9, 0), (11, 120, 0, 57), (9, 271, 0, 22), (5, 45, 9, 0), (9, 275, 1, 76), (9, 315, 0, 26), (5, 64, 1, 121), (9, 319, 0, 25), (5, 51, 0, 31), (5, 57, 0, 2), (5, 61, 0, 9), (11, 125, 0, 58), (11, 130, 0, 59), (9, 285, 0, 72), (11, 135, 0, 60), (11, 140, 0, 61), (11, 145, 0, 62), (9, 288, 0, 35), (11, 150, 0, 63), (11, 12, 2, 78), (10, 3, 5, 0), (10, 99, 8, 0), (10, 105, 6, 0), (11, 17, 0, 83), (10, 114, 1, 80), (10, 123, 0, 79), (11, 24, 0, 84), (11, 30, 0, 86), (10, 127, 0, 85), (11, 36, 0, 87), (11, 42, 0, 88), (10, 132, 0, 81), (11, 47, 0, 89), (11, 52, 0, 90), (11, 57, 0, 91), (11, 62, 0, 92), (11, 68, 0, 93), (11, 74, 0, 94), (10, 139, 0, 82), (11, 79, 0, 95), (11, 84, 0, 96), (11, 90, 0, 97), (11, 96, 0, 98), (11, 101, 0, 99), (11, 106, 0, 100), (11, 111, 0, 112), (10, 195, 0, 110), (10, 180, 0, 102), (10, 158, 7, 0), (10, 161, 0, 101), (10, 184, 0, 103), (10, 188, 0, 105), (10, 167, 0, 106), (10, 171, 0, 104), (10, 174, 0, 107), (10, 177, 0, 108), (10, 192, 0, 109), (11, 117, 0, 113), (10, 199, 0, 111), (11, 123, 0, 114), (11, 128, 0, 115), (11, 133, 0, 116), (11, 138, 0, 117), (11, 143, 0, 118), (11, 148, 0, 119), (11, 153, 0, 120)]
def cL : List (Nat × Nat × Int32) := [(9, 291, -1000000000), (12, 265, 1431655765), (12, 266, 858993459), (12, 267, 252645135)]
def cJ : List (Nat × Nat × Int64) := [(10, 121, -1000000001), (10, 109, -1000000000), (10, 130, -1000000004), (10, 142, -1000000005), (10, 150, -1000000003), (10, 152, -1000000002), (10, 202, -1)]
/-- kl links of new and anewarray: (kl number, pool place, kl number) -/
def nL : List (Nat × Nat × Nat) := [(11, 7, 9), (9, 7, 7), (9, 16, 8), (8, 9, 3), (8, 17, 0), (8, 23, 2), (2, 9, 6), (2, 17, 4), (9, 23, 1), (9, 32, 5), (5, 32, 1), (11, 10, 10)]
def nestL : List Cond := [.methodLinkNest (RN 8) 43 (yn 15) "TideMill", .methodLinkNest (RN 8) 44 (yn 0) "TideMill", .methodLinkNest (RN 2) 63 (yn 27) "TideMill", .methodLinkNest (RN 2) 64 (yn 20) "TideMill", .methodLinkNest (RN 2) 85 (yn 68) "TideMill"]
