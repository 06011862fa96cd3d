section
-- ===== PART A: goes FIRST, ahead of the names: the tables' words, and 'selects' of the private methods out of them =====
/-- a private method of a class that the tables say can be made, by its rows of tables_1 -/
def lw_okq (q : MethodName × Nat) : Prop := (q.1.cls ≠ "java/lang/invoke/MethodHandle" ∧ q.1.cls ≠ "java/lang/invoke/VarHandle") ∧ Cond.instantiable q.1.cls q.2 ∈ tables_1 ∧ Cond.privateMethod q.1 ∈ tables_1 ∧ Cond.instanceMethod q.1 ∈ tables_1
theorem lw_p0 : lw_okq (⟨"NestShelf", "hasRoomFor", "(I)Z"⟩, 4) := ⟨⟨by decide +kernel, by decide +kernel⟩, List.mem_of_getElem? (i := 8) (by decide +kernel), List.mem_of_getElem? (i := 63) (by decide +kernel), List.mem_of_getElem? (i := 64) (by decide +kernel)⟩
theorem lw_p1 : lw_okq (⟨"NestShelf", "shelve", "(LNestShelf$Thing;)I"⟩, 4) := ⟨⟨by decide +kernel, by decide +kernel⟩, List.mem_of_getElem? (i := 8) (by decide +kernel), List.mem_of_getElem? (i := 148) (by decide +kernel), List.mem_of_getElem? (i := 149) (by decide +kernel)⟩
theorem lw_p2 : lw_okq (⟨"NestShelf", "thingAt", "(I)LNestShelf$Thing;"⟩, 4) := ⟨⟨by decide +kernel, by decide +kernel⟩, List.mem_of_getElem? (i := 8) (by decide +kernel), List.mem_of_getElem? (i := 160) (by decide +kernel), List.mem_of_getElem? (i := 161) (by decide +kernel)⟩
theorem lw_p3 : lw_okq (⟨"NestShelf", "walkRefusal", "(LNestShelf$Thing;)I"⟩, 4) := ⟨⟨by decide +kernel, by decide +kernel⟩, List.mem_of_getElem? (i := 8) (by decide +kernel), List.mem_of_getElem? (i := 220) (by decide +kernel), List.mem_of_getElem? (i := 221) (by decide +kernel)⟩
theorem lw_p4 : lw_okq (⟨"NestShelf$Walk", "arrive", "(LNestShelf$Thing;LNestShelf$Thing;)LNestShelf$Thing;"⟩, 6) := ⟨⟨by decide +kernel, by decide +kernel⟩, List.mem_of_getElem? (i := 18) (by decide +kernel), List.mem_of_getElem? (i := 228) (by decide +kernel), List.mem_of_getElem? (i := 229) (by decide +kernel)⟩
theorem lw_p5 : lw_okq (⟨"NestShelf$Walk", "leave", "(LNestShelf$Thing;)LNestShelf$Thing;"⟩, 6) := ⟨⟨by decide +kernel, by decide +kernel⟩, List.mem_of_getElem? (i := 18) (by decide +kernel), List.mem_of_getElem? (i := 237) (by decide +kernel), List.mem_of_getElem? (i := 238) (by decide +kernel)⟩
theorem lw_p6 : lw_okq (⟨"NestShelf$Walk", "meet", "(LNestShelf$Thing;LNestShelf$Thing;)LNestShelf$Thing;"⟩, 6) := ⟨⟨by decide +kernel, by decide +kernel⟩, List.mem_of_getElem? (i := 18) (by decide +kernel), List.mem_of_getElem? (i := 245) (by decide +kernel), List.mem_of_getElem? (i := 246) (by decide +kernel)⟩
theorem lw_p7 : lw_okq (⟨"NestShelf$Matching", "join", "(LNestShelf$Thing;LNestShelf$Thing;)LNestShelf$Thing;"⟩, 1) := ⟨⟨by decide +kernel, by decide +kernel⟩, List.mem_of_getElem? (i := 264) (by decide +kernel), List.mem_of_getElem? (i := 278) (by decide +kernel), List.mem_of_getElem? (i := 279) (by decide +kernel)⟩
theorem lw_p8 : lw_okq (⟨"NestShelf$Thing", "hasNumbersOf", "(LNestShelf$Thing;)Z"⟩, 17) := ⟨⟨by decide +kernel, by decide +kernel⟩, List.mem_of_getElem? (i := 69) (by decide +kernel), List.mem_of_getElem? (i := 289) (by decide +kernel), List.mem_of_getElem? (i := 290) (by decide +kernel)⟩
theorem lw_p9 : lw_okq (⟨"NestShelf$Matching", "joinPlaces", "(LNestShelf$Thing;LNestShelf$Thing;)Z"⟩, 1) := ⟨⟨by decide +kernel, by decide +kernel⟩, List.mem_of_getElem? (i := 264) (by decide +kernel), List.mem_of_getElem? (i := 293) (by decide +kernel), List.mem_of_getElem? (i := 294) (by decide +kernel)⟩
theorem lw_p10 : lw_okq (⟨"NestShelf", "copyRefusal", "(LNestShelf$Thing;I)I"⟩, 4) := ⟨⟨by decide +kernel, by decide +kernel⟩, List.mem_of_getElem? (i := 8) (by decide +kernel), List.mem_of_getElem? (i := 318) (by decide +kernel), List.mem_of_getElem? (i := 319) (by decide +kernel)⟩
theorem lw_p11 : lw_okq (⟨"NestShelf", "shelveTwins", "(LNestShelf$Thing;)I"⟩, 4) := ⟨⟨by decide +kernel, by decide +kernel⟩, List.mem_of_getElem? (i := 8) (by decide +kernel), List.mem_of_getElem? (i := 340) (by decide +kernel), List.mem_of_getElem? (i := 341) (by decide +kernel)⟩
theorem lw_p12 : lw_okq (⟨"NestShelfModel", "add", "(III)I"⟩, 20) := ⟨⟨by decide +kernel, by decide +kernel⟩, List.mem_of_getElem? (i := 359) (by decide +kernel), List.mem_of_getElem? (i := 435) (by decide +kernel), List.mem_of_getElem? (i := 436) (by decide +kernel)⟩
theorem lw_p13 : lw_okq (⟨"NestShelfModel", "isThere", "(I)Z"⟩, 20) := ⟨⟨by decide +kernel, by decide +kernel⟩, List.mem_of_getElem? (i := 359) (by decide +kernel), List.mem_of_getElem? (i := 451) (by decide +kernel), List.mem_of_getElem? (i := 452) (by decide +kernel)⟩
theorem lw_p14 : lw_okq (⟨"NestShelfModel", "mayHang", "(II)Z"⟩, 20) := ⟨⟨by decide +kernel, by decide +kernel⟩, List.mem_of_getElem? (i := 359) (by decide +kernel), List.mem_of_getElem? (i := 463) (by decide +kernel), List.mem_of_getElem? (i := 464) (by decide +kernel)⟩
theorem lw_p15 : lw_okq (⟨"NestShelfModel", "passes", "(II)Z"⟩, 20) := ⟨⟨by decide +kernel, by decide +kernel⟩, List.mem_of_getElem? (i := 359) (by decide +kernel), List.mem_of_getElem? (i := 467) (by decide +kernel), List.mem_of_getElem? (i := 468) (by decide +kernel)⟩
def lw_privs_1 : List (MethodName × Nat) := [(⟨"NestShelf", "hasRoomFor", "(I)Z"⟩, 4), (⟨"NestShelf", "shelve", "(LNestShelf$Thing;)I"⟩, 4), (⟨"NestShelf", "thingAt", "(I)LNestShelf$Thing;"⟩, 4), (⟨"NestShelf", "walkRefusal", "(LNestShelf$Thing;)I"⟩, 4), (⟨"NestShelf$Walk", "arrive", "(LNestShelf$Thing;LNestShelf$Thing;)LNestShelf$Thing;"⟩, 6), (⟨"NestShelf$Walk", "leave", "(LNestShelf$Thing;)LNestShelf$Thing;"⟩, 6), (⟨"NestShelf$Walk", "meet", "(LNestShelf$Thing;LNestShelf$Thing;)LNestShelf$Thing;"⟩, 6), (⟨"NestShelf$Matching", "join", "(LNestShelf$Thing;LNestShelf$Thing;)LNestShelf$Thing;"⟩, 1), (⟨"NestShelf$Thing", "hasNumbersOf", "(LNestShelf$Thing;)Z"⟩, 17), (⟨"NestShelf$Matching", "joinPlaces", "(LNestShelf$Thing;LNestShelf$Thing;)Z"⟩, 1), (⟨"NestShelf", "copyRefusal", "(LNestShelf$Thing;I)I"⟩, 4), (⟨"NestShelf", "shelveTwins", "(LNestShelf$Thing;)I"⟩, 4), (⟨"NestShelfModel", "add", "(III)I"⟩, 20), (⟨"NestShelfModel", "isThere", "(I)Z"⟩, 20), (⟨"NestShelfModel", "mayHang", "(II)Z"⟩, 20), (⟨"NestShelfModel", "passes", "(II)Z"⟩, 20)]
theorem lw_r1 : ∀ q ∈ lw_privs_1, lw_okq q := List.forall_mem_cons.mpr ⟨lw_p0, List.forall_mem_cons.mpr ⟨lw_p1, List.forall_mem_cons.mpr ⟨lw_p2, List.forall_mem_cons.mpr ⟨lw_p3, List.forall_mem_cons.mpr ⟨lw_p4, List.forall_mem_cons.mpr ⟨lw_p5, List.forall_mem_cons.mpr ⟨lw_p6, List.forall_mem_cons.mpr ⟨lw_p7, List.forall_mem_cons.mpr ⟨lw_p8, List.forall_mem_cons.mpr ⟨lw_p9, List.forall_mem_cons.mpr ⟨lw_p10, List.forall_mem_cons.mpr ⟨lw_p11, List.forall_mem_cons.mpr ⟨lw_p12, List.forall_mem_cons.mpr ⟨lw_p13, List.forall_mem_cons.mpr ⟨lw_p14, List.forall_mem_cons.mpr ⟨lw_p15, fun _ h => absurd h List.not_mem_nil⟩⟩⟩⟩⟩⟩⟩⟩⟩⟩⟩⟩⟩⟩⟩⟩
theorem lw_p16 : lw_okq (⟨"NestShelfModel", "hung", "(II)I"⟩, 20) := ⟨⟨by decide +kernel, by decide +kernel⟩, List.mem_of_getElem? (i := 359) (by decide +kernel), List.mem_of_getElem? (i := 487) (by decide +kernel), List.mem_of_getElem? (i := 488) (by decide +kernel)⟩
theorem lw_p17 : lw_okq (⟨"NestShelfModel", "goThrough", "(I)I"⟩, 20) := ⟨⟨by decide +kernel, by decide +kernel⟩, List.mem_of_getElem? (i := 359) (by decide +kernel), List.mem_of_getElem? (i := 503) (by decide +kernel), List.mem_of_getElem? (i := 504) (by decide +kernel)⟩
theorem lw_p18 : lw_okq (⟨"NestShelfModel", "beginWalk", "()V"⟩, 20) := ⟨⟨by decide +kernel, by decide +kernel⟩, List.mem_of_getElem? (i := 359) (by decide +kernel), List.mem_of_getElem? (i := 507) (by decide +kernel), List.mem_of_getElem? (i := 508) (by decide +kernel)⟩
theorem lw_p19 : lw_okq (⟨"NestShelfModel", "walk", "(I)Z"⟩, 20) := ⟨⟨by decide +kernel, by decide +kernel⟩, List.mem_of_getElem? (i := 359) (by decide +kernel), List.mem_of_getElem? (i := 511) (by decide +kernel), List.mem_of_getElem? (i := 512) (by decide +kernel)⟩
theorem lw_p20 : lw_okq (⟨"NestShelfModel", "comeTo", "(II)V"⟩, 20) := ⟨⟨by decide +kernel, by decide +kernel⟩, List.mem_of_getElem? (i := 359) (by decide +kernel), List.mem_of_getElem? (i := 515) (by decide +kernel), List.mem_of_getElem? (i := 516) (by decide +kernel)⟩
theorem lw_p21 : lw_okq (⟨"NestShelfModel", "hooks", "(I)I"⟩, 20) := ⟨⟨by decide +kernel, by decide +kernel⟩, List.mem_of_getElem? (i := 359) (by decide +kernel), List.mem_of_getElem? (i := 519) (by decide +kernel), List.mem_of_getElem? (i := 520) (by decide +kernel)⟩
theorem lw_p22 : lw_okq (⟨"NestShelfModel", "workDepths", "()V"⟩, 20) := ⟨⟨by decide +kernel, by decide +kernel⟩, List.mem_of_getElem? (i := 359) (by decide +kernel), List.mem_of_getElem? (i := 523) (by decide +kernel), List.mem_of_getElem? (i := 524) (by decide +kernel)⟩
theorem lw_p23 : lw_okq (⟨"NestShelfModel", "own", "(I)J"⟩, 20) := ⟨⟨by decide +kernel, by decide +kernel⟩, List.mem_of_getElem? (i := 359) (by decide +kernel), List.mem_of_getElem? (i := 527) (by decide +kernel), List.mem_of_getElem? (i := 528) (by decide +kernel)⟩
theorem lw_p24 : lw_okq (⟨"NestShelfModel", "workLikes", "()V"⟩, 20) := ⟨⟨by decide +kernel, by decide +kernel⟩, List.mem_of_getElem? (i := 359) (by decide +kernel), List.mem_of_getElem? (i := 543) (by decide +kernel), List.mem_of_getElem? (i := 544) (by decide +kernel)⟩
theorem lw_p25 : lw_okq (⟨"NestShelfModel", "mix", "(I)J"⟩, 20) := ⟨⟨by decide +kernel, by decide +kernel⟩, List.mem_of_getElem? (i := 359) (by decide +kernel), List.mem_of_getElem? (i := 547) (by decide +kernel), List.mem_of_getElem? (i := 548) (by decide +kernel)⟩
theorem lw_p26 : lw_okq (⟨"NestShelfModel", "isLike", "(II)Z"⟩, 20) := ⟨⟨by decide +kernel, by decide +kernel⟩, List.mem_of_getElem? (i := 359) (by decide +kernel), List.mem_of_getElem? (i := 553) (by decide +kernel), List.mem_of_getElem? (i := 554) (by decide +kernel)⟩
theorem lw_p27 : lw_okq (⟨"NestShelfModel", "copyOne", "(I)I"⟩, 20) := ⟨⟨by decide +kernel, by decide +kernel⟩, List.mem_of_getElem? (i := 359) (by decide +kernel), List.mem_of_getElem? (i := 569) (by decide +kernel), List.mem_of_getElem? (i := 570) (by decide +kernel)⟩
def lw_privs_2 : List (MethodName × Nat) := [(⟨"NestShelfModel", "hung", "(II)I"⟩, 20), (⟨"NestShelfModel", "goThrough", "(I)I"⟩, 20), (⟨"NestShelfModel", "beginWalk", "()V"⟩, 20), (⟨"NestShelfModel", "walk", "(I)Z"⟩, 20), (⟨"NestShelfModel", "comeTo", "(II)V"⟩, 20), (⟨"NestShelfModel", "hooks", "(I)I"⟩, 20), (⟨"NestShelfModel", "workDepths", "()V"⟩, 20), (⟨"NestShelfModel", "own", "(I)J"⟩, 20), (⟨"NestShelfModel", "workLikes", "()V"⟩, 20), (⟨"NestShelfModel", "mix", "(I)J"⟩, 20), (⟨"NestShelfModel", "isLike", "(II)Z"⟩, 20), (⟨"NestShelfModel", "copyOne", "(I)I"⟩, 20)]
theorem lw_r2 : ∀ q ∈ lw_privs_2, lw_okq q := List.forall_mem_cons.mpr ⟨lw_p16, List.forall_mem_cons.mpr ⟨lw_p17, List.forall_mem_cons.mpr ⟨lw_p18, List.forall_mem_cons.mpr ⟨lw_p19, List.forall_mem_cons.mpr ⟨lw_p20, List.forall_mem_cons.mpr ⟨lw_p21, List.forall_mem_cons.mpr ⟨lw_p22, List.forall_mem_cons.mpr ⟨lw_p23, List.forall_mem_cons.mpr ⟨lw_p24, List.forall_mem_cons.mpr ⟨lw_p25, List.forall_mem_cons.mpr ⟨lw_p26, List.forall_mem_cons.mpr ⟨lw_p27, fun _ h => absurd h List.not_mem_nil⟩⟩⟩⟩⟩⟩⟩⟩⟩⟩⟩⟩
def lw_privs : List (MethodName × Nat) := lw_privs_1 ++ (lw_privs_2)
def lw_tbl : List Cond := k2_sels lw_privs ++ tables_1
theorem lw_privs_ok : ∀ q ∈ lw_privs, lw_okq q := by
  show ∀ q ∈ lw_privs_1 ++ (lw_privs_2), lw_okq q
  exact List.forall_mem_append.mpr ⟨lw_r1, lw_r2⟩
end
section
theorem goodIn_r {big : List Cond} (ws : List Cond) (ps : List Nat) (hp : ws = ps.filterMap (fun i => big[i]?)) (h : ws.all goodWord = true) : GoodIn big ws := by
  intro w hw
  have h1 := List.all_eq_true.mp h w hw
  rw [hp] at hw
  obtain ⟨i, -, hi⟩ := List.mem_filterMap.mp hw
  have hm : w ∈ big := by first | exact List.mem_of_getElem? hi | exact List.getElem?_mem hi
  exact ⟨hm, good_of_word h1⟩
theorem goodIn_app {big a b : List Cond} (ha : GoodIn big a) (hb : GoodIn big b) : GoodIn big (a ++ b) := fun w h => (List.mem_append.mp h).elim (ha w) (hb w)
theorem goodIn_ca {big a b : List Cond} {c : Cond} (ha : GoodIn big (c :: a)) (hb : GoodIn big b) : GoodIn big (c :: (a ++ b)) := fun w h => (List.mem_cons.mp h).elim (fun e => ha w (List.mem_cons.mpr (Or.inl e))) (fun h => (List.mem_append.mp h).elim (fun h => ha w (List.mem_cons.mpr (Or.inr h))) (hb w))
theorem goodIn_sub {big ws : List Cond} (hm : ∀ w ∈ ws, w ∈ big) (h : ws.all goodWord = true) : GoodIn big ws := fun w hw => ⟨hm w hw, good_of_word (List.all_eq_true.mp h w hw)⟩

def RX0 : String := "NestShelf$Matching"
def TX0 : u_T := fun k => match k with
  | _ => ("NestShelf$Matching", "lastJoined", "LNestShelf$Thing;", false)
def tyX0 : Nat → FieldType := fun k => match k with
  | _ => .object "NestShelf$Thing"
abbrev wsX00 : List Cond := u_ws RX0 TX0 1
theorem nmX0 : ∀ a, a < 1 → ∀ b, b < 1 → a ≠ b → (TX0 a).2.1 ≠ (TX0 b).2.1 := by decide +kernel
theorem tyX0_ok : ∀ k, k < 1 → parseFieldDescriptor (TX0 k).2.2.1 = some (tyX0 k) := by decide +kernel
abbrev cX0_init : ByteArray := prog_2_method_1_code
def yX0_init : MethodName := ⟨RX0, "<init>", "()V"⟩
abbrev cX0_matches : ByteArray := prog_2_method_2_code
def yX0_matches : MethodName := ⟨RX0, "matches", "(LNestShelf$Thing;LNestShelf$Thing;)Z"⟩
abbrev cX0_joinPlaces : ByteArray := prog_2_method_3_code
def yX0_joinPlaces : MethodName := ⟨RX0, "joinPlaces", "(LNestShelf$Thing;LNestShelf$Thing;)Z"⟩
abbrev cX0_join : ByteArray := prog_2_method_4_code
def yX0_join : MethodName := ⟨RX0, "join", "(LNestShelf$Thing;LNestShelf$Thing;)LNestShelf$Thing;"⟩
abbrev cX0_topOf : ByteArray := prog_2_method_5_code
def yX0_topOf : MethodName := ⟨RX0, "topOf", "(LNestShelf$Thing;)LNestShelf$Thing;"⟩
def RX1 : String := "NestShelf$Thing"
def TX1 : u_T := fun k => match k with
  | 0 => ("NestShelf$Thing", "id", "I", true)
  | 1 => ("NestShelf$Thing", "kind", "I", true)
  | 2 => ("NestShelf$Thing", "value", "I", true)
  | 3 => ("NestShelf$Thing", "numbers", "[J", true)
  | 4 => ("NestShelf$Thing", "hung", "[LNestShelf$Thing;", true)
  | 5 => ("NestShelf$Thing", "sum", "J", false)
  | 6 => ("NestShelf$Thing", "walkNumber", "I", false)
  | 7 => ("NestShelf$Thing", "open", "Z", false)
  | 8 => ("NestShelf$Thing", "nextPlace", "I", false)
  | 9 => ("NestShelf$Thing", "cameFrom", "LNestShelf$Thing;", false)
  | 10 => ("NestShelf$Thing", "nextReached", "LNestShelf$Thing;", false)
  | 11 => ("NestShelf$Thing", "longest", "I", false)
  | 12 => ("NestShelf$Thing", "total", "J", false)
  | 13 => ("NestShelf$Thing", "twin", "LNestShelf$Thing;", false)
  | 14 => ("NestShelf$Thing", "leader", "LNestShelf$Thing;", false)
  | 15 => ("NestShelf$Thing", "followers", "I", false)
  | _ => ("NestShelf$Thing", "nextJoined", "LNestShelf$Thing;", false)
def tyX1 : Nat → FieldType := fun k => match k with
  | 0 => .int
  | 1 => .int
  | 2 => .int
  | 3 => .array .long
  | 4 => .array (.object "NestShelf$Thing")
  | 5 => .long
  | 6 => .int
  | 7 => .boolean
  | 8 => .int
  | 9 => .object "NestShelf$Thing"
  | 10 => .object "NestShelf$Thing"
  | 11 => .int
  | 12 => .long
  | 13 => .object "NestShelf$Thing"
  | 14 => .object "NestShelf$Thing"
  | 15 => .int
  | _ => .object "NestShelf$Thing"
abbrev wsX10 : List Cond := u_ws RX1 TX1 17
theorem nmX1 : ∀ a, a < 17 → ∀ b, b < 17 → a ≠ b → (TX1 a).2.1 ≠ (TX1 b).2.1 := by decide +kernel
theorem tyX1_ok : ∀ k, k < 17 → parseFieldDescriptor (TX1 k).2.2.1 = some (tyX1 k) := by decide +kernel
abbrev cX1_init : ByteArray := prog_3_method_1_code
def yX1_init : MethodName := ⟨RX1, "<init>", "(III[J[LNestShelf$Thing;)V"⟩
abbrev cX1_duplicate : ByteArray := prog_3_method_2_code
def yX1_duplicate : MethodName := ⟨RX1, "duplicate", "(I)LNestShelf$Thing;"⟩
abbrev cX1_beginNotes : ByteArray := prog_3_method_3_code
def yX1_beginNotes : MethodName := ⟨RX1, "beginNotes", "(ILNestShelf$Thing;)V"⟩
abbrev cX1_addNotesOf : ByteArray := prog_3_method_4_code
def yX1_addNotesOf : MethodName := ⟨RX1, "addNotesOf", "(LNestShelf$Thing;)V"⟩
abbrev cX1_looksLike : ByteArray := prog_3_method_5_code
def yX1_looksLike : MethodName := ⟨RX1, "looksLike", "(LNestShelf$Thing;)Z"⟩
abbrev cX1_hasNumbersOf : ByteArray := prog_3_method_6_code
def yX1_hasNumbersOf : MethodName := ⟨RX1, "hasNumbersOf", "(LNestShelf$Thing;)Z"⟩
def RX2 : String := "NestShelf$Walk"
def TX2 : u_T := fun k => match k with
  | 0 => ("NestShelf$Walk", "current", "I", false)
  | 1 => ("NestShelf$Walk", "start", "LNestShelf$Thing;", false)
  | 2 => ("NestShelf$Walk", "lastReached", "LNestShelf$Thing;", false)
  | 3 => ("NestShelf$Walk", "reached", "I", false)
  | 4 => ("NestShelf$Walk", "ringFound", "Z", false)
  | _ => ("NestShelf$Walk", "startMetAgain", "Z", false)
def tyX2 : Nat → FieldType := fun k => match k with
  | 0 => .int
  | 1 => .object "NestShelf$Thing"
  | 2 => .object "NestShelf$Thing"
  | 3 => .int
  | 4 => .boolean
  | _ => .boolean
abbrev wsX20 : List Cond := u_ws RX2 TX2 6
theorem nmX2 : ∀ a, a < 6 → ∀ b, b < 6 → a ≠ b → (TX2 a).2.1 ≠ (TX2 b).2.1 := by decide +kernel
theorem tyX2_ok : ∀ k, k < 6 → parseFieldDescriptor (TX2 k).2.2.1 = some (tyX2 k) := by decide +kernel
abbrev cX2_init : ByteArray := prog_4_method_1_code
def yX2_init : MethodName := ⟨RX2, "<init>", "()V"⟩
abbrev cX2_goFrom : ByteArray := prog_4_method_2_code
def yX2_goFrom : MethodName := ⟨RX2, "goFrom", "(LNestShelf$Thing;)V"⟩
abbrev cX2_meet : ByteArray := prog_4_method_3_code
def yX2_meet : MethodName := ⟨RX2, "meet", "(LNestShelf$Thing;LNestShelf$Thing;)LNestShelf$Thing;"⟩
abbrev cX2_arrive : ByteArray := prog_4_method_4_code
def yX2_arrive : MethodName := ⟨RX2, "arrive", "(LNestShelf$Thing;LNestShelf$Thing;)LNestShelf$Thing;"⟩
abbrev cX2_leave : ByteArray := prog_4_method_5_code
def yX2_leave : MethodName := ⟨RX2, "leave", "(LNestShelf$Thing;)LNestShelf$Thing;"⟩
def RX3 : String := "NestShelf"
def TX3 : u_T := fun k => match k with
  | 0 => ("NestShelf", "things", "[LNestShelf$Thing;", true)
  | 1 => ("NestShelf", "walk", "LNestShelf$Walk;", true)
  | 2 => ("NestShelf", "thingCount", "I", false)
  | _ => ("NestShelf", "lastStatus", "I", false)
def tyX3 : Nat → FieldType := fun k => match k with
  | 0 => .array (.object "NestShelf$Thing")
  | 1 => .object "NestShelf$Walk"
  | 2 => .int
  | _ => .int
abbrev wsX30 : List Cond := u_ws RX3 TX3 4
theorem nmX3 : ∀ a, a < 4 → ∀ b, b < 4 → a ≠ b → (TX3 a).2.1 ≠ (TX3 b).2.1 := by decide +kernel
theorem tyX3_ok : ∀ k, k < 4 → parseFieldDescriptor (TX3 k).2.2.1 = some (tyX3 k) := by decide +kernel
abbrev cX3_init : ByteArray := prog_1_method_1_code
def yX3_init : MethodName := ⟨RX3, "<init>", "()V"⟩
abbrev cX3_make : ByteArray := prog_1_method_2_code
def yX3_make : MethodName := ⟨RX3, "make", "(II)I"⟩
abbrev cX3_token : ByteArray := prog_1_method_3_code
def yX3_token : MethodName := ⟨RX3, "token", "(IZ)I"⟩
abbrev cX3_put : ByteArray := prog_1_method_4_code
def yX3_put : MethodName := ⟨RX3, "put", "(IIJ)I"⟩
abbrev cX3_hang : ByteArray := prog_1_method_5_code
def yX3_hang : MethodName := ⟨RX3, "hang", "(III)I"⟩
abbrev cX3_kind : ByteArray := prog_1_method_6_code
def yX3_kind : MethodName := ⟨RX3, "kind", "(I)I"⟩
abbrev cX3_length : ByteArray := prog_1_method_7_code
def yX3_length : MethodName := ⟨RX3, "length", "(I)I"⟩
abbrev cX3_number : ByteArray := prog_1_method_8_code
def yX3_number : MethodName := ⟨RX3, "number", "(II)J"⟩
abbrev cX3_below : ByteArray := prog_1_method_9_code
def yX3_below : MethodName := ⟨RX3, "below", "(II)I"⟩
abbrev cX3_is : ByteArray := prog_1_method_10_code
def yX3_is : MethodName := ⟨RX3, "is", "(II)I"⟩
abbrev cX3_as : ByteArray := prog_1_method_11_code
def yX3_as : MethodName := ⟨RX3, "as", "(II)I"⟩
abbrev cX3_weight : ByteArray := prog_1_method_12_code
def yX3_weight : MethodName := ⟨RX3, "weight", "(I)J"⟩
abbrev cX3_depth : ByteArray := prog_1_method_13_code
def yX3_depth : MethodName := ⟨RX3, "depth", "(I)I"⟩
abbrev cX3_equal : ByteArray := prog_1_method_14_code
def yX3_equal : MethodName := ⟨RX3, "equal", "(II)I"⟩
abbrev cX3_order : ByteArray := prog_1_method_15_code
def yX3_order : MethodName := ⟨RX3, "order", "(II)I"⟩
abbrev cX3_sort : ByteArray := prog_1_method_16_code
def yX3_sort : MethodName := ⟨RX3, "sort", "(I)I"⟩
abbrev cX3_copy : ByteArray := prog_1_method_17_code
def yX3_copy : MethodName := ⟨RX3, "copy", "(II)I"⟩
abbrev cX3_ring : ByteArray := prog_1_method_18_code
def yX3_ring : MethodName := ⟨RX3, "ring", "(I)I"⟩
abbrev cX3_status : ByteArray := prog_1_method_19_code
def yX3_status : MethodName := ⟨RX3, "status", "()I"⟩
abbrev cX3_count : ByteArray := prog_1_method_20_code
def yX3_count : MethodName := ⟨RX3, "count", "()I"⟩
abbrev cX3_thingAt : ByteArray := prog_1_method_21_code
def yX3_thingAt : MethodName := ⟨RX3, "thingAt", "(I)LNestShelf$Thing;"⟩
abbrev cX3_hasRoomFor : ByteArray := prog_1_method_22_code
def yX3_hasRoomFor : MethodName := ⟨RX3, "hasRoomFor", "(I)Z"⟩
abbrev cX3_shelve : ByteArray := prog_1_method_23_code
def yX3_shelve : MethodName := ⟨RX3, "shelve", "(LNestShelf$Thing;)I"⟩
abbrev cX3_holdsNumbers : ByteArray := prog_1_method_24_code
def yX3_holdsNumbers : MethodName := ⟨RX3, "holdsNumbers", "(I)Z"⟩
abbrev cX3_holdsThings : ByteArray := prog_1_method_25_code
def yX3_holdsThings : MethodName := ⟨RX3, "holdsThings", "(I)Z"⟩
abbrev cX3_isToken : ByteArray := prog_1_method_26_code
def yX3_isToken : MethodName := ⟨RX3, "isToken", "(I)Z"⟩
abbrev cX3_fitted : ByteArray := prog_1_method_27_code
def yX3_fitted : MethodName := ⟨RX3, "fitted", "(IJ)J"⟩
abbrev cX3_passes : ByteArray := prog_1_method_28_code
def yX3_passes : MethodName := ⟨RX3, "passes", "(II)Z"⟩
abbrev cX3_mayHang : ByteArray := prog_1_method_29_code
def yX3_mayHang : MethodName := ⟨RX3, "mayHang", "(II)Z"⟩
abbrev cX3_isUnknownQuestion : ByteArray := prog_1_method_30_code
def yX3_isUnknownQuestion : MethodName := ⟨RX3, "isUnknownQuestion", "(LNestShelf$Thing;II)Z"⟩
abbrev cX3_numberRefusal : ByteArray := prog_1_method_31_code
def yX3_numberRefusal : MethodName := ⟨RX3, "numberRefusal", "(LNestShelf$Thing;I)I"⟩
abbrev cX3_belowRefusal : ByteArray := prog_1_method_32_code
def yX3_belowRefusal : MethodName := ⟨RX3, "belowRefusal", "(LNestShelf$Thing;I)I"⟩
abbrev cX3_walkRefusal : ByteArray := prog_1_method_33_code
def yX3_walkRefusal : MethodName := ⟨RX3, "walkRefusal", "(LNestShelf$Thing;)I"⟩
abbrev cX3_firstReason : ByteArray := prog_1_method_34_code
def yX3_firstReason : MethodName := ⟨RX3, "firstReason", "(II)I"⟩
abbrev cX3_copyRefusal : ByteArray := prog_1_method_35_code
def yX3_copyRefusal : MethodName := ⟨RX3, "copyRefusal", "(LNestShelf$Thing;I)I"⟩
abbrev cX3_shelveTwins : ByteArray := prog_1_method_36_code
def yX3_shelveTwins : MethodName := ⟨RX3, "shelveTwins", "(LNestShelf$Thing;)I"⟩
abbrev cX3_hangTwins : ByteArray := prog_1_method_37_code
def yX3_hangTwins : MethodName := ⟨RX3, "hangTwins", "(LNestShelf$Thing;)V"⟩
abbrev cX3_holdsPlainToken : ByteArray := prog_1_method_38_code
def yX3_holdsPlainToken : MethodName := ⟨RX3, "holdsPlainToken", "([LNestShelf$Thing;)Z"⟩
abbrev cX3_putInOrder : ByteArray := prog_1_method_39_code
def yX3_putInOrder : MethodName := ⟨RX3, "putInOrder", "([LNestShelf$Thing;)V"⟩
abbrev cX3_belongsBehind : ByteArray := prog_1_method_40_code
def yX3_belongsBehind : MethodName := ⟨RX3, "belongsBehind", "(LNestShelf$Thing;LNestShelf$Thing;)Z"⟩
def RX4 : String := "NestShelfModel"
def TX4 : u_T := fun k => match k with
  | 0 => ("NestShelfModel", "count", "I", false)
  | 1 => ("NestShelfModel", "kinds", "[I", true)
  | 2 => ("NestShelfModel", "lengths", "[I", true)
  | 3 => ("NestShelfModel", "values", "[I", true)
  | 4 => ("NestShelfModel", "begins", "[I", true)
  | 5 => ("NestShelfModel", "places", "[J", true)
  | 6 => ("NestShelfModel", "used", "I", false)
  | 7 => ("NestShelfModel", "status", "I", false)
  | 8 => ("NestShelfModel", "state", "[I", true)
  | 9 => ("NestShelfModel", "come", "[I", true)
  | 10 => ("NestShelfModel", "left", "[I", true)
  | 11 => ("NestShelfModel", "comeMany", "I", false)
  | 12 => ("NestShelfModel", "leftMany", "I", false)
  | 13 => ("NestShelfModel", "wayThing", "[I", true)
  | 14 => ("NestShelfModel", "wayPlace", "[I", true)
  | 15 => ("NestShelfModel", "deep", "[I", true)
  | 16 => ("NestShelfModel", "heavy", "[J", true)
  | 17 => ("NestShelfModel", "like", "[I", true)
  | 18 => ("NestShelfModel", "mixed", "[J", true)
  | _ => ("NestShelfModel", "row", "[I", true)
def tyX4 : Nat → FieldType := fun k => match k with
  | 0 => .int
  | 1 => .array .int
  | 2 => .array .int
  | 3 => .array .int
  | 4 => .array .int
  | 5 => .array .long
  | 6 => .int
  | 7 => .int
  | 8 => .array .int
  | 9 => .array .int
  | 10 => .array .int
  | 11 => .int
  | 12 => .int
  | 13 => .array .int
  | 14 => .array .int
  | 15 => .array .int
  | 16 => .array .long
  | 17 => .array .int
  | 18 => .array .long
  | _ => .array .int
abbrev wsX40 : List Cond := u_ws RX4 TX4 20
theorem nmX4 : ∀ a, a < 20 → ∀ b, b < 20 → a ≠ b → (TX4 a).2.1 ≠ (TX4 b).2.1 := by decide +kernel
theorem tyX4_ok : ∀ k, k < 20 → parseFieldDescriptor (TX4 k).2.2.1 = some (tyX4 k) := by decide +kernel
abbrev cX4_init : ByteArray := prog_6_method_1_code
def yX4_init : MethodName := ⟨RX4, "<init>", "()V"⟩
abbrev cX4_in : ByteArray := prog_6_method_2_code
def yX4_in : MethodName := ⟨RX4, "in", "(III)Z"⟩
abbrev cX4_isThere : ByteArray := prog_6_method_3_code
def yX4_isThere : MethodName := ⟨RX4, "isThere", "(I)Z"⟩
abbrev cX4_isNumbers : ByteArray := prog_6_method_4_code
def yX4_isNumbers : MethodName := ⟨RX4, "isNumbers", "(I)Z"⟩
abbrev cX4_isHook : ByteArray := prog_6_method_5_code
def yX4_isHook : MethodName := ⟨RX4, "isHook", "(I)Z"⟩
abbrev cX4_hung : ByteArray := prog_6_method_6_code
def yX4_hung : MethodName := ⟨RX4, "hung", "(II)I"⟩
abbrev cX4_hooks : ByteArray := prog_6_method_7_code
def yX4_hooks : MethodName := ⟨RX4, "hooks", "(I)I"⟩
abbrev cX4_add : ByteArray := prog_6_method_8_code
def yX4_add : MethodName := ⟨RX4, "add", "(III)I"⟩
abbrev cX4_make : ByteArray := prog_6_method_9_code
def yX4_make : MethodName := ⟨RX4, "make", "(II)I"⟩
abbrev cX4_token : ByteArray := prog_6_method_10_code
def yX4_token : MethodName := ⟨RX4, "token", "(IZ)I"⟩
abbrev cX4_put : ByteArray := prog_6_method_11_code
def yX4_put : MethodName := ⟨RX4, "put", "(IIJ)I"⟩
abbrev cX4_passes : ByteArray := prog_6_method_12_code
def yX4_passes : MethodName := ⟨RX4, "passes", "(II)Z"⟩
abbrev cX4_mayHang : ByteArray := prog_6_method_13_code
def yX4_mayHang : MethodName := ⟨RX4, "mayHang", "(II)Z"⟩
abbrev cX4_hang : ByteArray := prog_6_method_14_code
def yX4_hang : MethodName := ⟨RX4, "hang", "(III)I"⟩
abbrev cX4_kind : ByteArray := prog_6_method_15_code
def yX4_kind : MethodName := ⟨RX4, "kind", "(I)I"⟩
abbrev cX4_length : ByteArray := prog_6_method_16_code
def yX4_length : MethodName := ⟨RX4, "length", "(I)I"⟩
abbrev cX4_number : ByteArray := prog_6_method_17_code
def yX4_number : MethodName := ⟨RX4, "number", "(II)J"⟩
abbrev cX4_below : ByteArray := prog_6_method_18_code
def yX4_below : MethodName := ⟨RX4, "below", "(II)I"⟩
abbrev cX4_is : ByteArray := prog_6_method_19_code
def yX4_is : MethodName := ⟨RX4, "is", "(II)I"⟩
abbrev cX4_as : ByteArray := prog_6_method_20_code
def yX4_as : MethodName := ⟨RX4, "as", "(II)I"⟩
abbrev cX4_beginWalk : ByteArray := prog_6_method_21_code
def yX4_beginWalk : MethodName := ⟨RX4, "beginWalk", "()V"⟩
abbrev cX4_walk : ByteArray := prog_6_method_22_code
def yX4_walk : MethodName := ⟨RX4, "walk", "(I)Z"⟩
abbrev cX4_comeTo : ByteArray := prog_6_method_23_code
def yX4_comeTo : MethodName := ⟨RX4, "comeTo", "(II)V"⟩
abbrev cX4_workDepths : ByteArray := prog_6_method_24_code
def yX4_workDepths : MethodName := ⟨RX4, "workDepths", "()V"⟩
abbrev cX4_goThrough : ByteArray := prog_6_method_25_code
def yX4_goThrough : MethodName := ⟨RX4, "goThrough", "(I)I"⟩
abbrev cX4_own : ByteArray := prog_6_method_26_code
def yX4_own : MethodName := ⟨RX4, "own", "(I)J"⟩
abbrev cX4_weight : ByteArray := prog_6_method_27_code
def yX4_weight : MethodName := ⟨RX4, "weight", "(I)J"⟩
abbrev cX4_depth : ByteArray := prog_6_method_28_code
def yX4_depth : MethodName := ⟨RX4, "depth", "(I)I"⟩
abbrev cX4_ring : ByteArray := prog_6_method_29_code
def yX4_ring : MethodName := ⟨RX4, "ring", "(I)I"⟩
abbrev cX4_mix : ByteArray := prog_6_method_30_code
def yX4_mix : MethodName := ⟨RX4, "mix", "(I)J"⟩
abbrev cX4_isLike : ByteArray := prog_6_method_31_code
def yX4_isLike : MethodName := ⟨RX4, "isLike", "(II)Z"⟩
abbrev cX4_workLikes : ByteArray := prog_6_method_32_code
def yX4_workLikes : MethodName := ⟨RX4, "workLikes", "()V"⟩
abbrev cX4_equal : ByteArray := prog_6_method_33_code
def yX4_equal : MethodName := ⟨RX4, "equal", "(II)I"⟩
abbrev cX4_order : ByteArray := prog_6_method_34_code
def yX4_order : MethodName := ⟨RX4, "order", "(II)I"⟩
abbrev cX4_sort : ByteArray := prog_6_method_35_code
def yX4_sort : MethodName := ⟨RX4, "sort", "(I)I"⟩
abbrev cX4_copyOne : ByteArray := prog_6_method_36_code
def yX4_copyOne : MethodName := ⟨RX4, "copyOne", "(I)I"⟩
abbrev cX4_copy : ByteArray := prog_6_method_37_code
def yX4_copy : MethodName := ⟨RX4, "copy", "(II)I"⟩
abbrev cX4_status : ByteArray := prog_6_method_38_code
def yX4_status : MethodName := ⟨RX4, "status", "()I"⟩
abbrev cX4_count : ByteArray := prog_6_method_39_code
def yX4_count : MethodName := ⟨RX4, "count", "()I"⟩
def RJx8e188 : String := "java/lang/Cloneable"
def TJx8e188 : u_T := fun k => match k with
  | _ => ("", "", "", false)
def tyJx8e188 : Nat → FieldType := fun k => match k with
  | _ => .int
abbrev wsJx8e1880 : List Cond := u_ws RJx8e188 TJx8e188 0
theorem nmJx8e188 : ∀ a, a < 0 → ∀ b, b < 0 → a ≠ b → (TJx8e188 a).2.1 ≠ (TJx8e188 b).2.1 := by decide +kernel
theorem tyJx8e188_ok : ∀ k, k < 0 → parseFieldDescriptor (TJx8e188 k).2.2.1 = some (tyJx8e188 k) := by decide +kernel
def RJ9 : String := "java/lang/Math"
def TJ9 : u_T := fun k => match k with
  | _ => ("", "", "", false)
def tyJ9 : Nat → FieldType := fun k => match k with
  | _ => .int
abbrev wsJ90 : List Cond := u_ws RJ9 TJ9 0
theorem nmJ9 : ∀ a, a < 0 → ∀ b, b < 0 → a ≠ b → (TJ9 a).2.1 ≠ (TJ9 b).2.1 := by decide +kernel
theorem tyJ9_ok : ∀ k, k < 0 → parseFieldDescriptor (TJ9 k).2.2.1 = some (tyJ9 k) := by decide +kernel
abbrev cJ9_min_7cf53 : ByteArray := prog_8_method_69_code
def yJ9_min_7cf53 : MethodName := ⟨RJ9, "min", "(II)I"⟩
def RL : String := "NestShelfLaw"
abbrev cL_law : ByteArray := code
def yL_law : MethodName := ⟨RL, "law", "([I)Z"⟩
abbrev vwCl : List vw_C := [(RX0, TX0, 1), (RX1, TX1, 17), (RX2, TX2, 6), (RX3, TX3, 4), (RX4, TX4, 20)]
end
section
theorem dX0_init_0 : decode cX0_init 0 = .ok (.aload_n 0, 1) := by decide +kernel
theorem dX0_init_1 : decode cX0_init 1 = .ok (.invokespecial 3, 3) := by decide +kernel
theorem dX0_init_4 : decode cX0_init 4 = .ok (.return_, 1) := by decide +kernel
theorem dX0_matches_0 : decode cX0_matches 0 = .ok (.aload_n 0, 1) := by decide +kernel
theorem dX0_matches_1 : decode cX0_matches 1 = .ok (.aload_n 1, 1) := by decide +kernel
theorem dX0_matches_2 : decode cX0_matches 2 = .ok (.aload_n 2, 1) := by decide +kernel
theorem dX0_matches_3 : decode cX0_matches 3 = .ok (.invokevirtual 9, 3) := by decide +kernel
theorem dX0_matches_6 : decode cX0_matches 6 = .ok (.astore_n 3, 1) := by decide +kernel
theorem dX0_matches_7 : decode cX0_matches 7 = .ok (.iconst 0, 1) := by decide +kernel
theorem dX0_matches_8 : decode cX0_matches 8 = .ok (.istore 4, 2) := by decide +kernel
theorem dX0_matches_10 : decode cX0_matches 10 = .ok (.iload 4, 2) := by decide +kernel
theorem dX0_matches_12 : decode cX0_matches 12 = .ok (.sipush 2000, 3) := by decide +kernel
theorem dX0_matches_15 : decode cX0_matches 15 = .ok (.if_icmp .ge 50, 3) := by decide +kernel
theorem dX0_matches_18 : decode cX0_matches 18 = .ok (.aload_n 3, 1) := by decide +kernel
theorem dX0_matches_19 : decode cX0_matches 19 = .ok (.ifnull 46, 3) := by decide +kernel
theorem dX0_matches_22 : decode cX0_matches 22 = .ok (.aload_n 3, 1) := by decide +kernel
theorem dX0_matches_23 : decode cX0_matches 23 = .ok (.getfield 15, 3) := by decide +kernel
theorem dX0_matches_26 : decode cX0_matches 26 = .ok (.astore 5, 2) := by decide +kernel
theorem dX0_matches_28 : decode cX0_matches 28 = .ok (.aload 5, 2) := by decide +kernel
theorem dX0_matches_30 : decode cX0_matches 30 = .ok (.ifnull 22, 3) := by decide +kernel
theorem dX0_matches_33 : decode cX0_matches 33 = .ok (.aload_n 3, 1) := by decide +kernel
theorem dX0_matches_34 : decode cX0_matches 34 = .ok (.aload 5, 2) := by decide +kernel
theorem dX0_matches_36 : decode cX0_matches 36 = .ok (.invokevirtual 21, 3) := by decide +kernel
theorem dX0_matches_39 : decode cX0_matches 39 = .ok (.ifCond .eq 13, 3) := by decide +kernel
theorem dX0_matches_42 : decode cX0_matches 42 = .ok (.aload_n 0, 1) := by decide +kernel
theorem dX0_matches_43 : decode cX0_matches 43 = .ok (.aload_n 3, 1) := by decide +kernel
theorem dX0_matches_44 : decode cX0_matches 44 = .ok (.aload 5, 2) := by decide +kernel
theorem dX0_matches_46 : decode cX0_matches 46 = .ok (.invokevirtual 25, 3) := by decide +kernel
theorem dX0_matches_49 : decode cX0_matches 49 = .ok (.ifCond .ne 5, 3) := by decide +kernel
theorem dX0_matches_52 : decode cX0_matches 52 = .ok (.iconst 0, 1) := by decide +kernel
theorem dX0_matches_53 : decode cX0_matches 53 = .ok (.ireturn, 1) := by decide +kernel
theorem dX0_matches_54 : decode cX0_matches 54 = .ok (.aload_n 3, 1) := by decide +kernel
theorem dX0_matches_55 : decode cX0_matches 55 = .ok (.getfield 29, 3) := by decide +kernel
theorem dX0_matches_58 : decode cX0_matches 58 = .ok (.astore_n 3, 1) := by decide +kernel
theorem dX0_matches_59 : decode cX0_matches 59 = .ok (.iinc 4 1, 3) := by decide +kernel
theorem dX0_matches_62 : decode cX0_matches 62 = .ok (.goto (-52), 3) := by decide +kernel
theorem dX0_matches_65 : decode cX0_matches 65 = .ok (.iconst 1, 1) := by decide +kernel
theorem dX0_matches_66 : decode cX0_matches 66 = .ok (.ireturn, 1) := by decide +kernel
theorem dX0_joinPlaces_0 : decode cX0_joinPlaces 0 = .ok (.iconst 0, 1) := by decide +kernel
theorem dX0_joinPlaces_1 : decode cX0_joinPlaces 1 = .ok (.istore_n 3, 1) := by decide +kernel
theorem dX0_joinPlaces_2 : decode cX0_joinPlaces 2 = .ok (.iload_n 3, 1) := by decide +kernel
theorem dX0_joinPlaces_3 : decode cX0_joinPlaces 3 = .ok (.aload_n 1, 1) := by decide +kernel
theorem dX0_joinPlaces_4 : decode cX0_joinPlaces 4 = .ok (.getfield 32, 3) := by decide +kernel
theorem dX0_joinPlaces_7 : decode cX0_joinPlaces 7 = .ok (.arraylength, 1) := by decide +kernel
theorem dX0_joinPlaces_8 : decode cX0_joinPlaces 8 = .ok (.if_icmp .ge 65, 3) := by decide +kernel
theorem dX0_joinPlaces_11 : decode cX0_joinPlaces 11 = .ok (.iload_n 3, 1) := by decide +kernel
theorem dX0_joinPlaces_12 : decode cX0_joinPlaces 12 = .ok (.aload_n 2, 1) := by decide +kernel
theorem dX0_joinPlaces_13 : decode cX0_joinPlaces 13 = .ok (.getfield 32, 3) := by decide +kernel
theorem dX0_joinPlaces_16 : decode cX0_joinPlaces 16 = .ok (.arraylength, 1) := by decide +kernel
theorem dX0_joinPlaces_17 : decode cX0_joinPlaces 17 = .ok (.if_icmp .ge 56, 3) := by decide +kernel
theorem dX0_joinPlaces_20 : decode cX0_joinPlaces 20 = .ok (.aload_n 1, 1) := by decide +kernel
theorem dX0_joinPlaces_21 : decode cX0_joinPlaces 21 = .ok (.getfield 32, 3) := by decide +kernel
theorem dX0_joinPlaces_24 : decode cX0_joinPlaces 24 = .ok (.iload_n 3, 1) := by decide +kernel
theorem dX0_joinPlaces_25 : decode cX0_joinPlaces 25 = .ok (.aaload, 1) := by decide +kernel
theorem dX0_joinPlaces_26 : decode cX0_joinPlaces 26 = .ok (.astore 4, 2) := by decide +kernel
theorem dX0_joinPlaces_28 : decode cX0_joinPlaces 28 = .ok (.aload_n 2, 1) := by decide +kernel
theorem dX0_joinPlaces_29 : decode cX0_joinPlaces 29 = .ok (.getfield 32, 3) := by decide +kernel
theorem dX0_joinPlaces_32 : decode cX0_joinPlaces 32 = .ok (.iload_n 3, 1) := by decide +kernel
theorem dX0_joinPlaces_33 : decode cX0_joinPlaces 33 = .ok (.aaload, 1) := by decide +kernel
theorem dX0_joinPlaces_34 : decode cX0_joinPlaces 34 = .ok (.astore 5, 2) := by decide +kernel
theorem dX0_joinPlaces_36 : decode cX0_joinPlaces 36 = .ok (.aload 4, 2) := by decide +kernel
theorem dX0_joinPlaces_38 : decode cX0_joinPlaces 38 = .ok (.ifnull 20, 3) := by decide +kernel
theorem dX0_joinPlaces_41 : decode cX0_joinPlaces 41 = .ok (.aload 5, 2) := by decide +kernel
theorem dX0_joinPlaces_43 : decode cX0_joinPlaces 43 = .ok (.ifnull 15, 3) := by decide +kernel
theorem dX0_joinPlaces_46 : decode cX0_joinPlaces 46 = .ok (.aload_n 0, 1) := by decide +kernel
theorem dX0_joinPlaces_47 : decode cX0_joinPlaces 47 = .ok (.aload 4, 2) := by decide +kernel
theorem dX0_joinPlaces_49 : decode cX0_joinPlaces 49 = .ok (.aload 5, 2) := by decide +kernel
theorem dX0_joinPlaces_51 : decode cX0_joinPlaces 51 = .ok (.invokevirtual 9, 3) := by decide +kernel
theorem dX0_joinPlaces_54 : decode cX0_joinPlaces 54 = .ok (.pop, 1) := by decide +kernel
theorem dX0_joinPlaces_55 : decode cX0_joinPlaces 55 = .ok (.goto 12, 3) := by decide +kernel
theorem dX0_joinPlaces_58 : decode cX0_joinPlaces 58 = .ok (.aload 4, 2) := by decide +kernel
theorem dX0_joinPlaces_60 : decode cX0_joinPlaces 60 = .ok (.aload 5, 2) := by decide +kernel
theorem dX0_joinPlaces_62 : decode cX0_joinPlaces 62 = .ok (.if_acmp .eq 5, 3) := by decide +kernel
theorem dX0_joinPlaces_65 : decode cX0_joinPlaces 65 = .ok (.iconst 0, 1) := by decide +kernel
theorem dX0_joinPlaces_66 : decode cX0_joinPlaces 66 = .ok (.ireturn, 1) := by decide +kernel
theorem dX0_joinPlaces_67 : decode cX0_joinPlaces 67 = .ok (.iinc 3 1, 3) := by decide +kernel
theorem dX0_joinPlaces_70 : decode cX0_joinPlaces 70 = .ok (.goto (-68), 3) := by decide +kernel
theorem dX0_joinPlaces_73 : decode cX0_joinPlaces 73 = .ok (.iconst 1, 1) := by decide +kernel
theorem dX0_joinPlaces_74 : decode cX0_joinPlaces 74 = .ok (.ireturn, 1) := by decide +kernel
theorem dX0_join_0 : decode cX0_join 0 = .ok (.aload_n 1, 1) := by decide +kernel
theorem dX0_join_1 : decode cX0_join 1 = .ok (.invokestatic 36, 3) := by decide +kernel
theorem dX0_join_4 : decode cX0_join 4 = .ok (.astore_n 3, 1) := by decide +kernel
theorem dX0_join_5 : decode cX0_join 5 = .ok (.aload_n 2, 1) := by decide +kernel
theorem dX0_join_6 : decode cX0_join 6 = .ok (.invokestatic 36, 3) := by decide +kernel
theorem dX0_join_9 : decode cX0_join 9 = .ok (.astore 4, 2) := by decide +kernel
theorem dX0_join_11 : decode cX0_join 11 = .ok (.aload_n 3, 1) := by decide +kernel
theorem dX0_join_12 : decode cX0_join 12 = .ok (.aload 4, 2) := by decide +kernel
theorem dX0_join_14 : decode cX0_join 14 = .ok (.if_acmp .ne 5, 3) := by decide +kernel
theorem dX0_join_17 : decode cX0_join 17 = .ok (.aconst_null, 1) := by decide +kernel
theorem dX0_join_18 : decode cX0_join 18 = .ok (.areturn, 1) := by decide +kernel
theorem dX0_join_19 : decode cX0_join 19 = .ok (.aload_n 3, 1) := by decide +kernel
theorem dX0_join_20 : decode cX0_join 20 = .ok (.getfield 40, 3) := by decide +kernel
theorem dX0_join_23 : decode cX0_join 23 = .ok (.aload 4, 2) := by decide +kernel
theorem dX0_join_25 : decode cX0_join 25 = .ok (.getfield 40, 3) := by decide +kernel
theorem dX0_join_28 : decode cX0_join 28 = .ok (.if_icmp .gt 7, 3) := by decide +kernel
theorem dX0_join_31 : decode cX0_join 31 = .ok (.iconst 1, 1) := by decide +kernel
theorem dX0_join_32 : decode cX0_join 32 = .ok (.goto 4, 3) := by decide +kernel
theorem dX0_join_35 : decode cX0_join 35 = .ok (.iconst 0, 1) := by decide +kernel
theorem dX0_join_36 : decode cX0_join 36 = .ok (.istore 5, 2) := by decide +kernel
theorem dX0_join_38 : decode cX0_join 38 = .ok (.iload 5, 2) := by decide +kernel
theorem dX0_join_40 : decode cX0_join 40 = .ok (.ifCond .eq 7, 3) := by decide +kernel
theorem dX0_join_43 : decode cX0_join 43 = .ok (.aload_n 3, 1) := by decide +kernel
theorem dX0_join_44 : decode cX0_join 44 = .ok (.goto 5, 3) := by decide +kernel
theorem dX0_join_47 : decode cX0_join 47 = .ok (.aload 4, 2) := by decide +kernel
theorem dX0_join_49 : decode cX0_join 49 = .ok (.astore 6, 2) := by decide +kernel
theorem dX0_join_51 : decode cX0_join 51 = .ok (.iload 5, 2) := by decide +kernel
theorem dX0_join_53 : decode cX0_join 53 = .ok (.ifCond .eq 8, 3) := by decide +kernel
theorem dX0_join_56 : decode cX0_join 56 = .ok (.aload 4, 2) := by decide +kernel
theorem dX0_join_58 : decode cX0_join 58 = .ok (.goto 4, 3) := by decide +kernel
theorem dX0_join_61 : decode cX0_join 61 = .ok (.aload_n 3, 1) := by decide +kernel
theorem dX0_join_62 : decode cX0_join 62 = .ok (.astore 7, 2) := by decide +kernel
theorem dX0_join_64 : decode cX0_join 64 = .ok (.aload 6, 2) := by decide +kernel
theorem dX0_join_66 : decode cX0_join 66 = .ok (.aload 7, 2) := by decide +kernel
theorem dX0_join_68 : decode cX0_join 68 = .ok (.putfield 15, 3) := by decide +kernel
theorem dX0_join_71 : decode cX0_join 71 = .ok (.aload 7, 2) := by decide +kernel
theorem dX0_join_73 : decode cX0_join 73 = .ok (.dup, 1) := by decide +kernel
theorem dX0_join_74 : decode cX0_join 74 = .ok (.getfield 40, 3) := by decide +kernel
theorem dX0_join_77 : decode cX0_join 77 = .ok (.aload 6, 2) := by decide +kernel
theorem dX0_join_79 : decode cX0_join 79 = .ok (.getfield 40, 3) := by decide +kernel
theorem dX0_join_82 : decode cX0_join 82 = .ok (.iconst 1, 1) := by decide +kernel
theorem dX0_join_83 : decode cX0_join 83 = .ok (.iadd, 1) := by decide +kernel
theorem dX0_join_84 : decode cX0_join 84 = .ok (.iadd, 1) := by decide +kernel
theorem dX0_join_85 : decode cX0_join 85 = .ok (.putfield 40, 3) := by decide +kernel
theorem dX0_join_88 : decode cX0_join 88 = .ok (.aload_n 0, 1) := by decide +kernel
theorem dX0_join_89 : decode cX0_join 89 = .ok (.getfield 44, 3) := by decide +kernel
theorem dX0_join_92 : decode cX0_join 92 = .ok (.ifnull 12, 3) := by decide +kernel
theorem dX0_join_95 : decode cX0_join 95 = .ok (.aload_n 0, 1) := by decide +kernel
theorem dX0_join_96 : decode cX0_join 96 = .ok (.getfield 44, 3) := by decide +kernel
theorem dX0_join_99 : decode cX0_join 99 = .ok (.aload 6, 2) := by decide +kernel
theorem dX0_join_101 : decode cX0_join 101 = .ok (.putfield 29, 3) := by decide +kernel
theorem dX0_join_104 : decode cX0_join 104 = .ok (.aload_n 0, 1) := by decide +kernel
theorem dX0_join_105 : decode cX0_join 105 = .ok (.aload 6, 2) := by decide +kernel
theorem dX0_join_107 : decode cX0_join 107 = .ok (.putfield 44, 3) := by decide +kernel
theorem dX0_join_110 : decode cX0_join 110 = .ok (.aload 6, 2) := by decide +kernel
theorem dX0_join_112 : decode cX0_join 112 = .ok (.areturn, 1) := by decide +kernel
theorem dX0_topOf_0 : decode cX0_topOf 0 = .ok (.aload_n 0, 1) := by decide +kernel
theorem dX0_topOf_1 : decode cX0_topOf 1 = .ok (.astore_n 1, 1) := by decide +kernel
theorem dX0_topOf_2 : decode cX0_topOf 2 = .ok (.iconst 0, 1) := by decide +kernel
theorem dX0_topOf_3 : decode cX0_topOf 3 = .ok (.istore_n 2, 1) := by decide +kernel
theorem dX0_topOf_4 : decode cX0_topOf 4 = .ok (.iload_n 2, 1) := by decide +kernel
theorem dX0_topOf_5 : decode cX0_topOf 5 = .ok (.sipush 2000, 3) := by decide +kernel
theorem dX0_topOf_8 : decode cX0_topOf 8 = .ok (.if_icmp .ge 21, 3) := by decide +kernel
theorem dX0_topOf_11 : decode cX0_topOf 11 = .ok (.aload_n 1, 1) := by decide +kernel
theorem dX0_topOf_12 : decode cX0_topOf 12 = .ok (.getfield 15, 3) := by decide +kernel
theorem dX0_topOf_15 : decode cX0_topOf 15 = .ok (.ifnull 14, 3) := by decide +kernel
theorem dX0_topOf_18 : decode cX0_topOf 18 = .ok (.aload_n 1, 1) := by decide +kernel
theorem dX0_topOf_19 : decode cX0_topOf 19 = .ok (.getfield 15, 3) := by decide +kernel
theorem dX0_topOf_22 : decode cX0_topOf 22 = .ok (.astore_n 1, 1) := by decide +kernel
theorem dX0_topOf_23 : decode cX0_topOf 23 = .ok (.iinc 2 1, 3) := by decide +kernel
theorem dX0_topOf_26 : decode cX0_topOf 26 = .ok (.goto (-22), 3) := by decide +kernel
theorem dX0_topOf_29 : decode cX0_topOf 29 = .ok (.aload_n 1, 1) := by decide +kernel
theorem dX0_topOf_30 : decode cX0_topOf 30 = .ok (.areturn, 1) := by decide +kernel
theorem dX1_init_0 : decode cX1_init 0 = .ok (.aload_n 0, 1) := by decide +kernel
theorem dX1_init_1 : decode cX1_init 1 = .ok (.invokespecial 1, 3) := by decide +kernel
theorem dX1_init_4 : decode cX1_init 4 = .ok (.aload_n 0, 1) := by decide +kernel
theorem dX1_init_5 : decode cX1_init 5 = .ok (.iload_n 1, 1) := by decide +kernel
theorem dX1_init_6 : decode cX1_init 6 = .ok (.putfield 7, 3) := by decide +kernel
theorem dX1_init_9 : decode cX1_init 9 = .ok (.aload_n 0, 1) := by decide +kernel
theorem dX1_init_10 : decode cX1_init 10 = .ok (.iload_n 2, 1) := by decide +kernel
theorem dX1_init_11 : decode cX1_init 11 = .ok (.putfield 13, 3) := by decide +kernel
theorem dX1_init_14 : decode cX1_init 14 = .ok (.aload_n 0, 1) := by decide +kernel
theorem dX1_init_15 : decode cX1_init 15 = .ok (.iload_n 3, 1) := by decide +kernel
theorem dX1_init_16 : decode cX1_init 16 = .ok (.putfield 16, 3) := by decide +kernel
theorem dX1_init_19 : decode cX1_init 19 = .ok (.aload_n 0, 1) := by decide +kernel
theorem dX1_init_20 : decode cX1_init 20 = .ok (.aload 4, 2) := by decide +kernel
theorem dX1_init_22 : decode cX1_init 22 = .ok (.putfield 19, 3) := by decide +kernel
theorem dX1_init_25 : decode cX1_init 25 = .ok (.aload_n 0, 1) := by decide +kernel
theorem dX1_init_26 : decode cX1_init 26 = .ok (.aload 5, 2) := by decide +kernel
theorem dX1_init_28 : decode cX1_init 28 = .ok (.putfield 23, 3) := by decide +kernel
theorem dX1_init_31 : decode cX1_init 31 = .ok (.aload_n 0, 1) := by decide +kernel
theorem dX1_init_32 : decode cX1_init 32 = .ok (.iload_n 3, 1) := by decide +kernel
theorem dX1_init_33 : decode cX1_init 33 = .ok (.i2l, 1) := by decide +kernel
theorem dX1_init_34 : decode cX1_init 34 = .ok (.putfield 27, 3) := by decide +kernel
theorem dX1_init_37 : decode cX1_init 37 = .ok (.return_, 1) := by decide +kernel
theorem dX1_duplicate_0 : decode cX1_duplicate 0 = .ok (.new 8, 3) := by decide +kernel
theorem dX1_duplicate_3 : decode cX1_duplicate 3 = .ok (.dup, 1) := by decide +kernel
theorem dX1_duplicate_4 : decode cX1_duplicate 4 = .ok (.iload_n 1, 1) := by decide +kernel
theorem dX1_duplicate_5 : decode cX1_duplicate 5 = .ok (.aload_n 0, 1) := by decide +kernel
theorem dX1_duplicate_6 : decode cX1_duplicate 6 = .ok (.getfield 13, 3) := by decide +kernel
theorem dX1_duplicate_9 : decode cX1_duplicate 9 = .ok (.aload_n 0, 1) := by decide +kernel
theorem dX1_duplicate_10 : decode cX1_duplicate 10 = .ok (.getfield 16, 3) := by decide +kernel
theorem dX1_duplicate_13 : decode cX1_duplicate 13 = .ok (.aload_n 0, 1) := by decide +kernel
theorem dX1_duplicate_14 : decode cX1_duplicate 14 = .ok (.getfield 19, 3) := by decide +kernel
theorem dX1_duplicate_17 : decode cX1_duplicate 17 = .ok (.invokevirtual 31, 3) := by decide +kernel
theorem dX1_duplicate_20 : decode cX1_duplicate 20 = .ok (.checkcast 32, 3) := by decide +kernel
theorem dX1_duplicate_23 : decode cX1_duplicate 23 = .ok (.aload_n 0, 1) := by decide +kernel
theorem dX1_duplicate_24 : decode cX1_duplicate 24 = .ok (.getfield 23, 3) := by decide +kernel
theorem dX1_duplicate_27 : decode cX1_duplicate 27 = .ok (.invokevirtual 36, 3) := by decide +kernel
theorem dX1_duplicate_30 : decode cX1_duplicate 30 = .ok (.checkcast 37, 3) := by decide +kernel
theorem dX1_duplicate_33 : decode cX1_duplicate 33 = .ok (.invokespecial 38, 3) := by decide +kernel
theorem dX1_duplicate_36 : decode cX1_duplicate 36 = .ok (.astore_n 2, 1) := by decide +kernel
theorem dX1_duplicate_37 : decode cX1_duplicate 37 = .ok (.aload_n 2, 1) := by decide +kernel
theorem dX1_duplicate_38 : decode cX1_duplicate 38 = .ok (.aload_n 0, 1) := by decide +kernel
theorem dX1_duplicate_39 : decode cX1_duplicate 39 = .ok (.getfield 27, 3) := by decide +kernel
theorem dX1_duplicate_42 : decode cX1_duplicate 42 = .ok (.putfield 27, 3) := by decide +kernel
theorem dX1_duplicate_45 : decode cX1_duplicate 45 = .ok (.aload_n 2, 1) := by decide +kernel
theorem dX1_duplicate_46 : decode cX1_duplicate 46 = .ok (.areturn, 1) := by decide +kernel
theorem dX1_beginNotes_0 : decode cX1_beginNotes 0 = .ok (.aload_n 0, 1) := by decide +kernel
theorem dX1_beginNotes_1 : decode cX1_beginNotes 1 = .ok (.iload_n 1, 1) := by decide +kernel
theorem dX1_beginNotes_2 : decode cX1_beginNotes 2 = .ok (.putfield 41, 3) := by decide +kernel
theorem dX1_beginNotes_5 : decode cX1_beginNotes 5 = .ok (.aload_n 0, 1) := by decide +kernel
theorem dX1_beginNotes_6 : decode cX1_beginNotes 6 = .ok (.iconst 1, 1) := by decide +kernel
theorem dX1_beginNotes_7 : decode cX1_beginNotes 7 = .ok (.putfield 44, 3) := by decide +kernel
theorem dX1_beginNotes_10 : decode cX1_beginNotes 10 = .ok (.aload_n 0, 1) := by decide +kernel
theorem dX1_beginNotes_11 : decode cX1_beginNotes 11 = .ok (.iconst 0, 1) := by decide +kernel
theorem dX1_beginNotes_12 : decode cX1_beginNotes 12 = .ok (.putfield 48, 3) := by decide +kernel
theorem dX1_beginNotes_15 : decode cX1_beginNotes 15 = .ok (.aload_n 0, 1) := by decide +kernel
theorem dX1_beginNotes_16 : decode cX1_beginNotes 16 = .ok (.aload_n 2, 1) := by decide +kernel
theorem dX1_beginNotes_17 : decode cX1_beginNotes 17 = .ok (.putfield 51, 3) := by decide +kernel
theorem dX1_beginNotes_20 : decode cX1_beginNotes 20 = .ok (.aload_n 0, 1) := by decide +kernel
theorem dX1_beginNotes_21 : decode cX1_beginNotes 21 = .ok (.aconst_null, 1) := by decide +kernel
theorem dX1_beginNotes_22 : decode cX1_beginNotes 22 = .ok (.putfield 55, 3) := by decide +kernel
theorem dX1_beginNotes_25 : decode cX1_beginNotes 25 = .ok (.aload_n 0, 1) := by decide +kernel
theorem dX1_beginNotes_26 : decode cX1_beginNotes 26 = .ok (.iconst 1, 1) := by decide +kernel
theorem dX1_beginNotes_27 : decode cX1_beginNotes 27 = .ok (.putfield 58, 3) := by decide +kernel
theorem dX1_beginNotes_30 : decode cX1_beginNotes 30 = .ok (.aload_n 0, 1) := by decide +kernel
theorem dX1_beginNotes_31 : decode cX1_beginNotes 31 = .ok (.aload_n 0, 1) := by decide +kernel
theorem dX1_beginNotes_32 : decode cX1_beginNotes 32 = .ok (.getfield 27, 3) := by decide +kernel
theorem dX1_beginNotes_35 : decode cX1_beginNotes 35 = .ok (.putfield 61, 3) := by decide +kernel
theorem dX1_beginNotes_38 : decode cX1_beginNotes 38 = .ok (.aload_n 0, 1) := by decide +kernel
theorem dX1_beginNotes_39 : decode cX1_beginNotes 39 = .ok (.aconst_null, 1) := by decide +kernel
theorem dX1_beginNotes_40 : decode cX1_beginNotes 40 = .ok (.putfield 64, 3) := by decide +kernel
theorem dX1_beginNotes_43 : decode cX1_beginNotes 43 = .ok (.aload_n 0, 1) := by decide +kernel
theorem dX1_beginNotes_44 : decode cX1_beginNotes 44 = .ok (.aconst_null, 1) := by decide +kernel
theorem dX1_beginNotes_45 : decode cX1_beginNotes 45 = .ok (.putfield 67, 3) := by decide +kernel
theorem dX1_beginNotes_48 : decode cX1_beginNotes 48 = .ok (.aload_n 0, 1) := by decide +kernel
theorem dX1_beginNotes_49 : decode cX1_beginNotes 49 = .ok (.iconst 0, 1) := by decide +kernel
theorem dX1_beginNotes_50 : decode cX1_beginNotes 50 = .ok (.putfield 70, 3) := by decide +kernel
theorem dX1_beginNotes_53 : decode cX1_beginNotes 53 = .ok (.aload_n 0, 1) := by decide +kernel
theorem dX1_beginNotes_54 : decode cX1_beginNotes 54 = .ok (.aconst_null, 1) := by decide +kernel
theorem dX1_beginNotes_55 : decode cX1_beginNotes 55 = .ok (.putfield 73, 3) := by decide +kernel
theorem dX1_beginNotes_58 : decode cX1_beginNotes 58 = .ok (.return_, 1) := by decide +kernel
theorem dX1_addNotesOf_0 : decode cX1_addNotesOf 0 = .ok (.aload_n 0, 1) := by decide +kernel
theorem dX1_addNotesOf_1 : decode cX1_addNotesOf 1 = .ok (.dup, 1) := by decide +kernel
theorem dX1_addNotesOf_2 : decode cX1_addNotesOf 2 = .ok (.getfield 61, 3) := by decide +kernel
theorem dX1_addNotesOf_5 : decode cX1_addNotesOf 5 = .ok (.aload_n 1, 1) := by decide +kernel
theorem dX1_addNotesOf_6 : decode cX1_addNotesOf 6 = .ok (.getfield 61, 3) := by decide +kernel
theorem dX1_addNotesOf_9 : decode cX1_addNotesOf 9 = .ok (.ladd, 1) := by decide +kernel
theorem dX1_addNotesOf_10 : decode cX1_addNotesOf 10 = .ok (.putfield 61, 3) := by decide +kernel
theorem dX1_addNotesOf_13 : decode cX1_addNotesOf 13 = .ok (.aload_n 0, 1) := by decide +kernel
theorem dX1_addNotesOf_14 : decode cX1_addNotesOf 14 = .ok (.getfield 58, 3) := by decide +kernel
theorem dX1_addNotesOf_17 : decode cX1_addNotesOf 17 = .ok (.aload_n 1, 1) := by decide +kernel
theorem dX1_addNotesOf_18 : decode cX1_addNotesOf 18 = .ok (.getfield 58, 3) := by decide +kernel
theorem dX1_addNotesOf_21 : decode cX1_addNotesOf 21 = .ok (.if_icmp .gt 13, 3) := by decide +kernel
theorem dX1_addNotesOf_24 : decode cX1_addNotesOf 24 = .ok (.aload_n 0, 1) := by decide +kernel
theorem dX1_addNotesOf_25 : decode cX1_addNotesOf 25 = .ok (.aload_n 1, 1) := by decide +kernel
theorem dX1_addNotesOf_26 : decode cX1_addNotesOf 26 = .ok (.getfield 58, 3) := by decide +kernel
theorem dX1_addNotesOf_29 : decode cX1_addNotesOf 29 = .ok (.iconst 1, 1) := by decide +kernel
theorem dX1_addNotesOf_30 : decode cX1_addNotesOf 30 = .ok (.iadd, 1) := by decide +kernel
theorem dX1_addNotesOf_31 : decode cX1_addNotesOf 31 = .ok (.putfield 58, 3) := by decide +kernel
theorem dX1_addNotesOf_34 : decode cX1_addNotesOf 34 = .ok (.return_, 1) := by decide +kernel
theorem dX1_looksLike_0 : decode cX1_looksLike 0 = .ok (.aload_n 0, 1) := by decide +kernel
theorem dX1_looksLike_1 : decode cX1_looksLike 1 = .ok (.getfield 13, 3) := by decide +kernel
theorem dX1_looksLike_4 : decode cX1_looksLike 4 = .ok (.aload_n 1, 1) := by decide +kernel
theorem dX1_looksLike_5 : decode cX1_looksLike 5 = .ok (.getfield 13, 3) := by decide +kernel
theorem dX1_looksLike_8 : decode cX1_looksLike 8 = .ok (.if_icmp .ne 26, 3) := by decide +kernel
theorem dX1_looksLike_11 : decode cX1_looksLike 11 = .ok (.aload_n 0, 1) := by decide +kernel
theorem dX1_looksLike_12 : decode cX1_looksLike 12 = .ok (.getfield 16, 3) := by decide +kernel
theorem dX1_looksLike_15 : decode cX1_looksLike 15 = .ok (.aload_n 1, 1) := by decide +kernel
theorem dX1_looksLike_16 : decode cX1_looksLike 16 = .ok (.getfield 16, 3) := by decide +kernel
theorem dX1_looksLike_19 : decode cX1_looksLike 19 = .ok (.if_icmp .ne 15, 3) := by decide +kernel
theorem dX1_looksLike_22 : decode cX1_looksLike 22 = .ok (.aload_n 0, 1) := by decide +kernel
theorem dX1_looksLike_23 : decode cX1_looksLike 23 = .ok (.getfield 27, 3) := by decide +kernel
theorem dX1_looksLike_26 : decode cX1_looksLike 26 = .ok (.aload_n 1, 1) := by decide +kernel
theorem dX1_looksLike_27 : decode cX1_looksLike 27 = .ok (.getfield 27, 3) := by decide +kernel
theorem dX1_looksLike_30 : decode cX1_looksLike 30 = .ok (.lcmp, 1) := by decide +kernel
theorem dX1_looksLike_31 : decode cX1_looksLike 31 = .ok (.ifCond .eq 5, 3) := by decide +kernel
theorem dX1_looksLike_34 : decode cX1_looksLike 34 = .ok (.iconst 0, 1) := by decide +kernel
theorem dX1_looksLike_35 : decode cX1_looksLike 35 = .ok (.ireturn, 1) := by decide +kernel
theorem dX1_looksLike_36 : decode cX1_looksLike 36 = .ok (.aload_n 0, 1) := by decide +kernel
theorem dX1_looksLike_37 : decode cX1_looksLike 37 = .ok (.getfield 23, 3) := by decide +kernel
theorem dX1_looksLike_40 : decode cX1_looksLike 40 = .ok (.arraylength, 1) := by decide +kernel
theorem dX1_looksLike_41 : decode cX1_looksLike 41 = .ok (.aload_n 1, 1) := by decide +kernel
theorem dX1_looksLike_42 : decode cX1_looksLike 42 = .ok (.getfield 23, 3) := by decide +kernel
theorem dX1_looksLike_45 : decode cX1_looksLike 45 = .ok (.arraylength, 1) := by decide +kernel
theorem dX1_looksLike_46 : decode cX1_looksLike 46 = .ok (.if_icmp .ne 15, 3) := by decide +kernel
theorem dX1_looksLike_49 : decode cX1_looksLike 49 = .ok (.aload_n 0, 1) := by decide +kernel
theorem dX1_looksLike_50 : decode cX1_looksLike 50 = .ok (.aload_n 1, 1) := by decide +kernel
theorem dX1_looksLike_51 : decode cX1_looksLike 51 = .ok (.invokevirtual 76, 3) := by decide +kernel
theorem dX1_looksLike_54 : decode cX1_looksLike 54 = .ok (.ifCond .eq 7, 3) := by decide +kernel
theorem dX1_looksLike_57 : decode cX1_looksLike 57 = .ok (.iconst 1, 1) := by decide +kernel
theorem dX1_looksLike_58 : decode cX1_looksLike 58 = .ok (.goto 4, 3) := by decide +kernel
theorem dX1_looksLike_61 : decode cX1_looksLike 61 = .ok (.iconst 0, 1) := by decide +kernel
theorem dX1_looksLike_62 : decode cX1_looksLike 62 = .ok (.ireturn, 1) := by decide +kernel
theorem dX1_hasNumbersOf_0 : decode cX1_hasNumbersOf 0 = .ok (.aload_n 0, 1) := by decide +kernel
theorem dX1_hasNumbersOf_1 : decode cX1_hasNumbersOf 1 = .ok (.getfield 19, 3) := by decide +kernel
theorem dX1_hasNumbersOf_4 : decode cX1_hasNumbersOf 4 = .ok (.arraylength, 1) := by decide +kernel
theorem dX1_hasNumbersOf_5 : decode cX1_hasNumbersOf 5 = .ok (.aload_n 1, 1) := by decide +kernel
theorem dX1_hasNumbersOf_6 : decode cX1_hasNumbersOf 6 = .ok (.getfield 19, 3) := by decide +kernel
theorem dX1_hasNumbersOf_9 : decode cX1_hasNumbersOf 9 = .ok (.arraylength, 1) := by decide +kernel
theorem dX1_hasNumbersOf_10 : decode cX1_hasNumbersOf 10 = .ok (.if_icmp .eq 5, 3) := by decide +kernel
theorem dX1_hasNumbersOf_13 : decode cX1_hasNumbersOf 13 = .ok (.iconst 0, 1) := by decide +kernel
theorem dX1_hasNumbersOf_14 : decode cX1_hasNumbersOf 14 = .ok (.ireturn, 1) := by decide +kernel
theorem dX1_hasNumbersOf_15 : decode cX1_hasNumbersOf 15 = .ok (.iconst 0, 1) := by decide +kernel
theorem dX1_hasNumbersOf_16 : decode cX1_hasNumbersOf 16 = .ok (.istore_n 2, 1) := by decide +kernel
theorem dX1_hasNumbersOf_17 : decode cX1_hasNumbersOf 17 = .ok (.iload_n 2, 1) := by decide +kernel
theorem dX1_hasNumbersOf_18 : decode cX1_hasNumbersOf 18 = .ok (.aload_n 0, 1) := by decide +kernel
theorem dX1_hasNumbersOf_19 : decode cX1_hasNumbersOf 19 = .ok (.getfield 19, 3) := by decide +kernel
theorem dX1_hasNumbersOf_22 : decode cX1_hasNumbersOf 22 = .ok (.arraylength, 1) := by decide +kernel
theorem dX1_hasNumbersOf_23 : decode cX1_hasNumbersOf 23 = .ok (.if_icmp .ge 36, 3) := by decide +kernel
theorem dX1_hasNumbersOf_26 : decode cX1_hasNumbersOf 26 = .ok (.iload_n 2, 1) := by decide +kernel
theorem dX1_hasNumbersOf_27 : decode cX1_hasNumbersOf 27 = .ok (.aload_n 1, 1) := by decide +kernel
theorem dX1_hasNumbersOf_28 : decode cX1_hasNumbersOf 28 = .ok (.getfield 19, 3) := by decide +kernel
theorem dX1_hasNumbersOf_31 : decode cX1_hasNumbersOf 31 = .ok (.arraylength, 1) := by decide +kernel
theorem dX1_hasNumbersOf_32 : decode cX1_hasNumbersOf 32 = .ok (.if_icmp .ge 27, 3) := by decide +kernel
theorem dX1_hasNumbersOf_35 : decode cX1_hasNumbersOf 35 = .ok (.aload_n 0, 1) := by decide +kernel
theorem dX1_hasNumbersOf_36 : decode cX1_hasNumbersOf 36 = .ok (.getfield 19, 3) := by decide +kernel
theorem dX1_hasNumbersOf_39 : decode cX1_hasNumbersOf 39 = .ok (.iload_n 2, 1) := by decide +kernel
theorem dX1_hasNumbersOf_40 : decode cX1_hasNumbersOf 40 = .ok (.laload, 1) := by decide +kernel
theorem dX1_hasNumbersOf_41 : decode cX1_hasNumbersOf 41 = .ok (.aload_n 1, 1) := by decide +kernel
theorem dX1_hasNumbersOf_42 : decode cX1_hasNumbersOf 42 = .ok (.getfield 19, 3) := by decide +kernel
theorem dX1_hasNumbersOf_45 : decode cX1_hasNumbersOf 45 = .ok (.iload_n 2, 1) := by decide +kernel
theorem dX1_hasNumbersOf_46 : decode cX1_hasNumbersOf 46 = .ok (.laload, 1) := by decide +kernel
theorem dX1_hasNumbersOf_47 : decode cX1_hasNumbersOf 47 = .ok (.lcmp, 1) := by decide +kernel
theorem dX1_hasNumbersOf_48 : decode cX1_hasNumbersOf 48 = .ok (.ifCond .eq 5, 3) := by decide +kernel
theorem dX1_hasNumbersOf_51 : decode cX1_hasNumbersOf 51 = .ok (.iconst 0, 1) := by decide +kernel
theorem dX1_hasNumbersOf_52 : decode cX1_hasNumbersOf 52 = .ok (.ireturn, 1) := by decide +kernel
theorem dX1_hasNumbersOf_53 : decode cX1_hasNumbersOf 53 = .ok (.iinc 2 1, 3) := by decide +kernel
theorem dX1_hasNumbersOf_56 : decode cX1_hasNumbersOf 56 = .ok (.goto (-39), 3) := by decide +kernel
theorem dX1_hasNumbersOf_59 : decode cX1_hasNumbersOf 59 = .ok (.iconst 1, 1) := by decide +kernel
theorem dX1_hasNumbersOf_60 : decode cX1_hasNumbersOf 60 = .ok (.ireturn, 1) := by decide +kernel
theorem dX2_init_0 : decode cX2_init 0 = .ok (.aload_n 0, 1) := by decide +kernel
theorem dX2_init_1 : decode cX2_init 1 = .ok (.invokespecial 3, 3) := by decide +kernel
theorem dX2_init_4 : decode cX2_init 4 = .ok (.return_, 1) := by decide +kernel
theorem dX2_goFrom_0 : decode cX2_goFrom 0 = .ok (.aload_n 0, 1) := by decide +kernel
theorem dX2_goFrom_1 : decode cX2_goFrom 1 = .ok (.dup, 1) := by decide +kernel
theorem dX2_goFrom_2 : decode cX2_goFrom 2 = .ok (.getfield 9, 3) := by decide +kernel
theorem dX2_goFrom_5 : decode cX2_goFrom 5 = .ok (.iconst 1, 1) := by decide +kernel
theorem dX2_goFrom_6 : decode cX2_goFrom 6 = .ok (.iadd, 1) := by decide +kernel
theorem dX2_goFrom_7 : decode cX2_goFrom 7 = .ok (.putfield 9, 3) := by decide +kernel
theorem dX2_goFrom_10 : decode cX2_goFrom 10 = .ok (.aload_n 0, 1) := by decide +kernel
theorem dX2_goFrom_11 : decode cX2_goFrom 11 = .ok (.aload_n 1, 1) := by decide +kernel
theorem dX2_goFrom_12 : decode cX2_goFrom 12 = .ok (.putfield 15, 3) := by decide +kernel
theorem dX2_goFrom_15 : decode cX2_goFrom 15 = .ok (.aload_n 0, 1) := by decide +kernel
theorem dX2_goFrom_16 : decode cX2_goFrom 16 = .ok (.aconst_null, 1) := by decide +kernel
theorem dX2_goFrom_17 : decode cX2_goFrom 17 = .ok (.putfield 19, 3) := by decide +kernel
theorem dX2_goFrom_20 : decode cX2_goFrom 20 = .ok (.aload_n 0, 1) := by decide +kernel
theorem dX2_goFrom_21 : decode cX2_goFrom 21 = .ok (.iconst 0, 1) := by decide +kernel
theorem dX2_goFrom_22 : decode cX2_goFrom 22 = .ok (.putfield 22, 3) := by decide +kernel
theorem dX2_goFrom_25 : decode cX2_goFrom 25 = .ok (.aload_n 0, 1) := by decide +kernel
theorem dX2_goFrom_26 : decode cX2_goFrom 26 = .ok (.iconst 0, 1) := by decide +kernel
theorem dX2_goFrom_27 : decode cX2_goFrom 27 = .ok (.putfield 25, 3) := by decide +kernel
theorem dX2_goFrom_30 : decode cX2_goFrom 30 = .ok (.aload_n 0, 1) := by decide +kernel
theorem dX2_goFrom_31 : decode cX2_goFrom 31 = .ok (.iconst 0, 1) := by decide +kernel
theorem dX2_goFrom_32 : decode cX2_goFrom 32 = .ok (.putfield 29, 3) := by decide +kernel
theorem dX2_goFrom_35 : decode cX2_goFrom 35 = .ok (.aload_n 0, 1) := by decide +kernel
theorem dX2_goFrom_36 : decode cX2_goFrom 36 = .ok (.aload_n 1, 1) := by decide +kernel
theorem dX2_goFrom_37 : decode cX2_goFrom 37 = .ok (.aconst_null, 1) := by decide +kernel
theorem dX2_goFrom_38 : decode cX2_goFrom 38 = .ok (.invokevirtual 32, 3) := by decide +kernel
theorem dX2_goFrom_41 : decode cX2_goFrom 41 = .ok (.astore_n 2, 1) := by decide +kernel
theorem dX2_goFrom_42 : decode cX2_goFrom 42 = .ok (.iconst 0, 1) := by decide +kernel
theorem dX2_goFrom_43 : decode cX2_goFrom 43 = .ok (.istore_n 3, 1) := by decide +kernel
theorem dX2_goFrom_44 : decode cX2_goFrom 44 = .ok (.iload_n 3, 1) := by decide +kernel
theorem dX2_goFrom_45 : decode cX2_goFrom 45 = .ok (.ldc 36, 2) := by decide +kernel
theorem dX2_goFrom_47 : decode cX2_goFrom 47 = .ok (.if_icmp .ge 64, 3) := by decide +kernel
theorem dX2_goFrom_50 : decode cX2_goFrom 50 = .ok (.aload_n 2, 1) := by decide +kernel
theorem dX2_goFrom_51 : decode cX2_goFrom 51 = .ok (.ifnull 60, 3) := by decide +kernel
theorem dX2_goFrom_54 : decode cX2_goFrom 54 = .ok (.aload_n 2, 1) := by decide +kernel
theorem dX2_goFrom_55 : decode cX2_goFrom 55 = .ok (.getfield 37, 3) := by decide +kernel
theorem dX2_goFrom_58 : decode cX2_goFrom 58 = .ok (.istore 4, 2) := by decide +kernel
theorem dX2_goFrom_60 : decode cX2_goFrom 60 = .ok (.iload 4, 2) := by decide +kernel
theorem dX2_goFrom_62 : decode cX2_goFrom 62 = .ok (.ifCond .lt 13, 3) := by decide +kernel
theorem dX2_goFrom_65 : decode cX2_goFrom 65 = .ok (.iload 4, 2) := by decide +kernel
theorem dX2_goFrom_67 : decode cX2_goFrom 67 = .ok (.aload_n 2, 1) := by decide +kernel
theorem dX2_goFrom_68 : decode cX2_goFrom 68 = .ok (.getfield 42, 3) := by decide +kernel
theorem dX2_goFrom_71 : decode cX2_goFrom 71 = .ok (.arraylength, 1) := by decide +kernel
theorem dX2_goFrom_72 : decode cX2_goFrom 72 = .ok (.if_icmp .lt 12, 3) := by decide +kernel
theorem dX2_goFrom_75 : decode cX2_goFrom 75 = .ok (.aload_n 0, 1) := by decide +kernel
theorem dX2_goFrom_76 : decode cX2_goFrom 76 = .ok (.aload_n 2, 1) := by decide +kernel
theorem dX2_goFrom_77 : decode cX2_goFrom 77 = .ok (.invokevirtual 46, 3) := by decide +kernel
theorem dX2_goFrom_80 : decode cX2_goFrom 80 = .ok (.astore_n 2, 1) := by decide +kernel
theorem dX2_goFrom_81 : decode cX2_goFrom 81 = .ok (.goto 24, 3) := by decide +kernel
theorem dX2_goFrom_84 : decode cX2_goFrom 84 = .ok (.aload_n 2, 1) := by decide +kernel
theorem dX2_goFrom_85 : decode cX2_goFrom 85 = .ok (.iload 4, 2) := by decide +kernel
theorem dX2_goFrom_87 : decode cX2_goFrom 87 = .ok (.iconst 1, 1) := by decide +kernel
theorem dX2_goFrom_88 : decode cX2_goFrom 88 = .ok (.iadd, 1) := by decide +kernel
theorem dX2_goFrom_89 : decode cX2_goFrom 89 = .ok (.putfield 37, 3) := by decide +kernel
theorem dX2_goFrom_92 : decode cX2_goFrom 92 = .ok (.aload_n 0, 1) := by decide +kernel
theorem dX2_goFrom_93 : decode cX2_goFrom 93 = .ok (.aload_n 2, 1) := by decide +kernel
theorem dX2_goFrom_94 : decode cX2_goFrom 94 = .ok (.getfield 42, 3) := by decide +kernel
theorem dX2_goFrom_97 : decode cX2_goFrom 97 = .ok (.iload 4, 2) := by decide +kernel
theorem dX2_goFrom_99 : decode cX2_goFrom 99 = .ok (.aaload, 1) := by decide +kernel
theorem dX2_goFrom_100 : decode cX2_goFrom 100 = .ok (.aload_n 2, 1) := by decide +kernel
theorem dX2_goFrom_101 : decode cX2_goFrom 101 = .ok (.invokevirtual 50, 3) := by decide +kernel
theorem dX2_goFrom_104 : decode cX2_goFrom 104 = .ok (.astore_n 2, 1) := by decide +kernel
theorem dX2_goFrom_105 : decode cX2_goFrom 105 = .ok (.iinc 3 1, 3) := by decide +kernel
theorem dX2_goFrom_108 : decode cX2_goFrom 108 = .ok (.goto (-64), 3) := by decide +kernel
theorem dX2_goFrom_111 : decode cX2_goFrom 111 = .ok (.return_, 1) := by decide +kernel
theorem dX2_meet_0 : decode cX2_meet 0 = .ok (.aload_n 1, 1) := by decide +kernel
theorem dX2_meet_1 : decode cX2_meet 1 = .ok (.ifnonnull 5, 3) := by decide +kernel
theorem dX2_meet_4 : decode cX2_meet 4 = .ok (.aload_n 2, 1) := by decide +kernel
theorem dX2_meet_5 : decode cX2_meet 5 = .ok (.areturn, 1) := by decide +kernel
theorem dX2_meet_6 : decode cX2_meet 6 = .ok (.aload_n 1, 1) := by decide +kernel
theorem dX2_meet_7 : decode cX2_meet 7 = .ok (.getfield 53, 3) := by decide +kernel
theorem dX2_meet_10 : decode cX2_meet 10 = .ok (.aload_n 0, 1) := by decide +kernel
theorem dX2_meet_11 : decode cX2_meet 11 = .ok (.getfield 9, 3) := by decide +kernel
theorem dX2_meet_14 : decode cX2_meet 14 = .ok (.if_icmp .eq 10, 3) := by decide +kernel
theorem dX2_meet_17 : decode cX2_meet 17 = .ok (.aload_n 0, 1) := by decide +kernel
theorem dX2_meet_18 : decode cX2_meet 18 = .ok (.aload_n 1, 1) := by decide +kernel
theorem dX2_meet_19 : decode cX2_meet 19 = .ok (.aload_n 2, 1) := by decide +kernel
theorem dX2_meet_20 : decode cX2_meet 20 = .ok (.invokevirtual 32, 3) := by decide +kernel
theorem dX2_meet_23 : decode cX2_meet 23 = .ok (.areturn, 1) := by decide +kernel
theorem dX2_meet_24 : decode cX2_meet 24 = .ok (.aload_n 1, 1) := by decide +kernel
theorem dX2_meet_25 : decode cX2_meet 25 = .ok (.getfield 56, 3) := by decide +kernel
theorem dX2_meet_28 : decode cX2_meet 28 = .ok (.ifCond .eq 35, 3) := by decide +kernel
theorem dX2_meet_31 : decode cX2_meet 31 = .ok (.aload_n 0, 1) := by decide +kernel
theorem dX2_meet_32 : decode cX2_meet 32 = .ok (.iconst 1, 1) := by decide +kernel
theorem dX2_meet_33 : decode cX2_meet 33 = .ok (.putfield 25, 3) := by decide +kernel
theorem dX2_meet_36 : decode cX2_meet 36 = .ok (.aload_n 0, 1) := by decide +kernel
theorem dX2_meet_37 : decode cX2_meet 37 = .ok (.aload_n 0, 1) := by decide +kernel
theorem dX2_meet_38 : decode cX2_meet 38 = .ok (.getfield 29, 3) := by decide +kernel
theorem dX2_meet_41 : decode cX2_meet 41 = .ok (.ifCond .ne 11, 3) := by decide +kernel
theorem dX2_meet_44 : decode cX2_meet 44 = .ok (.aload_n 1, 1) := by decide +kernel
theorem dX2_meet_45 : decode cX2_meet 45 = .ok (.aload_n 0, 1) := by decide +kernel
theorem dX2_meet_46 : decode cX2_meet 46 = .ok (.getfield 15, 3) := by decide +kernel
theorem dX2_meet_49 : decode cX2_meet 49 = .ok (.if_acmp .ne 7, 3) := by decide +kernel
theorem dX2_meet_52 : decode cX2_meet 52 = .ok (.iconst 1, 1) := by decide +kernel
theorem dX2_meet_53 : decode cX2_meet 53 = .ok (.goto 4, 3) := by decide +kernel
theorem dX2_meet_56 : decode cX2_meet 56 = .ok (.iconst 0, 1) := by decide +kernel
theorem dX2_meet_57 : decode cX2_meet 57 = .ok (.putfield 29, 3) := by decide +kernel
theorem dX2_meet_60 : decode cX2_meet 60 = .ok (.goto 8, 3) := by decide +kernel
theorem dX2_meet_63 : decode cX2_meet 63 = .ok (.aload_n 2, 1) := by decide +kernel
theorem dX2_meet_64 : decode cX2_meet 64 = .ok (.aload_n 1, 1) := by decide +kernel
theorem dX2_meet_65 : decode cX2_meet 65 = .ok (.invokevirtual 59, 3) := by decide +kernel
theorem dX2_meet_68 : decode cX2_meet 68 = .ok (.aload_n 2, 1) := by decide +kernel
theorem dX2_meet_69 : decode cX2_meet 69 = .ok (.areturn, 1) := by decide +kernel
theorem dX2_arrive_0 : decode cX2_arrive 0 = .ok (.aload_n 1, 1) := by decide +kernel
theorem dX2_arrive_1 : decode cX2_arrive 1 = .ok (.aload_n 0, 1) := by decide +kernel
theorem dX2_arrive_2 : decode cX2_arrive 2 = .ok (.getfield 9, 3) := by decide +kernel
theorem dX2_arrive_5 : decode cX2_arrive 5 = .ok (.aload_n 2, 1) := by decide +kernel
theorem dX2_arrive_6 : decode cX2_arrive 6 = .ok (.invokevirtual 63, 3) := by decide +kernel
theorem dX2_arrive_9 : decode cX2_arrive 9 = .ok (.aload_n 0, 1) := by decide +kernel
theorem dX2_arrive_10 : decode cX2_arrive 10 = .ok (.getfield 19, 3) := by decide +kernel
theorem dX2_arrive_13 : decode cX2_arrive 13 = .ok (.ifnull 11, 3) := by decide +kernel
theorem dX2_arrive_16 : decode cX2_arrive 16 = .ok (.aload_n 0, 1) := by decide +kernel
theorem dX2_arrive_17 : decode cX2_arrive 17 = .ok (.getfield 19, 3) := by decide +kernel
theorem dX2_arrive_20 : decode cX2_arrive 20 = .ok (.aload_n 1, 1) := by decide +kernel
theorem dX2_arrive_21 : decode cX2_arrive 21 = .ok (.putfield 67, 3) := by decide +kernel
theorem dX2_arrive_24 : decode cX2_arrive 24 = .ok (.aload_n 0, 1) := by decide +kernel
theorem dX2_arrive_25 : decode cX2_arrive 25 = .ok (.aload_n 1, 1) := by decide +kernel
theorem dX2_arrive_26 : decode cX2_arrive 26 = .ok (.putfield 19, 3) := by decide +kernel
theorem dX2_arrive_29 : decode cX2_arrive 29 = .ok (.aload_n 0, 1) := by decide +kernel
theorem dX2_arrive_30 : decode cX2_arrive 30 = .ok (.dup, 1) := by decide +kernel
theorem dX2_arrive_31 : decode cX2_arrive 31 = .ok (.getfield 22, 3) := by decide +kernel
theorem dX2_arrive_34 : decode cX2_arrive 34 = .ok (.iconst 1, 1) := by decide +kernel
theorem dX2_arrive_35 : decode cX2_arrive 35 = .ok (.iadd, 1) := by decide +kernel
theorem dX2_arrive_36 : decode cX2_arrive 36 = .ok (.putfield 22, 3) := by decide +kernel
theorem dX2_arrive_39 : decode cX2_arrive 39 = .ok (.aload_n 1, 1) := by decide +kernel
theorem dX2_arrive_40 : decode cX2_arrive 40 = .ok (.areturn, 1) := by decide +kernel
theorem dX2_leave_0 : decode cX2_leave 0 = .ok (.aload_n 1, 1) := by decide +kernel
theorem dX2_leave_1 : decode cX2_leave 1 = .ok (.iconst 0, 1) := by decide +kernel
theorem dX2_leave_2 : decode cX2_leave 2 = .ok (.putfield 56, 3) := by decide +kernel
theorem dX2_leave_5 : decode cX2_leave 5 = .ok (.aload_n 1, 1) := by decide +kernel
theorem dX2_leave_6 : decode cX2_leave 6 = .ok (.getfield 70, 3) := by decide +kernel
theorem dX2_leave_9 : decode cX2_leave 9 = .ok (.astore_n 2, 1) := by decide +kernel
theorem dX2_leave_10 : decode cX2_leave 10 = .ok (.aload_n 2, 1) := by decide +kernel
theorem dX2_leave_11 : decode cX2_leave 11 = .ok (.ifnull 8, 3) := by decide +kernel
theorem dX2_leave_14 : decode cX2_leave 14 = .ok (.aload_n 2, 1) := by decide +kernel
theorem dX2_leave_15 : decode cX2_leave 15 = .ok (.aload_n 1, 1) := by decide +kernel
theorem dX2_leave_16 : decode cX2_leave 16 = .ok (.invokevirtual 59, 3) := by decide +kernel
theorem dX2_leave_19 : decode cX2_leave 19 = .ok (.aload_n 2, 1) := by decide +kernel
theorem dX2_leave_20 : decode cX2_leave 20 = .ok (.areturn, 1) := by decide +kernel
theorem dX3_init_0 : decode cX3_init 0 = .ok (.aload_n 0, 1) := by decide +kernel
theorem dX3_init_1 : decode cX3_init 1 = .ok (.invokespecial 3, 3) := by decide +kernel
theorem dX3_init_4 : decode cX3_init 4 = .ok (.aload_n 0, 1) := by decide +kernel
theorem dX3_init_5 : decode cX3_init 5 = .ok (.sipush 2000, 3) := by decide +kernel
theorem dX3_init_8 : decode cX3_init 8 = .ok (.anewarray 9, 3) := by decide +kernel
theorem dX3_init_11 : decode cX3_init 11 = .ok (.putfield 11, 3) := by decide +kernel
theorem dX3_init_14 : decode cX3_init 14 = .ok (.aload_n 0, 1) := by decide +kernel
theorem dX3_init_15 : decode cX3_init 15 = .ok (.new 15, 3) := by decide +kernel
theorem dX3_init_18 : decode cX3_init 18 = .ok (.dup, 1) := by decide +kernel
theorem dX3_init_19 : decode cX3_init 19 = .ok (.invokespecial 17, 3) := by decide +kernel
theorem dX3_init_22 : decode cX3_init 22 = .ok (.putfield 18, 3) := by decide +kernel
theorem dX3_init_25 : decode cX3_init 25 = .ok (.aload_n 0, 1) := by decide +kernel
theorem dX3_init_26 : decode cX3_init 26 = .ok (.iconst 0, 1) := by decide +kernel
theorem dX3_init_27 : decode cX3_init 27 = .ok (.putfield 22, 3) := by decide +kernel
theorem dX3_init_30 : decode cX3_init 30 = .ok (.aload_n 0, 1) := by decide +kernel
theorem dX3_init_31 : decode cX3_init 31 = .ok (.iconst 0, 1) := by decide +kernel
theorem dX3_init_32 : decode cX3_init 32 = .ok (.putfield 26, 3) := by decide +kernel
theorem dX3_init_35 : decode cX3_init 35 = .ok (.return_, 1) := by decide +kernel
theorem dX3_make_0 : decode cX3_make 0 = .ok (.iload_n 1, 1) := by decide +kernel
theorem dX3_make_1 : decode cX3_make 1 = .ok (.ifCond .lt 9, 3) := by decide +kernel
theorem dX3_make_4 : decode cX3_make 4 = .ok (.iload_n 1, 1) := by decide +kernel
theorem dX3_make_5 : decode cX3_make 5 = .ok (.bipush 6, 2) := by decide +kernel
theorem dX3_make_7 : decode cX3_make 7 = .ok (.if_icmp .le 5, 3) := by decide +kernel
theorem dX3_make_10 : decode cX3_make 10 = .ok (.iconst (-1), 1) := by decide +kernel
theorem dX3_make_11 : decode cX3_make 11 = .ok (.ireturn, 1) := by decide +kernel
theorem dX3_make_12 : decode cX3_make 12 = .ok (.iload_n 2, 1) := by decide +kernel
theorem dX3_make_13 : decode cX3_make 13 = .ok (.sipush 500, 3) := by decide +kernel
theorem dX3_make_16 : decode cX3_make 16 = .ok (.if_icmp .gt 11, 3) := by decide +kernel
theorem dX3_make_19 : decode cX3_make 19 = .ok (.aload_n 0, 1) := by decide +kernel
theorem dX3_make_20 : decode cX3_make 20 = .ok (.iconst 1, 1) := by decide +kernel
theorem dX3_make_21 : decode cX3_make 21 = .ok (.invokevirtual 29, 3) := by decide +kernel
theorem dX3_make_24 : decode cX3_make 24 = .ok (.ifCond .ne 6, 3) := by decide +kernel
theorem dX3_make_27 : decode cX3_make 27 = .ok (.bipush (-2), 2) := by decide +kernel
theorem dX3_make_29 : decode cX3_make 29 = .ok (.ireturn, 1) := by decide +kernel
theorem dX3_make_30 : decode cX3_make 30 = .ok (.iload_n 2, 1) := by decide +kernel
theorem dX3_make_31 : decode cX3_make 31 = .ok (.ifCond .ge 6, 3) := by decide +kernel
theorem dX3_make_34 : decode cX3_make 34 = .ok (.bipush (-3), 2) := by decide +kernel
theorem dX3_make_36 : decode cX3_make 36 = .ok (.ireturn, 1) := by decide +kernel
theorem dX3_make_37 : decode cX3_make 37 = .ok (.iload_n 1, 1) := by decide +kernel
theorem dX3_make_38 : decode cX3_make 38 = .ok (.invokestatic 33, 3) := by decide +kernel
theorem dX3_make_41 : decode cX3_make 41 = .ok (.istore_n 3, 1) := by decide +kernel
theorem dX3_make_42 : decode cX3_make 42 = .ok (.iload_n 3, 1) := by decide +kernel
theorem dX3_make_43 : decode cX3_make 43 = .ok (.ifCond .eq 7, 3) := by decide +kernel
theorem dX3_make_46 : decode cX3_make 46 = .ok (.iload_n 2, 1) := by decide +kernel
theorem dX3_make_47 : decode cX3_make 47 = .ok (.goto 4, 3) := by decide +kernel
theorem dX3_make_50 : decode cX3_make 50 = .ok (.iconst 0, 1) := by decide +kernel
theorem dX3_make_51 : decode cX3_make 51 = .ok (.newarray .long, 2) := by decide +kernel
theorem dX3_make_53 : decode cX3_make 53 = .ok (.astore 4, 2) := by decide +kernel
theorem dX3_make_55 : decode cX3_make 55 = .ok (.iload_n 3, 1) := by decide +kernel
theorem dX3_make_56 : decode cX3_make 56 = .ok (.ifCond .eq 7, 3) := by decide +kernel
theorem dX3_make_59 : decode cX3_make 59 = .ok (.iconst 0, 1) := by decide +kernel
theorem dX3_make_60 : decode cX3_make 60 = .ok (.goto 4, 3) := by decide +kernel
theorem dX3_make_63 : decode cX3_make 63 = .ok (.iload_n 2, 1) := by decide +kernel
theorem dX3_make_64 : decode cX3_make 64 = .ok (.anewarray 9, 3) := by decide +kernel
theorem dX3_make_67 : decode cX3_make 67 = .ok (.astore 5, 2) := by decide +kernel
theorem dX3_make_69 : decode cX3_make 69 = .ok (.aload_n 0, 1) := by decide +kernel
theorem dX3_make_70 : decode cX3_make 70 = .ok (.new 9, 3) := by decide +kernel
theorem dX3_make_73 : decode cX3_make 73 = .ok (.dup, 1) := by decide +kernel
theorem dX3_make_74 : decode cX3_make 74 = .ok (.aload_n 0, 1) := by decide +kernel
theorem dX3_make_75 : decode cX3_make 75 = .ok (.getfield 22, 3) := by decide +kernel
theorem dX3_make_78 : decode cX3_make 78 = .ok (.iload_n 1, 1) := by decide +kernel
theorem dX3_make_79 : decode cX3_make 79 = .ok (.iconst 0, 1) := by decide +kernel
theorem dX3_make_80 : decode cX3_make 80 = .ok (.aload 4, 2) := by decide +kernel
theorem dX3_make_82 : decode cX3_make 82 = .ok (.aload 5, 2) := by decide +kernel
theorem dX3_make_84 : decode cX3_make 84 = .ok (.invokespecial 36, 3) := by decide +kernel
theorem dX3_make_87 : decode cX3_make 87 = .ok (.invokevirtual 39, 3) := by decide +kernel
theorem dX3_make_90 : decode cX3_make 90 = .ok (.ireturn, 1) := by decide +kernel
theorem dX3_token_0 : decode cX3_token 0 = .ok (.aload_n 0, 1) := by decide +kernel
theorem dX3_token_1 : decode cX3_token 1 = .ok (.iconst 1, 1) := by decide +kernel
theorem dX3_token_2 : decode cX3_token 2 = .ok (.invokevirtual 29, 3) := by decide +kernel
theorem dX3_token_5 : decode cX3_token 5 = .ok (.ifCond .ne 6, 3) := by decide +kernel
theorem dX3_token_8 : decode cX3_token 8 = .ok (.bipush (-2), 2) := by decide +kernel
theorem dX3_token_10 : decode cX3_token 10 = .ok (.ireturn, 1) := by decide +kernel
theorem dX3_token_11 : decode cX3_token 11 = .ok (.iload_n 2, 1) := by decide +kernel
theorem dX3_token_12 : decode cX3_token 12 = .ok (.ifCond .eq 8, 3) := by decide +kernel
theorem dX3_token_15 : decode cX3_token 15 = .ok (.bipush 8, 2) := by decide +kernel
theorem dX3_token_17 : decode cX3_token 17 = .ok (.goto 5, 3) := by decide +kernel
theorem dX3_token_20 : decode cX3_token 20 = .ok (.bipush 7, 2) := by decide +kernel
theorem dX3_token_22 : decode cX3_token 22 = .ok (.istore_n 3, 1) := by decide +kernel
theorem dX3_token_23 : decode cX3_token 23 = .ok (.iload_n 2, 1) := by decide +kernel
theorem dX3_token_24 : decode cX3_token 24 = .ok (.ifCond .eq 7, 3) := by decide +kernel
theorem dX3_token_27 : decode cX3_token 27 = .ok (.iconst 0, 1) := by decide +kernel
theorem dX3_token_28 : decode cX3_token 28 = .ok (.goto 4, 3) := by decide +kernel
theorem dX3_token_31 : decode cX3_token 31 = .ok (.iconst 1, 1) := by decide +kernel
theorem dX3_token_32 : decode cX3_token 32 = .ok (.anewarray 9, 3) := by decide +kernel
theorem dX3_token_35 : decode cX3_token 35 = .ok (.astore 4, 2) := by decide +kernel
theorem dX3_token_37 : decode cX3_token 37 = .ok (.aload_n 0, 1) := by decide +kernel
theorem dX3_token_38 : decode cX3_token 38 = .ok (.new 9, 3) := by decide +kernel
theorem dX3_token_41 : decode cX3_token 41 = .ok (.dup, 1) := by decide +kernel
theorem dX3_token_42 : decode cX3_token 42 = .ok (.aload_n 0, 1) := by decide +kernel
theorem dX3_token_43 : decode cX3_token 43 = .ok (.getfield 22, 3) := by decide +kernel
theorem dX3_token_46 : decode cX3_token 46 = .ok (.iload_n 3, 1) := by decide +kernel
theorem dX3_token_47 : decode cX3_token 47 = .ok (.iload_n 1, 1) := by decide +kernel
theorem dX3_token_48 : decode cX3_token 48 = .ok (.iconst 0, 1) := by decide +kernel
theorem dX3_token_49 : decode cX3_token 49 = .ok (.newarray .long, 2) := by decide +kernel
theorem dX3_token_51 : decode cX3_token 51 = .ok (.aload 4, 2) := by decide +kernel
theorem dX3_token_53 : decode cX3_token 53 = .ok (.invokespecial 36, 3) := by decide +kernel
theorem dX3_token_56 : decode cX3_token 56 = .ok (.invokevirtual 39, 3) := by decide +kernel
theorem dX3_token_59 : decode cX3_token 59 = .ok (.ireturn, 1) := by decide +kernel
theorem dX3_put_0 : decode cX3_put 0 = .ok (.aload_n 0, 1) := by decide +kernel
theorem dX3_put_1 : decode cX3_put 1 = .ok (.iload_n 1, 1) := by decide +kernel
theorem dX3_put_2 : decode cX3_put 2 = .ok (.invokevirtual 43, 3) := by decide +kernel
theorem dX3_put_5 : decode cX3_put 5 = .ok (.astore 5, 2) := by decide +kernel
theorem dX3_put_7 : decode cX3_put 7 = .ok (.aload 5, 2) := by decide +kernel
theorem dX3_put_9 : decode cX3_put 9 = .ok (.ifnonnull 5, 3) := by decide +kernel
theorem dX3_put_12 : decode cX3_put 12 = .ok (.iconst 1, 1) := by decide +kernel
theorem dX3_put_13 : decode cX3_put 13 = .ok (.ireturn, 1) := by decide +kernel
theorem dX3_put_14 : decode cX3_put 14 = .ok (.aload 5, 2) := by decide +kernel
theorem dX3_put_16 : decode cX3_put 16 = .ok (.getfield 47, 3) := by decide +kernel
theorem dX3_put_19 : decode cX3_put 19 = .ok (.invokestatic 33, 3) := by decide +kernel
theorem dX3_put_22 : decode cX3_put 22 = .ok (.ifCond .ne 5, 3) := by decide +kernel
theorem dX3_put_25 : decode cX3_put 25 = .ok (.iconst 4, 1) := by decide +kernel
theorem dX3_put_26 : decode cX3_put 26 = .ok (.ireturn, 1) := by decide +kernel
theorem dX3_put_27 : decode cX3_put 27 = .ok (.iload_n 2, 1) := by decide +kernel
theorem dX3_put_28 : decode cX3_put 28 = .ok (.ifCond .lt 13, 3) := by decide +kernel
theorem dX3_put_31 : decode cX3_put 31 = .ok (.iload_n 2, 1) := by decide +kernel
theorem dX3_put_32 : decode cX3_put 32 = .ok (.aload 5, 2) := by decide +kernel
theorem dX3_put_34 : decode cX3_put 34 = .ok (.getfield 50, 3) := by decide +kernel
theorem dX3_put_37 : decode cX3_put 37 = .ok (.arraylength, 1) := by decide +kernel
theorem dX3_put_38 : decode cX3_put 38 = .ok (.if_icmp .lt 5, 3) := by decide +kernel
theorem dX3_put_41 : decode cX3_put 41 = .ok (.iconst 2, 1) := by decide +kernel
theorem dX3_put_42 : decode cX3_put 42 = .ok (.ireturn, 1) := by decide +kernel
theorem dX3_put_43 : decode cX3_put 43 = .ok (.aload 5, 2) := by decide +kernel
theorem dX3_put_45 : decode cX3_put 45 = .ok (.getfield 47, 3) := by decide +kernel
theorem dX3_put_48 : decode cX3_put 48 = .ok (.lload_n 3, 1) := by decide +kernel
theorem dX3_put_49 : decode cX3_put 49 = .ok (.invokestatic 54, 3) := by decide +kernel
theorem dX3_put_52 : decode cX3_put 52 = .ok (.lstore 6, 2) := by decide +kernel
theorem dX3_put_54 : decode cX3_put 54 = .ok (.aload 5, 2) := by decide +kernel
theorem dX3_put_56 : decode cX3_put 56 = .ok (.dup, 1) := by decide +kernel
theorem dX3_put_57 : decode cX3_put 57 = .ok (.getfield 58, 3) := by decide +kernel
theorem dX3_put_60 : decode cX3_put 60 = .ok (.lload 6, 2) := by decide +kernel
theorem dX3_put_62 : decode cX3_put 62 = .ok (.aload 5, 2) := by decide +kernel
theorem dX3_put_64 : decode cX3_put 64 = .ok (.getfield 50, 3) := by decide +kernel
theorem dX3_put_67 : decode cX3_put 67 = .ok (.iload_n 2, 1) := by decide +kernel
theorem dX3_put_68 : decode cX3_put 68 = .ok (.laload, 1) := by decide +kernel
theorem dX3_put_69 : decode cX3_put 69 = .ok (.lsub, 1) := by decide +kernel
theorem dX3_put_70 : decode cX3_put 70 = .ok (.ladd, 1) := by decide +kernel
theorem dX3_put_71 : decode cX3_put 71 = .ok (.putfield 58, 3) := by decide +kernel
theorem dX3_put_74 : decode cX3_put 74 = .ok (.aload 5, 2) := by decide +kernel
theorem dX3_put_76 : decode cX3_put 76 = .ok (.getfield 50, 3) := by decide +kernel
theorem dX3_put_79 : decode cX3_put 79 = .ok (.iload_n 2, 1) := by decide +kernel
theorem dX3_put_80 : decode cX3_put 80 = .ok (.lload 6, 2) := by decide +kernel
theorem dX3_put_82 : decode cX3_put 82 = .ok (.lastore, 1) := by decide +kernel
theorem dX3_put_83 : decode cX3_put 83 = .ok (.iconst 0, 1) := by decide +kernel
theorem dX3_put_84 : decode cX3_put 84 = .ok (.ireturn, 1) := by decide +kernel
theorem dX3_hang_0 : decode cX3_hang 0 = .ok (.aload_n 0, 1) := by decide +kernel
theorem dX3_hang_1 : decode cX3_hang 1 = .ok (.iload_n 1, 1) := by decide +kernel
theorem dX3_hang_2 : decode cX3_hang 2 = .ok (.invokevirtual 43, 3) := by decide +kernel
theorem dX3_hang_5 : decode cX3_hang 5 = .ok (.astore 4, 2) := by decide +kernel
theorem dX3_hang_7 : decode cX3_hang 7 = .ok (.aload_n 0, 1) := by decide +kernel
theorem dX3_hang_8 : decode cX3_hang 8 = .ok (.iload_n 3, 1) := by decide +kernel
theorem dX3_hang_9 : decode cX3_hang 9 = .ok (.invokevirtual 43, 3) := by decide +kernel
theorem dX3_hang_12 : decode cX3_hang 12 = .ok (.astore 5, 2) := by decide +kernel
theorem dX3_hang_14 : decode cX3_hang 14 = .ok (.aload 4, 2) := by decide +kernel
theorem dX3_hang_16 : decode cX3_hang 16 = .ok (.ifnull 13, 3) := by decide +kernel
theorem dX3_hang_19 : decode cX3_hang 19 = .ok (.aload 5, 2) := by decide +kernel
theorem dX3_hang_21 : decode cX3_hang 21 = .ok (.ifnonnull 10, 3) := by decide +kernel
theorem dX3_hang_24 : decode cX3_hang 24 = .ok (.iload_n 3, 1) := by decide +kernel
theorem dX3_hang_25 : decode cX3_hang 25 = .ok (.iconst (-1), 1) := by decide +kernel
theorem dX3_hang_26 : decode cX3_hang 26 = .ok (.if_icmp .eq 5, 3) := by decide +kernel
theorem dX3_hang_29 : decode cX3_hang 29 = .ok (.iconst 1, 1) := by decide +kernel
theorem dX3_hang_30 : decode cX3_hang 30 = .ok (.ireturn, 1) := by decide +kernel
theorem dX3_hang_31 : decode cX3_hang 31 = .ok (.aload 4, 2) := by decide +kernel
theorem dX3_hang_33 : decode cX3_hang 33 = .ok (.getfield 47, 3) := by decide +kernel
theorem dX3_hang_36 : decode cX3_hang 36 = .ok (.invokestatic 62, 3) := by decide +kernel
theorem dX3_hang_39 : decode cX3_hang 39 = .ok (.ifCond .ne 5, 3) := by decide +kernel
theorem dX3_hang_42 : decode cX3_hang 42 = .ok (.iconst 4, 1) := by decide +kernel
theorem dX3_hang_43 : decode cX3_hang 43 = .ok (.ireturn, 1) := by decide +kernel
theorem dX3_hang_44 : decode cX3_hang 44 = .ok (.iload_n 2, 1) := by decide +kernel
theorem dX3_hang_45 : decode cX3_hang 45 = .ok (.ifCond .lt 13, 3) := by decide +kernel
theorem dX3_hang_48 : decode cX3_hang 48 = .ok (.iload_n 2, 1) := by decide +kernel
theorem dX3_hang_49 : decode cX3_hang 49 = .ok (.aload 4, 2) := by decide +kernel
theorem dX3_hang_51 : decode cX3_hang 51 = .ok (.getfield 65, 3) := by decide +kernel
theorem dX3_hang_54 : decode cX3_hang 54 = .ok (.arraylength, 1) := by decide +kernel
theorem dX3_hang_55 : decode cX3_hang 55 = .ok (.if_icmp .lt 5, 3) := by decide +kernel
theorem dX3_hang_58 : decode cX3_hang 58 = .ok (.iconst 2, 1) := by decide +kernel
theorem dX3_hang_59 : decode cX3_hang 59 = .ok (.ireturn, 1) := by decide +kernel
theorem dX3_hang_60 : decode cX3_hang 60 = .ok (.aload 5, 2) := by decide +kernel
theorem dX3_hang_62 : decode cX3_hang 62 = .ok (.ifnull 21, 3) := by decide +kernel
theorem dX3_hang_65 : decode cX3_hang 65 = .ok (.aload 5, 2) := by decide +kernel
theorem dX3_hang_67 : decode cX3_hang 67 = .ok (.getfield 47, 3) := by decide +kernel
theorem dX3_hang_70 : decode cX3_hang 70 = .ok (.aload 4, 2) := by decide +kernel
theorem dX3_hang_72 : decode cX3_hang 72 = .ok (.getfield 47, 3) := by decide +kernel
theorem dX3_hang_75 : decode cX3_hang 75 = .ok (.invokestatic 68, 3) := by decide +kernel
theorem dX3_hang_78 : decode cX3_hang 78 = .ok (.ifCond .ne 5, 3) := by decide +kernel
theorem dX3_hang_81 : decode cX3_hang 81 = .ok (.iconst 3, 1) := by decide +kernel
theorem dX3_hang_82 : decode cX3_hang 82 = .ok (.ireturn, 1) := by decide +kernel
theorem dX3_hang_83 : decode cX3_hang 83 = .ok (.aload 4, 2) := by decide +kernel
theorem dX3_hang_85 : decode cX3_hang 85 = .ok (.getfield 65, 3) := by decide +kernel
theorem dX3_hang_88 : decode cX3_hang 88 = .ok (.iload_n 2, 1) := by decide +kernel
theorem dX3_hang_89 : decode cX3_hang 89 = .ok (.aload 5, 2) := by decide +kernel
theorem dX3_hang_91 : decode cX3_hang 91 = .ok (.aastore, 1) := by decide +kernel
theorem dX3_hang_92 : decode cX3_hang 92 = .ok (.iconst 0, 1) := by decide +kernel
theorem dX3_hang_93 : decode cX3_hang 93 = .ok (.ireturn, 1) := by decide +kernel
theorem dX3_kind_0 : decode cX3_kind 0 = .ok (.aload_n 0, 1) := by decide +kernel
theorem dX3_kind_1 : decode cX3_kind 1 = .ok (.iload_n 1, 1) := by decide +kernel
theorem dX3_kind_2 : decode cX3_kind 2 = .ok (.invokevirtual 43, 3) := by decide +kernel
theorem dX3_kind_5 : decode cX3_kind 5 = .ok (.astore_n 2, 1) := by decide +kernel
theorem dX3_kind_6 : decode cX3_kind 6 = .ok (.aload_n 2, 1) := by decide +kernel
theorem dX3_kind_7 : decode cX3_kind 7 = .ok (.ifnonnull 7, 3) := by decide +kernel
theorem dX3_kind_10 : decode cX3_kind 10 = .ok (.iconst (-1), 1) := by decide +kernel
theorem dX3_kind_11 : decode cX3_kind 11 = .ok (.goto 7, 3) := by decide +kernel
theorem dX3_kind_14 : decode cX3_kind 14 = .ok (.aload_n 2, 1) := by decide +kernel
theorem dX3_kind_15 : decode cX3_kind 15 = .ok (.getfield 47, 3) := by decide +kernel
theorem dX3_kind_18 : decode cX3_kind 18 = .ok (.ireturn, 1) := by decide +kernel
theorem dX3_length_0 : decode cX3_length 0 = .ok (.aload_n 0, 1) := by decide +kernel
theorem dX3_length_1 : decode cX3_length 1 = .ok (.iload_n 1, 1) := by decide +kernel
theorem dX3_length_2 : decode cX3_length 2 = .ok (.invokevirtual 43, 3) := by decide +kernel
theorem dX3_length_5 : decode cX3_length 5 = .ok (.astore_n 2, 1) := by decide +kernel
theorem dX3_length_6 : decode cX3_length 6 = .ok (.aload_n 2, 1) := by decide +kernel
theorem dX3_length_7 : decode cX3_length 7 = .ok (.ifnonnull 5, 3) := by decide +kernel
theorem dX3_length_10 : decode cX3_length 10 = .ok (.iconst (-1), 1) := by decide +kernel
theorem dX3_length_11 : decode cX3_length 11 = .ok (.ireturn, 1) := by decide +kernel
theorem dX3_length_12 : decode cX3_length 12 = .ok (.aload_n 2, 1) := by decide +kernel
theorem dX3_length_13 : decode cX3_length 13 = .ok (.getfield 47, 3) := by decide +kernel
theorem dX3_length_16 : decode cX3_length 16 = .ok (.invokestatic 33, 3) := by decide +kernel
theorem dX3_length_19 : decode cX3_length 19 = .ok (.ifCond .eq 11, 3) := by decide +kernel
theorem dX3_length_22 : decode cX3_length 22 = .ok (.aload_n 2, 1) := by decide +kernel
theorem dX3_length_23 : decode cX3_length 23 = .ok (.getfield 50, 3) := by decide +kernel
theorem dX3_length_26 : decode cX3_length 26 = .ok (.arraylength, 1) := by decide +kernel
theorem dX3_length_27 : decode cX3_length 27 = .ok (.goto 8, 3) := by decide +kernel
theorem dX3_length_30 : decode cX3_length 30 = .ok (.aload_n 2, 1) := by decide +kernel
theorem dX3_length_31 : decode cX3_length 31 = .ok (.getfield 65, 3) := by decide +kernel
theorem dX3_length_34 : decode cX3_length 34 = .ok (.arraylength, 1) := by decide +kernel
theorem dX3_length_35 : decode cX3_length 35 = .ok (.ireturn, 1) := by decide +kernel
theorem dX3_number_0 : decode cX3_number 0 = .ok (.aload_n 0, 1) := by decide +kernel
theorem dX3_number_1 : decode cX3_number 1 = .ok (.iload_n 1, 1) := by decide +kernel
theorem dX3_number_2 : decode cX3_number 2 = .ok (.invokevirtual 43, 3) := by decide +kernel
theorem dX3_number_5 : decode cX3_number 5 = .ok (.astore_n 3, 1) := by decide +kernel
theorem dX3_number_6 : decode cX3_number 6 = .ok (.aload_n 0, 1) := by decide +kernel
theorem dX3_number_7 : decode cX3_number 7 = .ok (.aload_n 3, 1) := by decide +kernel
theorem dX3_number_8 : decode cX3_number 8 = .ok (.iload_n 2, 1) := by decide +kernel
theorem dX3_number_9 : decode cX3_number 9 = .ok (.invokestatic 72, 3) := by decide +kernel
theorem dX3_number_12 : decode cX3_number 12 = .ok (.putfield 26, 3) := by decide +kernel
theorem dX3_number_15 : decode cX3_number 15 = .ok (.aload_n 3, 1) := by decide +kernel
theorem dX3_number_16 : decode cX3_number 16 = .ok (.ifnull 10, 3) := by decide +kernel
theorem dX3_number_19 : decode cX3_number 19 = .ok (.aload_n 0, 1) := by decide +kernel
theorem dX3_number_20 : decode cX3_number 20 = .ok (.getfield 26, 3) := by decide +kernel
theorem dX3_number_23 : decode cX3_number 23 = .ok (.ifCond .eq 5, 3) := by decide +kernel
theorem dX3_number_26 : decode cX3_number 26 = .ok (.lconst 0, 1) := by decide +kernel
theorem dX3_number_27 : decode cX3_number 27 = .ok (.lreturn, 1) := by decide +kernel
theorem dX3_number_28 : decode cX3_number 28 = .ok (.iload_n 2, 1) := by decide +kernel
theorem dX3_number_29 : decode cX3_number 29 = .ok (.ifCond .lt 21, 3) := by decide +kernel
theorem dX3_number_32 : decode cX3_number 32 = .ok (.iload_n 2, 1) := by decide +kernel
theorem dX3_number_33 : decode cX3_number 33 = .ok (.aload_n 3, 1) := by decide +kernel
theorem dX3_number_34 : decode cX3_number 34 = .ok (.getfield 50, 3) := by decide +kernel
theorem dX3_number_37 : decode cX3_number 37 = .ok (.arraylength, 1) := by decide +kernel
theorem dX3_number_38 : decode cX3_number 38 = .ok (.if_icmp .ge 12, 3) := by decide +kernel
theorem dX3_number_41 : decode cX3_number 41 = .ok (.aload_n 3, 1) := by decide +kernel
theorem dX3_number_42 : decode cX3_number 42 = .ok (.getfield 50, 3) := by decide +kernel
theorem dX3_number_45 : decode cX3_number 45 = .ok (.iload_n 2, 1) := by decide +kernel
theorem dX3_number_46 : decode cX3_number 46 = .ok (.laload, 1) := by decide +kernel
theorem dX3_number_47 : decode cX3_number 47 = .ok (.goto 8, 3) := by decide +kernel
theorem dX3_number_50 : decode cX3_number 50 = .ok (.aload_n 3, 1) := by decide +kernel
theorem dX3_number_51 : decode cX3_number 51 = .ok (.getfield 76, 3) := by decide +kernel
theorem dX3_number_54 : decode cX3_number 54 = .ok (.i2l, 1) := by decide +kernel
theorem dX3_number_55 : decode cX3_number 55 = .ok (.lreturn, 1) := by decide +kernel
theorem dX3_below_0 : decode cX3_below 0 = .ok (.aload_n 0, 1) := by decide +kernel
theorem dX3_below_1 : decode cX3_below 1 = .ok (.iload_n 1, 1) := by decide +kernel
theorem dX3_below_2 : decode cX3_below 2 = .ok (.invokevirtual 43, 3) := by decide +kernel
theorem dX3_below_5 : decode cX3_below 5 = .ok (.astore_n 3, 1) := by decide +kernel
theorem dX3_below_6 : decode cX3_below 6 = .ok (.aload_n 0, 1) := by decide +kernel
theorem dX3_below_7 : decode cX3_below 7 = .ok (.aload_n 3, 1) := by decide +kernel
theorem dX3_below_8 : decode cX3_below 8 = .ok (.iload_n 2, 1) := by decide +kernel
theorem dX3_below_9 : decode cX3_below 9 = .ok (.invokestatic 79, 3) := by decide +kernel
theorem dX3_below_12 : decode cX3_below 12 = .ok (.putfield 26, 3) := by decide +kernel
theorem dX3_below_15 : decode cX3_below 15 = .ok (.aload_n 3, 1) := by decide +kernel
theorem dX3_below_16 : decode cX3_below 16 = .ok (.ifnull 16, 3) := by decide +kernel
theorem dX3_below_19 : decode cX3_below 19 = .ok (.iload_n 2, 1) := by decide +kernel
theorem dX3_below_20 : decode cX3_below 20 = .ok (.ifCond .lt 12, 3) := by decide +kernel
theorem dX3_below_23 : decode cX3_below 23 = .ok (.iload_n 2, 1) := by decide +kernel
theorem dX3_below_24 : decode cX3_below 24 = .ok (.aload_n 3, 1) := by decide +kernel
theorem dX3_below_25 : decode cX3_below 25 = .ok (.getfield 65, 3) := by decide +kernel
theorem dX3_below_28 : decode cX3_below 28 = .ok (.arraylength, 1) := by decide +kernel
theorem dX3_below_29 : decode cX3_below 29 = .ok (.if_icmp .lt 6, 3) := by decide +kernel
theorem dX3_below_32 : decode cX3_below 32 = .ok (.bipush (-2), 2) := by decide +kernel
theorem dX3_below_34 : decode cX3_below 34 = .ok (.ireturn, 1) := by decide +kernel
theorem dX3_below_35 : decode cX3_below 35 = .ok (.aload_n 3, 1) := by decide +kernel
theorem dX3_below_36 : decode cX3_below 36 = .ok (.getfield 65, 3) := by decide +kernel
theorem dX3_below_39 : decode cX3_below 39 = .ok (.iload_n 2, 1) := by decide +kernel
theorem dX3_below_40 : decode cX3_below 40 = .ok (.aaload, 1) := by decide +kernel
theorem dX3_below_41 : decode cX3_below 41 = .ok (.astore 4, 2) := by decide +kernel
theorem dX3_below_43 : decode cX3_below 43 = .ok (.aload 4, 2) := by decide +kernel
theorem dX3_below_45 : decode cX3_below 45 = .ok (.ifnonnull 7, 3) := by decide +kernel
theorem dX3_below_48 : decode cX3_below 48 = .ok (.iconst (-1), 1) := by decide +kernel
theorem dX3_below_49 : decode cX3_below 49 = .ok (.goto 8, 3) := by decide +kernel
theorem dX3_below_52 : decode cX3_below 52 = .ok (.aload 4, 2) := by decide +kernel
theorem dX3_below_54 : decode cX3_below 54 = .ok (.getfield 82, 3) := by decide +kernel
theorem dX3_below_57 : decode cX3_below 57 = .ok (.ireturn, 1) := by decide +kernel
theorem dX3_is_0 : decode cX3_is 0 = .ok (.aload_n 0, 1) := by decide +kernel
theorem dX3_is_1 : decode cX3_is 1 = .ok (.iload_n 1, 1) := by decide +kernel
theorem dX3_is_2 : decode cX3_is 2 = .ok (.invokevirtual 43, 3) := by decide +kernel
theorem dX3_is_5 : decode cX3_is 5 = .ok (.astore_n 3, 1) := by decide +kernel
theorem dX3_is_6 : decode cX3_is 6 = .ok (.aload_n 3, 1) := by decide +kernel
theorem dX3_is_7 : decode cX3_is 7 = .ok (.iload_n 1, 1) := by decide +kernel
theorem dX3_is_8 : decode cX3_is 8 = .ok (.iload_n 2, 1) := by decide +kernel
theorem dX3_is_9 : decode cX3_is 9 = .ok (.invokestatic 85, 3) := by decide +kernel
theorem dX3_is_12 : decode cX3_is 12 = .ok (.ifCond .eq 5, 3) := by decide +kernel
theorem dX3_is_15 : decode cX3_is 15 = .ok (.iconst (-1), 1) := by decide +kernel
theorem dX3_is_16 : decode cX3_is 16 = .ok (.ireturn, 1) := by decide +kernel
theorem dX3_is_17 : decode cX3_is 17 = .ok (.aload_n 3, 1) := by decide +kernel
theorem dX3_is_18 : decode cX3_is 18 = .ok (.ifnull 18, 3) := by decide +kernel
theorem dX3_is_21 : decode cX3_is 21 = .ok (.aload_n 3, 1) := by decide +kernel
theorem dX3_is_22 : decode cX3_is 22 = .ok (.getfield 47, 3) := by decide +kernel
theorem dX3_is_25 : decode cX3_is 25 = .ok (.iload_n 2, 1) := by decide +kernel
theorem dX3_is_26 : decode cX3_is 26 = .ok (.invokestatic 89, 3) := by decide +kernel
theorem dX3_is_29 : decode cX3_is 29 = .ok (.ifCond .eq 7, 3) := by decide +kernel
theorem dX3_is_32 : decode cX3_is 32 = .ok (.iconst 1, 1) := by decide +kernel
theorem dX3_is_33 : decode cX3_is 33 = .ok (.goto 4, 3) := by decide +kernel
theorem dX3_is_36 : decode cX3_is 36 = .ok (.iconst 0, 1) := by decide +kernel
theorem dX3_is_37 : decode cX3_is 37 = .ok (.ireturn, 1) := by decide +kernel
theorem dX3_as_0 : decode cX3_as 0 = .ok (.aload_n 0, 1) := by decide +kernel
theorem dX3_as_1 : decode cX3_as 1 = .ok (.iload_n 1, 1) := by decide +kernel
theorem dX3_as_2 : decode cX3_as 2 = .ok (.invokevirtual 43, 3) := by decide +kernel
theorem dX3_as_5 : decode cX3_as 5 = .ok (.astore_n 3, 1) := by decide +kernel
theorem dX3_as_6 : decode cX3_as 6 = .ok (.aload_n 3, 1) := by decide +kernel
theorem dX3_as_7 : decode cX3_as 7 = .ok (.iload_n 1, 1) := by decide +kernel
theorem dX3_as_8 : decode cX3_as 8 = .ok (.iload_n 2, 1) := by decide +kernel
theorem dX3_as_9 : decode cX3_as 9 = .ok (.invokestatic 85, 3) := by decide +kernel
theorem dX3_as_12 : decode cX3_as 12 = .ok (.ifCond .eq 5, 3) := by decide +kernel
theorem dX3_as_15 : decode cX3_as 15 = .ok (.iconst (-1), 1) := by decide +kernel
theorem dX3_as_16 : decode cX3_as 16 = .ok (.ireturn, 1) := by decide +kernel
theorem dX3_as_17 : decode cX3_as 17 = .ok (.aload_n 3, 1) := by decide +kernel
theorem dX3_as_18 : decode cX3_as 18 = .ok (.ifnull 14, 3) := by decide +kernel
theorem dX3_as_21 : decode cX3_as 21 = .ok (.aload_n 3, 1) := by decide +kernel
theorem dX3_as_22 : decode cX3_as 22 = .ok (.getfield 47, 3) := by decide +kernel
theorem dX3_as_25 : decode cX3_as 25 = .ok (.iload_n 2, 1) := by decide +kernel
theorem dX3_as_26 : decode cX3_as 26 = .ok (.invokestatic 89, 3) := by decide +kernel
theorem dX3_as_29 : decode cX3_as 29 = .ok (.ifCond .eq 7, 3) := by decide +kernel
theorem dX3_as_32 : decode cX3_as 32 = .ok (.iconst 0, 1) := by decide +kernel
theorem dX3_as_33 : decode cX3_as 33 = .ok (.goto 4, 3) := by decide +kernel
theorem dX3_as_36 : decode cX3_as 36 = .ok (.iconst 1, 1) := by decide +kernel
theorem dX3_as_37 : decode cX3_as 37 = .ok (.ireturn, 1) := by decide +kernel
theorem dX3_weight_0 : decode cX3_weight 0 = .ok (.aload_n 0, 1) := by decide +kernel
theorem dX3_weight_1 : decode cX3_weight 1 = .ok (.iload_n 1, 1) := by decide +kernel
theorem dX3_weight_2 : decode cX3_weight 2 = .ok (.invokevirtual 43, 3) := by decide +kernel
theorem dX3_weight_5 : decode cX3_weight 5 = .ok (.astore_n 2, 1) := by decide +kernel
theorem dX3_weight_6 : decode cX3_weight 6 = .ok (.aload_n 0, 1) := by decide +kernel
theorem dX3_weight_7 : decode cX3_weight 7 = .ok (.aload_n 0, 1) := by decide +kernel
theorem dX3_weight_8 : decode cX3_weight 8 = .ok (.aload_n 2, 1) := by decide +kernel
theorem dX3_weight_9 : decode cX3_weight 9 = .ok (.invokevirtual 92, 3) := by decide +kernel
theorem dX3_weight_12 : decode cX3_weight 12 = .ok (.putfield 26, 3) := by decide +kernel
theorem dX3_weight_15 : decode cX3_weight 15 = .ok (.aload_n 2, 1) := by decide +kernel
theorem dX3_weight_16 : decode cX3_weight 16 = .ok (.ifnull 10, 3) := by decide +kernel
theorem dX3_weight_19 : decode cX3_weight 19 = .ok (.aload_n 0, 1) := by decide +kernel
theorem dX3_weight_20 : decode cX3_weight 20 = .ok (.getfield 26, 3) := by decide +kernel
theorem dX3_weight_23 : decode cX3_weight 23 = .ok (.ifCond .eq 9, 3) := by decide +kernel
theorem dX3_weight_26 : decode cX3_weight 26 = .ok (.ldc2_w 95, 3) := by decide +kernel
theorem dX3_weight_29 : decode cX3_weight 29 = .ok (.goto 7, 3) := by decide +kernel
theorem dX3_weight_32 : decode cX3_weight 32 = .ok (.aload_n 2, 1) := by decide +kernel
theorem dX3_weight_33 : decode cX3_weight 33 = .ok (.getfield 97, 3) := by decide +kernel
theorem dX3_weight_36 : decode cX3_weight 36 = .ok (.lreturn, 1) := by decide +kernel
theorem dX3_depth_0 : decode cX3_depth 0 = .ok (.aload_n 0, 1) := by decide +kernel
theorem dX3_depth_1 : decode cX3_depth 1 = .ok (.iload_n 1, 1) := by decide +kernel
theorem dX3_depth_2 : decode cX3_depth 2 = .ok (.invokevirtual 43, 3) := by decide +kernel
theorem dX3_depth_5 : decode cX3_depth 5 = .ok (.astore_n 2, 1) := by decide +kernel
theorem dX3_depth_6 : decode cX3_depth 6 = .ok (.aload_n 0, 1) := by decide +kernel
theorem dX3_depth_7 : decode cX3_depth 7 = .ok (.aload_n 0, 1) := by decide +kernel
theorem dX3_depth_8 : decode cX3_depth 8 = .ok (.aload_n 2, 1) := by decide +kernel
theorem dX3_depth_9 : decode cX3_depth 9 = .ok (.invokevirtual 92, 3) := by decide +kernel
theorem dX3_depth_12 : decode cX3_depth 12 = .ok (.putfield 26, 3) := by decide +kernel
theorem dX3_depth_15 : decode cX3_depth 15 = .ok (.aload_n 2, 1) := by decide +kernel
theorem dX3_depth_16 : decode cX3_depth 16 = .ok (.ifnull 10, 3) := by decide +kernel
theorem dX3_depth_19 : decode cX3_depth 19 = .ok (.aload_n 0, 1) := by decide +kernel
theorem dX3_depth_20 : decode cX3_depth 20 = .ok (.getfield 26, 3) := by decide +kernel
theorem dX3_depth_23 : decode cX3_depth 23 = .ok (.ifCond .eq 7, 3) := by decide +kernel
theorem dX3_depth_26 : decode cX3_depth 26 = .ok (.iconst (-1), 1) := by decide +kernel
theorem dX3_depth_27 : decode cX3_depth 27 = .ok (.goto 7, 3) := by decide +kernel
theorem dX3_depth_30 : decode cX3_depth 30 = .ok (.aload_n 2, 1) := by decide +kernel
theorem dX3_depth_31 : decode cX3_depth 31 = .ok (.getfield 100, 3) := by decide +kernel
theorem dX3_depth_34 : decode cX3_depth 34 = .ok (.ireturn, 1) := by decide +kernel
theorem dX3_equal_0 : decode cX3_equal 0 = .ok (.aload_n 0, 1) := by decide +kernel
theorem dX3_equal_1 : decode cX3_equal 1 = .ok (.iload_n 1, 1) := by decide +kernel
theorem dX3_equal_2 : decode cX3_equal 2 = .ok (.invokevirtual 43, 3) := by decide +kernel
theorem dX3_equal_5 : decode cX3_equal 5 = .ok (.astore_n 3, 1) := by decide +kernel
theorem dX3_equal_6 : decode cX3_equal 6 = .ok (.aload_n 0, 1) := by decide +kernel
theorem dX3_equal_7 : decode cX3_equal 7 = .ok (.iload_n 2, 1) := by decide +kernel
theorem dX3_equal_8 : decode cX3_equal 8 = .ok (.invokevirtual 43, 3) := by decide +kernel
theorem dX3_equal_11 : decode cX3_equal 11 = .ok (.astore 4, 2) := by decide +kernel
theorem dX3_equal_13 : decode cX3_equal 13 = .ok (.aload_n 0, 1) := by decide +kernel
theorem dX3_equal_14 : decode cX3_equal 14 = .ok (.aload_n 3, 1) := by decide +kernel
theorem dX3_equal_15 : decode cX3_equal 15 = .ok (.invokevirtual 92, 3) := by decide +kernel
theorem dX3_equal_18 : decode cX3_equal 18 = .ok (.istore 5, 2) := by decide +kernel
theorem dX3_equal_20 : decode cX3_equal 20 = .ok (.aload_n 0, 1) := by decide +kernel
theorem dX3_equal_21 : decode cX3_equal 21 = .ok (.iload 5, 2) := by decide +kernel
theorem dX3_equal_23 : decode cX3_equal 23 = .ok (.aload_n 0, 1) := by decide +kernel
theorem dX3_equal_24 : decode cX3_equal 24 = .ok (.aload 4, 2) := by decide +kernel
theorem dX3_equal_26 : decode cX3_equal 26 = .ok (.invokevirtual 92, 3) := by decide +kernel
theorem dX3_equal_29 : decode cX3_equal 29 = .ok (.invokestatic 103, 3) := by decide +kernel
theorem dX3_equal_32 : decode cX3_equal 32 = .ok (.putfield 26, 3) := by decide +kernel
theorem dX3_equal_35 : decode cX3_equal 35 = .ok (.aload_n 3, 1) := by decide +kernel
theorem dX3_equal_36 : decode cX3_equal 36 = .ok (.ifnull 15, 3) := by decide +kernel
theorem dX3_equal_39 : decode cX3_equal 39 = .ok (.aload 4, 2) := by decide +kernel
theorem dX3_equal_41 : decode cX3_equal 41 = .ok (.ifnull 10, 3) := by decide +kernel
theorem dX3_equal_44 : decode cX3_equal 44 = .ok (.aload_n 0, 1) := by decide +kernel
theorem dX3_equal_45 : decode cX3_equal 45 = .ok (.getfield 26, 3) := by decide +kernel
theorem dX3_equal_48 : decode cX3_equal 48 = .ok (.ifCond .eq 5, 3) := by decide +kernel
theorem dX3_equal_51 : decode cX3_equal 51 = .ok (.iconst (-1), 1) := by decide +kernel
theorem dX3_equal_52 : decode cX3_equal 52 = .ok (.ireturn, 1) := by decide +kernel
theorem dX3_equal_53 : decode cX3_equal 53 = .ok (.new 107, 3) := by decide +kernel
theorem dX3_equal_56 : decode cX3_equal 56 = .ok (.dup, 1) := by decide +kernel
theorem dX3_equal_57 : decode cX3_equal 57 = .ok (.invokespecial 109, 3) := by decide +kernel
theorem dX3_equal_60 : decode cX3_equal 60 = .ok (.aload_n 3, 1) := by decide +kernel
theorem dX3_equal_61 : decode cX3_equal 61 = .ok (.aload 4, 2) := by decide +kernel
theorem dX3_equal_63 : decode cX3_equal 63 = .ok (.invokevirtual 110, 3) := by decide +kernel
theorem dX3_equal_66 : decode cX3_equal 66 = .ok (.ifCond .eq 7, 3) := by decide +kernel
theorem dX3_equal_69 : decode cX3_equal 69 = .ok (.iconst 1, 1) := by decide +kernel
theorem dX3_equal_70 : decode cX3_equal 70 = .ok (.goto 4, 3) := by decide +kernel
theorem dX3_equal_73 : decode cX3_equal 73 = .ok (.iconst 0, 1) := by decide +kernel
theorem dX3_equal_74 : decode cX3_equal 74 = .ok (.ireturn, 1) := by decide +kernel
theorem dX3_order_0 : decode cX3_order 0 = .ok (.aload_n 0, 1) := by decide +kernel
theorem dX3_order_1 : decode cX3_order 1 = .ok (.iload_n 1, 1) := by decide +kernel
theorem dX3_order_2 : decode cX3_order 2 = .ok (.invokevirtual 43, 3) := by decide +kernel
theorem dX3_order_5 : decode cX3_order 5 = .ok (.astore_n 3, 1) := by decide +kernel
theorem dX3_order_6 : decode cX3_order 6 = .ok (.aload_n 0, 1) := by decide +kernel
theorem dX3_order_7 : decode cX3_order 7 = .ok (.iload_n 2, 1) := by decide +kernel
theorem dX3_order_8 : decode cX3_order 8 = .ok (.invokevirtual 43, 3) := by decide +kernel
theorem dX3_order_11 : decode cX3_order 11 = .ok (.astore 4, 2) := by decide +kernel
theorem dX3_order_13 : decode cX3_order 13 = .ok (.aload_n 3, 1) := by decide +kernel
theorem dX3_order_14 : decode cX3_order 14 = .ok (.ifnull 8, 3) := by decide +kernel
theorem dX3_order_17 : decode cX3_order 17 = .ok (.aload 4, 2) := by decide +kernel
theorem dX3_order_19 : decode cX3_order 19 = .ok (.ifnonnull 5, 3) := by decide +kernel
theorem dX3_order_22 : decode cX3_order 22 = .ok (.iconst 3, 1) := by decide +kernel
theorem dX3_order_23 : decode cX3_order 23 = .ok (.ireturn, 1) := by decide +kernel
theorem dX3_order_24 : decode cX3_order 24 = .ok (.aload_n 3, 1) := by decide +kernel
theorem dX3_order_25 : decode cX3_order 25 = .ok (.getfield 47, 3) := by decide +kernel
theorem dX3_order_28 : decode cX3_order 28 = .ok (.bipush 8, 2) := by decide +kernel
theorem dX3_order_30 : decode cX3_order 30 = .ok (.if_icmp .ne 13, 3) := by decide +kernel
theorem dX3_order_33 : decode cX3_order 33 = .ok (.aload 4, 2) := by decide +kernel
theorem dX3_order_35 : decode cX3_order 35 = .ok (.getfield 47, 3) := by decide +kernel
theorem dX3_order_38 : decode cX3_order 38 = .ok (.bipush 8, 2) := by decide +kernel
theorem dX3_order_40 : decode cX3_order 40 = .ok (.if_icmp .eq 5, 3) := by decide +kernel
theorem dX3_order_43 : decode cX3_order 43 = .ok (.iconst 2, 1) := by decide +kernel
theorem dX3_order_44 : decode cX3_order 44 = .ok (.ireturn, 1) := by decide +kernel
theorem dX3_order_45 : decode cX3_order 45 = .ok (.aload_n 3, 1) := by decide +kernel
theorem dX3_order_46 : decode cX3_order 46 = .ok (.getfield 76, 3) := by decide +kernel
theorem dX3_order_49 : decode cX3_order 49 = .ok (.aload 4, 2) := by decide +kernel
theorem dX3_order_51 : decode cX3_order 51 = .ok (.getfield 76, 3) := by decide +kernel
theorem dX3_order_54 : decode cX3_order 54 = .ok (.if_icmp .ne 5, 3) := by decide +kernel
theorem dX3_order_57 : decode cX3_order 57 = .ok (.iconst 0, 1) := by decide +kernel
theorem dX3_order_58 : decode cX3_order 58 = .ok (.ireturn, 1) := by decide +kernel
theorem dX3_order_59 : decode cX3_order 59 = .ok (.aload_n 3, 1) := by decide +kernel
theorem dX3_order_60 : decode cX3_order 60 = .ok (.getfield 76, 3) := by decide +kernel
theorem dX3_order_63 : decode cX3_order 63 = .ok (.aload 4, 2) := by decide +kernel
theorem dX3_order_65 : decode cX3_order 65 = .ok (.getfield 76, 3) := by decide +kernel
theorem dX3_order_68 : decode cX3_order 68 = .ok (.if_icmp .ge 7, 3) := by decide +kernel
theorem dX3_order_71 : decode cX3_order 71 = .ok (.iconst (-1), 1) := by decide +kernel
theorem dX3_order_72 : decode cX3_order 72 = .ok (.goto 4, 3) := by decide +kernel
theorem dX3_order_75 : decode cX3_order 75 = .ok (.iconst 1, 1) := by decide +kernel
theorem dX3_order_76 : decode cX3_order 76 = .ok (.ireturn, 1) := by decide +kernel
theorem dX3_sort_0 : decode cX3_sort 0 = .ok (.aload_n 0, 1) := by decide +kernel
theorem dX3_sort_1 : decode cX3_sort 1 = .ok (.iload_n 1, 1) := by decide +kernel
theorem dX3_sort_2 : decode cX3_sort 2 = .ok (.invokevirtual 43, 3) := by decide +kernel
theorem dX3_sort_5 : decode cX3_sort 5 = .ok (.astore_n 2, 1) := by decide +kernel
theorem dX3_sort_6 : decode cX3_sort 6 = .ok (.aload_n 2, 1) := by decide +kernel
theorem dX3_sort_7 : decode cX3_sort 7 = .ok (.ifnonnull 5, 3) := by decide +kernel
theorem dX3_sort_10 : decode cX3_sort 10 = .ok (.iconst 1, 1) := by decide +kernel
theorem dX3_sort_11 : decode cX3_sort 11 = .ok (.ireturn, 1) := by decide +kernel
theorem dX3_sort_12 : decode cX3_sort 12 = .ok (.aload_n 2, 1) := by decide +kernel
theorem dX3_sort_13 : decode cX3_sort 13 = .ok (.getfield 47, 3) := by decide +kernel
theorem dX3_sort_16 : decode cX3_sort 16 = .ok (.iconst 4, 1) := by decide +kernel
theorem dX3_sort_17 : decode cX3_sort 17 = .ok (.invokestatic 89, 3) := by decide +kernel
theorem dX3_sort_20 : decode cX3_sort 20 = .ok (.ifCond .ne 5, 3) := by decide +kernel
theorem dX3_sort_23 : decode cX3_sort 23 = .ok (.iconst 4, 1) := by decide +kernel
theorem dX3_sort_24 : decode cX3_sort 24 = .ok (.ireturn, 1) := by decide +kernel
theorem dX3_sort_25 : decode cX3_sort 25 = .ok (.aload_n 2, 1) := by decide +kernel
theorem dX3_sort_26 : decode cX3_sort 26 = .ok (.getfield 65, 3) := by decide +kernel
theorem dX3_sort_29 : decode cX3_sort 29 = .ok (.invokestatic 114, 3) := by decide +kernel
theorem dX3_sort_32 : decode cX3_sort 32 = .ok (.ifCond .eq 5, 3) := by decide +kernel
theorem dX3_sort_35 : decode cX3_sort 35 = .ok (.iconst 3, 1) := by decide +kernel
theorem dX3_sort_36 : decode cX3_sort 36 = .ok (.ireturn, 1) := by decide +kernel
theorem dX3_sort_37 : decode cX3_sort 37 = .ok (.aload_n 2, 1) := by decide +kernel
theorem dX3_sort_38 : decode cX3_sort 38 = .ok (.getfield 65, 3) := by decide +kernel
theorem dX3_sort_41 : decode cX3_sort 41 = .ok (.invokestatic 118, 3) := by decide +kernel
theorem dX3_sort_44 : decode cX3_sort 44 = .ok (.iconst 0, 1) := by decide +kernel
theorem dX3_sort_45 : decode cX3_sort 45 = .ok (.ireturn, 1) := by decide +kernel
theorem dX3_copy_0 : decode cX3_copy 0 = .ok (.aload_n 0, 1) := by decide +kernel
theorem dX3_copy_1 : decode cX3_copy 1 = .ok (.iload_n 1, 1) := by decide +kernel
theorem dX3_copy_2 : decode cX3_copy 2 = .ok (.invokevirtual 43, 3) := by decide +kernel
theorem dX3_copy_5 : decode cX3_copy 5 = .ok (.astore_n 3, 1) := by decide +kernel
theorem dX3_copy_6 : decode cX3_copy 6 = .ok (.aload_n 0, 1) := by decide +kernel
theorem dX3_copy_7 : decode cX3_copy 7 = .ok (.aload_n 0, 1) := by decide +kernel
theorem dX3_copy_8 : decode cX3_copy 8 = .ok (.aload_n 3, 1) := by decide +kernel
theorem dX3_copy_9 : decode cX3_copy 9 = .ok (.iload_n 2, 1) := by decide +kernel
theorem dX3_copy_10 : decode cX3_copy 10 = .ok (.invokevirtual 122, 3) := by decide +kernel
theorem dX3_copy_13 : decode cX3_copy 13 = .ok (.putfield 26, 3) := by decide +kernel
theorem dX3_copy_16 : decode cX3_copy 16 = .ok (.aload_n 3, 1) := by decide +kernel
theorem dX3_copy_17 : decode cX3_copy 17 = .ok (.ifnull 10, 3) := by decide +kernel
theorem dX3_copy_20 : decode cX3_copy 20 = .ok (.aload_n 0, 1) := by decide +kernel
theorem dX3_copy_21 : decode cX3_copy 21 = .ok (.getfield 26, 3) := by decide +kernel
theorem dX3_copy_24 : decode cX3_copy 24 = .ok (.ifCond .eq 5, 3) := by decide +kernel
theorem dX3_copy_27 : decode cX3_copy 27 = .ok (.iconst (-1), 1) := by decide +kernel
theorem dX3_copy_28 : decode cX3_copy 28 = .ok (.ireturn, 1) := by decide +kernel
theorem dX3_copy_29 : decode cX3_copy 29 = .ok (.iload_n 2, 1) := by decide +kernel
theorem dX3_copy_30 : decode cX3_copy 30 = .ok (.ifCond .ne 18, 3) := by decide +kernel
theorem dX3_copy_33 : decode cX3_copy 33 = .ok (.aload_n 0, 1) := by decide +kernel
theorem dX3_copy_34 : decode cX3_copy 34 = .ok (.aload_n 3, 1) := by decide +kernel
theorem dX3_copy_35 : decode cX3_copy 35 = .ok (.aload_n 0, 1) := by decide +kernel
theorem dX3_copy_36 : decode cX3_copy 36 = .ok (.getfield 22, 3) := by decide +kernel
theorem dX3_copy_39 : decode cX3_copy 39 = .ok (.invokevirtual 125, 3) := by decide +kernel
theorem dX3_copy_42 : decode cX3_copy 42 = .ok (.invokevirtual 39, 3) := by decide +kernel
theorem dX3_copy_45 : decode cX3_copy 45 = .ok (.goto 8, 3) := by decide +kernel
theorem dX3_copy_48 : decode cX3_copy 48 = .ok (.aload_n 0, 1) := by decide +kernel
theorem dX3_copy_49 : decode cX3_copy 49 = .ok (.aload_n 3, 1) := by decide +kernel
theorem dX3_copy_50 : decode cX3_copy 50 = .ok (.invokevirtual 128, 3) := by decide +kernel
theorem dX3_copy_53 : decode cX3_copy 53 = .ok (.ireturn, 1) := by decide +kernel
theorem dX3_ring_0 : decode cX3_ring 0 = .ok (.aload_n 0, 1) := by decide +kernel
theorem dX3_ring_1 : decode cX3_ring 1 = .ok (.iload_n 1, 1) := by decide +kernel
theorem dX3_ring_2 : decode cX3_ring 2 = .ok (.invokevirtual 43, 3) := by decide +kernel
theorem dX3_ring_5 : decode cX3_ring 5 = .ok (.astore_n 2, 1) := by decide +kernel
theorem dX3_ring_6 : decode cX3_ring 6 = .ok (.aload_n 2, 1) := by decide +kernel
theorem dX3_ring_7 : decode cX3_ring 7 = .ok (.ifnonnull 5, 3) := by decide +kernel
theorem dX3_ring_10 : decode cX3_ring 10 = .ok (.iconst (-1), 1) := by decide +kernel
theorem dX3_ring_11 : decode cX3_ring 11 = .ok (.ireturn, 1) := by decide +kernel
theorem dX3_ring_12 : decode cX3_ring 12 = .ok (.aload_n 0, 1) := by decide +kernel
theorem dX3_ring_13 : decode cX3_ring 13 = .ok (.getfield 18, 3) := by decide +kernel
theorem dX3_ring_16 : decode cX3_ring 16 = .ok (.aload_n 2, 1) := by decide +kernel
theorem dX3_ring_17 : decode cX3_ring 17 = .ok (.invokevirtual 131, 3) := by decide +kernel
theorem dX3_ring_20 : decode cX3_ring 20 = .ok (.aload_n 0, 1) := by decide +kernel
theorem dX3_ring_21 : decode cX3_ring 21 = .ok (.getfield 18, 3) := by decide +kernel
theorem dX3_ring_24 : decode cX3_ring 24 = .ok (.getfield 135, 3) := by decide +kernel
theorem dX3_ring_27 : decode cX3_ring 27 = .ok (.ifCond .eq 7, 3) := by decide +kernel
theorem dX3_ring_30 : decode cX3_ring 30 = .ok (.iconst 1, 1) := by decide +kernel
theorem dX3_ring_31 : decode cX3_ring 31 = .ok (.goto 4, 3) := by decide +kernel
theorem dX3_ring_34 : decode cX3_ring 34 = .ok (.iconst 0, 1) := by decide +kernel
theorem dX3_ring_35 : decode cX3_ring 35 = .ok (.ireturn, 1) := by decide +kernel
theorem dX3_status_0 : decode cX3_status 0 = .ok (.aload_n 0, 1) := by decide +kernel
theorem dX3_status_1 : decode cX3_status 1 = .ok (.getfield 26, 3) := by decide +kernel
theorem dX3_status_4 : decode cX3_status 4 = .ok (.ireturn, 1) := by decide +kernel
theorem dX3_count_0 : decode cX3_count 0 = .ok (.aload_n 0, 1) := by decide +kernel
theorem dX3_count_1 : decode cX3_count 1 = .ok (.getfield 22, 3) := by decide +kernel
theorem dX3_count_4 : decode cX3_count 4 = .ok (.ireturn, 1) := by decide +kernel
theorem dX3_thingAt_0 : decode cX3_thingAt 0 = .ok (.iload_n 1, 1) := by decide +kernel
theorem dX3_thingAt_1 : decode cX3_thingAt 1 = .ok (.ifCond .lt 29, 3) := by decide +kernel
theorem dX3_thingAt_4 : decode cX3_thingAt 4 = .ok (.iload_n 1, 1) := by decide +kernel
theorem dX3_thingAt_5 : decode cX3_thingAt 5 = .ok (.aload_n 0, 1) := by decide +kernel
theorem dX3_thingAt_6 : decode cX3_thingAt 6 = .ok (.getfield 22, 3) := by decide +kernel
theorem dX3_thingAt_9 : decode cX3_thingAt 9 = .ok (.if_icmp .ge 21, 3) := by decide +kernel
theorem dX3_thingAt_12 : decode cX3_thingAt 12 = .ok (.iload_n 1, 1) := by decide +kernel
theorem dX3_thingAt_13 : decode cX3_thingAt 13 = .ok (.aload_n 0, 1) := by decide +kernel
theorem dX3_thingAt_14 : decode cX3_thingAt 14 = .ok (.getfield 11, 3) := by decide +kernel
theorem dX3_thingAt_17 : decode cX3_thingAt 17 = .ok (.arraylength, 1) := by decide +kernel
theorem dX3_thingAt_18 : decode cX3_thingAt 18 = .ok (.if_icmp .ge 12, 3) := by decide +kernel
theorem dX3_thingAt_21 : decode cX3_thingAt 21 = .ok (.aload_n 0, 1) := by decide +kernel
theorem dX3_thingAt_22 : decode cX3_thingAt 22 = .ok (.getfield 11, 3) := by decide +kernel
theorem dX3_thingAt_25 : decode cX3_thingAt 25 = .ok (.iload_n 1, 1) := by decide +kernel
theorem dX3_thingAt_26 : decode cX3_thingAt 26 = .ok (.aaload, 1) := by decide +kernel
theorem dX3_thingAt_27 : decode cX3_thingAt 27 = .ok (.goto 4, 3) := by decide +kernel
theorem dX3_thingAt_30 : decode cX3_thingAt 30 = .ok (.aconst_null, 1) := by decide +kernel
theorem dX3_thingAt_31 : decode cX3_thingAt 31 = .ok (.areturn, 1) := by decide +kernel
theorem dX3_hasRoomFor_0 : decode cX3_hasRoomFor 0 = .ok (.aload_n 0, 1) := by decide +kernel
theorem dX3_hasRoomFor_1 : decode cX3_hasRoomFor 1 = .ok (.getfield 22, 3) := by decide +kernel
theorem dX3_hasRoomFor_4 : decode cX3_hasRoomFor 4 = .ok (.iload_n 1, 1) := by decide +kernel
theorem dX3_hasRoomFor_5 : decode cX3_hasRoomFor 5 = .ok (.iadd, 1) := by decide +kernel
theorem dX3_hasRoomFor_6 : decode cX3_hasRoomFor 6 = .ok (.sipush 2000, 3) := by decide +kernel
theorem dX3_hasRoomFor_9 : decode cX3_hasRoomFor 9 = .ok (.if_icmp .gt 7, 3) := by decide +kernel
theorem dX3_hasRoomFor_12 : decode cX3_hasRoomFor 12 = .ok (.iconst 1, 1) := by decide +kernel
theorem dX3_hasRoomFor_13 : decode cX3_hasRoomFor 13 = .ok (.goto 4, 3) := by decide +kernel
theorem dX3_hasRoomFor_16 : decode cX3_hasRoomFor 16 = .ok (.iconst 0, 1) := by decide +kernel
theorem dX3_hasRoomFor_17 : decode cX3_hasRoomFor 17 = .ok (.ireturn, 1) := by decide +kernel
theorem dX3_shelve_0 : decode cX3_shelve 0 = .ok (.aload_n 0, 1) := by decide +kernel
theorem dX3_shelve_1 : decode cX3_shelve 1 = .ok (.getfield 22, 3) := by decide +kernel
theorem dX3_shelve_4 : decode cX3_shelve 4 = .ok (.ifCond .lt 15, 3) := by decide +kernel
theorem dX3_shelve_7 : decode cX3_shelve 7 = .ok (.aload_n 0, 1) := by decide +kernel
theorem dX3_shelve_8 : decode cX3_shelve 8 = .ok (.getfield 22, 3) := by decide +kernel
theorem dX3_shelve_11 : decode cX3_shelve 11 = .ok (.aload_n 0, 1) := by decide +kernel
theorem dX3_shelve_12 : decode cX3_shelve 12 = .ok (.getfield 11, 3) := by decide +kernel
theorem dX3_shelve_15 : decode cX3_shelve 15 = .ok (.arraylength, 1) := by decide +kernel
theorem dX3_shelve_16 : decode cX3_shelve 16 = .ok (.if_icmp .lt 5, 3) := by decide +kernel
theorem dX3_shelve_19 : decode cX3_shelve 19 = .ok (.iconst (-1), 1) := by decide +kernel
theorem dX3_shelve_20 : decode cX3_shelve 20 = .ok (.ireturn, 1) := by decide +kernel
theorem dX3_shelve_21 : decode cX3_shelve 21 = .ok (.aload_n 0, 1) := by decide +kernel
theorem dX3_shelve_22 : decode cX3_shelve 22 = .ok (.getfield 11, 3) := by decide +kernel
theorem dX3_shelve_25 : decode cX3_shelve 25 = .ok (.aload_n 0, 1) := by decide +kernel
theorem dX3_shelve_26 : decode cX3_shelve 26 = .ok (.getfield 22, 3) := by decide +kernel
theorem dX3_shelve_29 : decode cX3_shelve 29 = .ok (.aload_n 1, 1) := by decide +kernel
theorem dX3_shelve_30 : decode cX3_shelve 30 = .ok (.aastore, 1) := by decide +kernel
theorem dX3_shelve_31 : decode cX3_shelve 31 = .ok (.aload_n 0, 1) := by decide +kernel
theorem dX3_shelve_32 : decode cX3_shelve 32 = .ok (.dup, 1) := by decide +kernel
theorem dX3_shelve_33 : decode cX3_shelve 33 = .ok (.getfield 22, 3) := by decide +kernel
theorem dX3_shelve_36 : decode cX3_shelve 36 = .ok (.iconst 1, 1) := by decide +kernel
theorem dX3_shelve_37 : decode cX3_shelve 37 = .ok (.iadd, 1) := by decide +kernel
theorem dX3_shelve_38 : decode cX3_shelve 38 = .ok (.putfield 22, 3) := by decide +kernel
theorem dX3_shelve_41 : decode cX3_shelve 41 = .ok (.aload_n 1, 1) := by decide +kernel
theorem dX3_shelve_42 : decode cX3_shelve 42 = .ok (.getfield 82, 3) := by decide +kernel
theorem dX3_shelve_45 : decode cX3_shelve 45 = .ok (.ireturn, 1) := by decide +kernel
theorem dX3_holdsNumbers_0 : decode cX3_holdsNumbers 0 = .ok (.iload_n 0, 1) := by decide +kernel
theorem dX3_holdsNumbers_1 : decode cX3_holdsNumbers 1 = .ok (.ifCond .lt 12, 3) := by decide +kernel
theorem dX3_holdsNumbers_4 : decode cX3_holdsNumbers 4 = .ok (.iload_n 0, 1) := by decide +kernel
theorem dX3_holdsNumbers_5 : decode cX3_holdsNumbers 5 = .ok (.iconst 2, 1) := by decide +kernel
theorem dX3_holdsNumbers_6 : decode cX3_holdsNumbers 6 = .ok (.if_icmp .gt 7, 3) := by decide +kernel
theorem dX3_holdsNumbers_9 : decode cX3_holdsNumbers 9 = .ok (.iconst 1, 1) := by decide +kernel
theorem dX3_holdsNumbers_10 : decode cX3_holdsNumbers 10 = .ok (.goto 4, 3) := by decide +kernel
theorem dX3_holdsNumbers_13 : decode cX3_holdsNumbers 13 = .ok (.iconst 0, 1) := by decide +kernel
theorem dX3_holdsNumbers_14 : decode cX3_holdsNumbers 14 = .ok (.ireturn, 1) := by decide +kernel
theorem dX3_holdsThings_0 : decode cX3_holdsThings 0 = .ok (.iload_n 0, 1) := by decide +kernel
theorem dX3_holdsThings_1 : decode cX3_holdsThings 1 = .ok (.iconst 3, 1) := by decide +kernel
theorem dX3_holdsThings_2 : decode cX3_holdsThings 2 = .ok (.if_icmp .lt 13, 3) := by decide +kernel
theorem dX3_holdsThings_5 : decode cX3_holdsThings 5 = .ok (.iload_n 0, 1) := by decide +kernel
theorem dX3_holdsThings_6 : decode cX3_holdsThings 6 = .ok (.bipush 7, 2) := by decide +kernel
theorem dX3_holdsThings_8 : decode cX3_holdsThings 8 = .ok (.if_icmp .gt 7, 3) := by decide +kernel
theorem dX3_holdsThings_11 : decode cX3_holdsThings 11 = .ok (.iconst 1, 1) := by decide +kernel
theorem dX3_holdsThings_12 : decode cX3_holdsThings 12 = .ok (.goto 4, 3) := by decide +kernel
theorem dX3_holdsThings_15 : decode cX3_holdsThings 15 = .ok (.iconst 0, 1) := by decide +kernel
theorem dX3_holdsThings_16 : decode cX3_holdsThings 16 = .ok (.ireturn, 1) := by decide +kernel
theorem dX3_isToken_0 : decode cX3_isToken 0 = .ok (.iload_n 0, 1) := by decide +kernel
theorem dX3_isToken_1 : decode cX3_isToken 1 = .ok (.bipush 7, 2) := by decide +kernel
theorem dX3_isToken_3 : decode cX3_isToken 3 = .ok (.if_icmp .eq 9, 3) := by decide +kernel
theorem dX3_isToken_6 : decode cX3_isToken 6 = .ok (.iload_n 0, 1) := by decide +kernel
theorem dX3_isToken_7 : decode cX3_isToken 7 = .ok (.bipush 8, 2) := by decide +kernel
theorem dX3_isToken_9 : decode cX3_isToken 9 = .ok (.if_icmp .ne 7, 3) := by decide +kernel
theorem dX3_isToken_12 : decode cX3_isToken 12 = .ok (.iconst 1, 1) := by decide +kernel
theorem dX3_isToken_13 : decode cX3_isToken 13 = .ok (.goto 4, 3) := by decide +kernel
theorem dX3_isToken_16 : decode cX3_isToken 16 = .ok (.iconst 0, 1) := by decide +kernel
theorem dX3_isToken_17 : decode cX3_isToken 17 = .ok (.ireturn, 1) := by decide +kernel
theorem dX3_fitted_0 : decode cX3_fitted 0 = .ok (.iload_n 0, 1) := by decide +kernel
theorem dX3_fitted_1 : decode cX3_fitted 1 = .ok (.ifCond .ne 7, 3) := by decide +kernel
theorem dX3_fitted_4 : decode cX3_fitted 4 = .ok (.lload_n 1, 1) := by decide +kernel
theorem dX3_fitted_5 : decode cX3_fitted 5 = .ok (.l2i, 1) := by decide +kernel
theorem dX3_fitted_6 : decode cX3_fitted 6 = .ok (.i2l, 1) := by decide +kernel
theorem dX3_fitted_7 : decode cX3_fitted 7 = .ok (.lreturn, 1) := by decide +kernel
theorem dX3_fitted_8 : decode cX3_fitted 8 = .ok (.iload_n 0, 1) := by decide +kernel
theorem dX3_fitted_9 : decode cX3_fitted 9 = .ok (.iconst 2, 1) := by decide +kernel
theorem dX3_fitted_10 : decode cX3_fitted 10 = .ok (.if_icmp .ne 10, 3) := by decide +kernel
theorem dX3_fitted_13 : decode cX3_fitted 13 = .ok (.lload_n 1, 1) := by decide +kernel
theorem dX3_fitted_14 : decode cX3_fitted 14 = .ok (.l2i, 1) := by decide +kernel
theorem dX3_fitted_15 : decode cX3_fitted 15 = .ok (.i2c, 1) := by decide +kernel
theorem dX3_fitted_16 : decode cX3_fitted 16 = .ok (.i2l, 1) := by decide +kernel
theorem dX3_fitted_17 : decode cX3_fitted 17 = .ok (.goto 4, 3) := by decide +kernel
theorem dX3_fitted_20 : decode cX3_fitted 20 = .ok (.lload_n 1, 1) := by decide +kernel
theorem dX3_fitted_21 : decode cX3_fitted 21 = .ok (.lreturn, 1) := by decide +kernel
theorem dX3_passes_0 : decode cX3_passes 0 = .ok (.iload_n 1, 1) := by decide +kernel
theorem dX3_passes_1 : decode cX3_passes 1 = .ok (.iconst 4, 1) := by decide +kernel
theorem dX3_passes_2 : decode cX3_passes 2 = .ok (.if_icmp .ne 20, 3) := by decide +kernel
theorem dX3_passes_5 : decode cX3_passes 5 = .ok (.iload_n 0, 1) := by decide +kernel
theorem dX3_passes_6 : decode cX3_passes 6 = .ok (.iconst 4, 1) := by decide +kernel
theorem dX3_passes_7 : decode cX3_passes 7 = .ok (.if_icmp .eq 9, 3) := by decide +kernel
theorem dX3_passes_10 : decode cX3_passes 10 = .ok (.iload_n 0, 1) := by decide +kernel
theorem dX3_passes_11 : decode cX3_passes 11 = .ok (.bipush 6, 2) := by decide +kernel
theorem dX3_passes_13 : decode cX3_passes 13 = .ok (.if_icmp .ne 7, 3) := by decide +kernel
theorem dX3_passes_16 : decode cX3_passes 16 = .ok (.iconst 1, 1) := by decide +kernel
theorem dX3_passes_17 : decode cX3_passes 17 = .ok (.goto 4, 3) := by decide +kernel
theorem dX3_passes_20 : decode cX3_passes 20 = .ok (.iconst 0, 1) := by decide +kernel
theorem dX3_passes_21 : decode cX3_passes 21 = .ok (.ireturn, 1) := by decide +kernel
theorem dX3_passes_22 : decode cX3_passes 22 = .ok (.iload_n 1, 1) := by decide +kernel
theorem dX3_passes_23 : decode cX3_passes 23 = .ok (.bipush 7, 2) := by decide +kernel
theorem dX3_passes_25 : decode cX3_passes 25 = .ok (.if_icmp .ne 8, 3) := by decide +kernel
theorem dX3_passes_28 : decode cX3_passes 28 = .ok (.iload_n 0, 1) := by decide +kernel
theorem dX3_passes_29 : decode cX3_passes 29 = .ok (.invokestatic 139, 3) := by decide +kernel
theorem dX3_passes_32 : decode cX3_passes 32 = .ok (.ireturn, 1) := by decide +kernel
theorem dX3_passes_33 : decode cX3_passes 33 = .ok (.iload_n 0, 1) := by decide +kernel
theorem dX3_passes_34 : decode cX3_passes 34 = .ok (.iload_n 1, 1) := by decide +kernel
theorem dX3_passes_35 : decode cX3_passes 35 = .ok (.if_icmp .ne 7, 3) := by decide +kernel
theorem dX3_passes_38 : decode cX3_passes 38 = .ok (.iconst 1, 1) := by decide +kernel
theorem dX3_passes_39 : decode cX3_passes 39 = .ok (.goto 4, 3) := by decide +kernel
theorem dX3_passes_42 : decode cX3_passes 42 = .ok (.iconst 0, 1) := by decide +kernel
theorem dX3_passes_43 : decode cX3_passes 43 = .ok (.ireturn, 1) := by decide +kernel
theorem dX3_mayHang_0 : decode cX3_mayHang 0 = .ok (.iload_n 1, 1) := by decide +kernel
theorem dX3_mayHang_1 : decode cX3_mayHang 1 = .ok (.tableswitch 57 3 6 #[31, 37, 44, 50], 31) := by decide +kernel
theorem dX3_mayHang_32 : decode cX3_mayHang 32 = .ok (.iload_n 0, 1) := by decide +kernel
theorem dX3_mayHang_33 : decode cX3_mayHang 33 = .ok (.iconst 0, 1) := by decide +kernel
theorem dX3_mayHang_34 : decode cX3_mayHang 34 = .ok (.invokestatic 89, 3) := by decide +kernel
theorem dX3_mayHang_37 : decode cX3_mayHang 37 = .ok (.ireturn, 1) := by decide +kernel
theorem dX3_mayHang_38 : decode cX3_mayHang 38 = .ok (.iload_n 0, 1) := by decide +kernel
theorem dX3_mayHang_39 : decode cX3_mayHang 39 = .ok (.bipush 7, 2) := by decide +kernel
theorem dX3_mayHang_41 : decode cX3_mayHang 41 = .ok (.invokestatic 89, 3) := by decide +kernel
theorem dX3_mayHang_44 : decode cX3_mayHang 44 = .ok (.ireturn, 1) := by decide +kernel
theorem dX3_mayHang_45 : decode cX3_mayHang 45 = .ok (.iload_n 0, 1) := by decide +kernel
theorem dX3_mayHang_46 : decode cX3_mayHang 46 = .ok (.iconst 4, 1) := by decide +kernel
theorem dX3_mayHang_47 : decode cX3_mayHang 47 = .ok (.invokestatic 89, 3) := by decide +kernel
theorem dX3_mayHang_50 : decode cX3_mayHang 50 = .ok (.ireturn, 1) := by decide +kernel
theorem dX3_mayHang_51 : decode cX3_mayHang 51 = .ok (.iload_n 0, 1) := by decide +kernel
theorem dX3_mayHang_52 : decode cX3_mayHang 52 = .ok (.bipush 8, 2) := by decide +kernel
theorem dX3_mayHang_54 : decode cX3_mayHang 54 = .ok (.invokestatic 89, 3) := by decide +kernel
theorem dX3_mayHang_57 : decode cX3_mayHang 57 = .ok (.ireturn, 1) := by decide +kernel
theorem dX3_mayHang_58 : decode cX3_mayHang 58 = .ok (.iload_n 1, 1) := by decide +kernel
theorem dX3_mayHang_59 : decode cX3_mayHang 59 = .ok (.bipush 7, 2) := by decide +kernel
theorem dX3_mayHang_61 : decode cX3_mayHang 61 = .ok (.if_icmp .ne 7, 3) := by decide +kernel
theorem dX3_mayHang_64 : decode cX3_mayHang 64 = .ok (.iconst 1, 1) := by decide +kernel
theorem dX3_mayHang_65 : decode cX3_mayHang 65 = .ok (.goto 4, 3) := by decide +kernel
theorem dX3_mayHang_68 : decode cX3_mayHang 68 = .ok (.iconst 0, 1) := by decide +kernel
theorem dX3_mayHang_69 : decode cX3_mayHang 69 = .ok (.ireturn, 1) := by decide +kernel
theorem dX3_isUnknownQuestion_0 : decode cX3_isUnknownQuestion 0 = .ok (.iload_n 2, 1) := by decide +kernel
theorem dX3_isUnknownQuestion_1 : decode cX3_isUnknownQuestion 1 = .ok (.ifCond .lt 18, 3) := by decide +kernel
theorem dX3_isUnknownQuestion_4 : decode cX3_isUnknownQuestion 4 = .ok (.iload_n 2, 1) := by decide +kernel
theorem dX3_isUnknownQuestion_5 : decode cX3_isUnknownQuestion 5 = .ok (.bipush 8, 2) := by decide +kernel
theorem dX3_isUnknownQuestion_7 : decode cX3_isUnknownQuestion 7 = .ok (.if_icmp .gt 12, 3) := by decide +kernel
theorem dX3_isUnknownQuestion_10 : decode cX3_isUnknownQuestion 10 = .ok (.aload_n 0, 1) := by decide +kernel
theorem dX3_isUnknownQuestion_11 : decode cX3_isUnknownQuestion 11 = .ok (.ifnonnull 12, 3) := by decide +kernel
theorem dX3_isUnknownQuestion_14 : decode cX3_isUnknownQuestion 14 = .ok (.iload_n 1, 1) := by decide +kernel
theorem dX3_isUnknownQuestion_15 : decode cX3_isUnknownQuestion 15 = .ok (.iconst (-1), 1) := by decide +kernel
theorem dX3_isUnknownQuestion_16 : decode cX3_isUnknownQuestion 16 = .ok (.if_icmp .eq 7, 3) := by decide +kernel
theorem dX3_isUnknownQuestion_19 : decode cX3_isUnknownQuestion 19 = .ok (.iconst 1, 1) := by decide +kernel
theorem dX3_isUnknownQuestion_20 : decode cX3_isUnknownQuestion 20 = .ok (.goto 4, 3) := by decide +kernel
theorem dX3_isUnknownQuestion_23 : decode cX3_isUnknownQuestion 23 = .ok (.iconst 0, 1) := by decide +kernel
theorem dX3_isUnknownQuestion_24 : decode cX3_isUnknownQuestion 24 = .ok (.ireturn, 1) := by decide +kernel
theorem dX3_numberRefusal_0 : decode cX3_numberRefusal 0 = .ok (.aload_n 0, 1) := by decide +kernel
theorem dX3_numberRefusal_1 : decode cX3_numberRefusal 1 = .ok (.ifnonnull 5, 3) := by decide +kernel
theorem dX3_numberRefusal_4 : decode cX3_numberRefusal 4 = .ok (.iconst 1, 1) := by decide +kernel
theorem dX3_numberRefusal_5 : decode cX3_numberRefusal 5 = .ok (.ireturn, 1) := by decide +kernel
theorem dX3_numberRefusal_6 : decode cX3_numberRefusal 6 = .ok (.aload_n 0, 1) := by decide +kernel
theorem dX3_numberRefusal_7 : decode cX3_numberRefusal 7 = .ok (.getfield 47, 3) := by decide +kernel
theorem dX3_numberRefusal_10 : decode cX3_numberRefusal 10 = .ok (.invokestatic 33, 3) := by decide +kernel
theorem dX3_numberRefusal_13 : decode cX3_numberRefusal 13 = .ok (.ifCond .ne 15, 3) := by decide +kernel
theorem dX3_numberRefusal_16 : decode cX3_numberRefusal 16 = .ok (.aload_n 0, 1) := by decide +kernel
theorem dX3_numberRefusal_17 : decode cX3_numberRefusal 17 = .ok (.getfield 47, 3) := by decide +kernel
theorem dX3_numberRefusal_20 : decode cX3_numberRefusal 20 = .ok (.invokestatic 139, 3) := by decide +kernel
theorem dX3_numberRefusal_23 : decode cX3_numberRefusal 23 = .ok (.ifCond .ne 5, 3) := by decide +kernel
theorem dX3_numberRefusal_26 : decode cX3_numberRefusal 26 = .ok (.iconst 4, 1) := by decide +kernel
theorem dX3_numberRefusal_27 : decode cX3_numberRefusal 27 = .ok (.ireturn, 1) := by decide +kernel
theorem dX3_numberRefusal_28 : decode cX3_numberRefusal 28 = .ok (.aload_n 0, 1) := by decide +kernel
theorem dX3_numberRefusal_29 : decode cX3_numberRefusal 29 = .ok (.getfield 47, 3) := by decide +kernel
theorem dX3_numberRefusal_32 : decode cX3_numberRefusal 32 = .ok (.invokestatic 139, 3) := by decide +kernel
theorem dX3_numberRefusal_35 : decode cX3_numberRefusal 35 = .ok (.ifCond .eq 7, 3) := by decide +kernel
theorem dX3_numberRefusal_38 : decode cX3_numberRefusal 38 = .ok (.iconst 1, 1) := by decide +kernel
theorem dX3_numberRefusal_39 : decode cX3_numberRefusal 39 = .ok (.goto 8, 3) := by decide +kernel
theorem dX3_numberRefusal_42 : decode cX3_numberRefusal 42 = .ok (.aload_n 0, 1) := by decide +kernel
theorem dX3_numberRefusal_43 : decode cX3_numberRefusal 43 = .ok (.getfield 50, 3) := by decide +kernel
theorem dX3_numberRefusal_46 : decode cX3_numberRefusal 46 = .ok (.arraylength, 1) := by decide +kernel
theorem dX3_numberRefusal_47 : decode cX3_numberRefusal 47 = .ok (.istore_n 2, 1) := by decide +kernel
theorem dX3_numberRefusal_48 : decode cX3_numberRefusal 48 = .ok (.iload_n 1, 1) := by decide +kernel
theorem dX3_numberRefusal_49 : decode cX3_numberRefusal 49 = .ok (.ifCond .lt 8, 3) := by decide +kernel
theorem dX3_numberRefusal_52 : decode cX3_numberRefusal 52 = .ok (.iload_n 1, 1) := by decide +kernel
theorem dX3_numberRefusal_53 : decode cX3_numberRefusal 53 = .ok (.iload_n 2, 1) := by decide +kernel
theorem dX3_numberRefusal_54 : decode cX3_numberRefusal 54 = .ok (.if_icmp .lt 7, 3) := by decide +kernel
theorem dX3_numberRefusal_57 : decode cX3_numberRefusal 57 = .ok (.iconst 2, 1) := by decide +kernel
theorem dX3_numberRefusal_58 : decode cX3_numberRefusal 58 = .ok (.goto 4, 3) := by decide +kernel
theorem dX3_numberRefusal_61 : decode cX3_numberRefusal 61 = .ok (.iconst 0, 1) := by decide +kernel
theorem dX3_numberRefusal_62 : decode cX3_numberRefusal 62 = .ok (.ireturn, 1) := by decide +kernel
theorem dX3_belowRefusal_0 : decode cX3_belowRefusal 0 = .ok (.aload_n 0, 1) := by decide +kernel
theorem dX3_belowRefusal_1 : decode cX3_belowRefusal 1 = .ok (.ifnonnull 5, 3) := by decide +kernel
theorem dX3_belowRefusal_4 : decode cX3_belowRefusal 4 = .ok (.iconst 1, 1) := by decide +kernel
theorem dX3_belowRefusal_5 : decode cX3_belowRefusal 5 = .ok (.ireturn, 1) := by decide +kernel
theorem dX3_belowRefusal_6 : decode cX3_belowRefusal 6 = .ok (.aload_n 0, 1) := by decide +kernel
theorem dX3_belowRefusal_7 : decode cX3_belowRefusal 7 = .ok (.getfield 47, 3) := by decide +kernel
theorem dX3_belowRefusal_10 : decode cX3_belowRefusal 10 = .ok (.invokestatic 62, 3) := by decide +kernel
theorem dX3_belowRefusal_13 : decode cX3_belowRefusal 13 = .ok (.ifCond .ne 5, 3) := by decide +kernel
theorem dX3_belowRefusal_16 : decode cX3_belowRefusal 16 = .ok (.iconst 4, 1) := by decide +kernel
theorem dX3_belowRefusal_17 : decode cX3_belowRefusal 17 = .ok (.ireturn, 1) := by decide +kernel
theorem dX3_belowRefusal_18 : decode cX3_belowRefusal 18 = .ok (.iload_n 1, 1) := by decide +kernel
theorem dX3_belowRefusal_19 : decode cX3_belowRefusal 19 = .ok (.ifCond .lt 12, 3) := by decide +kernel
theorem dX3_belowRefusal_22 : decode cX3_belowRefusal 22 = .ok (.iload_n 1, 1) := by decide +kernel
theorem dX3_belowRefusal_23 : decode cX3_belowRefusal 23 = .ok (.aload_n 0, 1) := by decide +kernel
theorem dX3_belowRefusal_24 : decode cX3_belowRefusal 24 = .ok (.getfield 65, 3) := by decide +kernel
theorem dX3_belowRefusal_27 : decode cX3_belowRefusal 27 = .ok (.arraylength, 1) := by decide +kernel
theorem dX3_belowRefusal_28 : decode cX3_belowRefusal 28 = .ok (.if_icmp .lt 7, 3) := by decide +kernel
theorem dX3_belowRefusal_31 : decode cX3_belowRefusal 31 = .ok (.iconst 2, 1) := by decide +kernel
theorem dX3_belowRefusal_32 : decode cX3_belowRefusal 32 = .ok (.goto 4, 3) := by decide +kernel
theorem dX3_belowRefusal_35 : decode cX3_belowRefusal 35 = .ok (.iconst 0, 1) := by decide +kernel
theorem dX3_belowRefusal_36 : decode cX3_belowRefusal 36 = .ok (.ireturn, 1) := by decide +kernel
theorem dX3_walkRefusal_0 : decode cX3_walkRefusal 0 = .ok (.aload_n 1, 1) := by decide +kernel
theorem dX3_walkRefusal_1 : decode cX3_walkRefusal 1 = .ok (.ifnonnull 5, 3) := by decide +kernel
theorem dX3_walkRefusal_4 : decode cX3_walkRefusal 4 = .ok (.iconst 1, 1) := by decide +kernel
theorem dX3_walkRefusal_5 : decode cX3_walkRefusal 5 = .ok (.ireturn, 1) := by decide +kernel
theorem dX3_walkRefusal_6 : decode cX3_walkRefusal 6 = .ok (.aload_n 0, 1) := by decide +kernel
theorem dX3_walkRefusal_7 : decode cX3_walkRefusal 7 = .ok (.getfield 18, 3) := by decide +kernel
theorem dX3_walkRefusal_10 : decode cX3_walkRefusal 10 = .ok (.aload_n 1, 1) := by decide +kernel
theorem dX3_walkRefusal_11 : decode cX3_walkRefusal 11 = .ok (.invokevirtual 131, 3) := by decide +kernel
theorem dX3_walkRefusal_14 : decode cX3_walkRefusal 14 = .ok (.aload_n 0, 1) := by decide +kernel
theorem dX3_walkRefusal_15 : decode cX3_walkRefusal 15 = .ok (.getfield 18, 3) := by decide +kernel
theorem dX3_walkRefusal_18 : decode cX3_walkRefusal 18 = .ok (.getfield 142, 3) := by decide +kernel
theorem dX3_walkRefusal_21 : decode cX3_walkRefusal 21 = .ok (.ifCond .eq 5, 3) := by decide +kernel
theorem dX3_walkRefusal_24 : decode cX3_walkRefusal 24 = .ok (.iconst 5, 1) := by decide +kernel
theorem dX3_walkRefusal_25 : decode cX3_walkRefusal 25 = .ok (.ireturn, 1) := by decide +kernel
theorem dX3_walkRefusal_26 : decode cX3_walkRefusal 26 = .ok (.aload_n 1, 1) := by decide +kernel
theorem dX3_walkRefusal_27 : decode cX3_walkRefusal 27 = .ok (.getfield 100, 3) := by decide +kernel
theorem dX3_walkRefusal_30 : decode cX3_walkRefusal 30 = .ok (.sipush 400, 3) := by decide +kernel
theorem dX3_walkRefusal_33 : decode cX3_walkRefusal 33 = .ok (.if_icmp .le 8, 3) := by decide +kernel
theorem dX3_walkRefusal_36 : decode cX3_walkRefusal 36 = .ok (.bipush 6, 2) := by decide +kernel
theorem dX3_walkRefusal_38 : decode cX3_walkRefusal 38 = .ok (.goto 4, 3) := by decide +kernel
theorem dX3_walkRefusal_41 : decode cX3_walkRefusal 41 = .ok (.iconst 0, 1) := by decide +kernel
theorem dX3_walkRefusal_42 : decode cX3_walkRefusal 42 = .ok (.ireturn, 1) := by decide +kernel
theorem dX3_firstReason_0 : decode cX3_firstReason 0 = .ok (.iload_n 0, 1) := by decide +kernel
theorem dX3_firstReason_1 : decode cX3_firstReason 1 = .ok (.ifCond .ne 5, 3) := by decide +kernel
theorem dX3_firstReason_4 : decode cX3_firstReason 4 = .ok (.iload_n 1, 1) := by decide +kernel
theorem dX3_firstReason_5 : decode cX3_firstReason 5 = .ok (.ireturn, 1) := by decide +kernel
theorem dX3_firstReason_6 : decode cX3_firstReason 6 = .ok (.iload_n 1, 1) := by decide +kernel
theorem dX3_firstReason_7 : decode cX3_firstReason 7 = .ok (.ifCond .ne 7, 3) := by decide +kernel
theorem dX3_firstReason_10 : decode cX3_firstReason 10 = .ok (.iload_n 0, 1) := by decide +kernel
theorem dX3_firstReason_11 : decode cX3_firstReason 11 = .ok (.goto 8, 3) := by decide +kernel
theorem dX3_firstReason_14 : decode cX3_firstReason 14 = .ok (.iload_n 0, 1) := by decide +kernel
theorem dX3_firstReason_15 : decode cX3_firstReason 15 = .ok (.iload_n 1, 1) := by decide +kernel
theorem dX3_firstReason_16 : decode cX3_firstReason 16 = .ok (.invokestatic 145, 3) := by decide +kernel
theorem dX3_firstReason_19 : decode cX3_firstReason 19 = .ok (.ireturn, 1) := by decide +kernel
theorem dX3_copyRefusal_0 : decode cX3_copyRefusal 0 = .ok (.aload_n 1, 1) := by decide +kernel
theorem dX3_copyRefusal_1 : decode cX3_copyRefusal 1 = .ok (.ifnonnull 5, 3) := by decide +kernel
theorem dX3_copyRefusal_4 : decode cX3_copyRefusal 4 = .ok (.iconst 1, 1) := by decide +kernel
theorem dX3_copyRefusal_5 : decode cX3_copyRefusal 5 = .ok (.ireturn, 1) := by decide +kernel
theorem dX3_copyRefusal_6 : decode cX3_copyRefusal 6 = .ok (.iconst 1, 1) := by decide +kernel
theorem dX3_copyRefusal_7 : decode cX3_copyRefusal 7 = .ok (.istore_n 3, 1) := by decide +kernel
theorem dX3_copyRefusal_8 : decode cX3_copyRefusal 8 = .ok (.iload_n 2, 1) := by decide +kernel
theorem dX3_copyRefusal_9 : decode cX3_copyRefusal 9 = .ok (.ifCond .eq 26, 3) := by decide +kernel
theorem dX3_copyRefusal_12 : decode cX3_copyRefusal 12 = .ok (.aload_n 0, 1) := by decide +kernel
theorem dX3_copyRefusal_13 : decode cX3_copyRefusal 13 = .ok (.aload_n 1, 1) := by decide +kernel
theorem dX3_copyRefusal_14 : decode cX3_copyRefusal 14 = .ok (.invokevirtual 92, 3) := by decide +kernel
theorem dX3_copyRefusal_17 : decode cX3_copyRefusal 17 = .ok (.istore 4, 2) := by decide +kernel
theorem dX3_copyRefusal_19 : decode cX3_copyRefusal 19 = .ok (.iload 4, 2) := by decide +kernel
theorem dX3_copyRefusal_21 : decode cX3_copyRefusal 21 = .ok (.ifCond .eq 6, 3) := by decide +kernel
theorem dX3_copyRefusal_24 : decode cX3_copyRefusal 24 = .ok (.iload 4, 2) := by decide +kernel
theorem dX3_copyRefusal_26 : decode cX3_copyRefusal 26 = .ok (.ireturn, 1) := by decide +kernel
theorem dX3_copyRefusal_27 : decode cX3_copyRefusal 27 = .ok (.aload_n 0, 1) := by decide +kernel
theorem dX3_copyRefusal_28 : decode cX3_copyRefusal 28 = .ok (.getfield 18, 3) := by decide +kernel
theorem dX3_copyRefusal_31 : decode cX3_copyRefusal 31 = .ok (.getfield 150, 3) := by decide +kernel
theorem dX3_copyRefusal_34 : decode cX3_copyRefusal 34 = .ok (.istore_n 3, 1) := by decide +kernel
theorem dX3_copyRefusal_35 : decode cX3_copyRefusal 35 = .ok (.aload_n 0, 1) := by decide +kernel
theorem dX3_copyRefusal_36 : decode cX3_copyRefusal 36 = .ok (.iload_n 3, 1) := by decide +kernel
theorem dX3_copyRefusal_37 : decode cX3_copyRefusal 37 = .ok (.invokevirtual 29, 3) := by decide +kernel
theorem dX3_copyRefusal_40 : decode cX3_copyRefusal 40 = .ok (.ifCond .eq 7, 3) := by decide +kernel
theorem dX3_copyRefusal_43 : decode cX3_copyRefusal 43 = .ok (.iconst 0, 1) := by decide +kernel
theorem dX3_copyRefusal_44 : decode cX3_copyRefusal 44 = .ok (.goto 5, 3) := by decide +kernel
theorem dX3_copyRefusal_47 : decode cX3_copyRefusal 47 = .ok (.bipush 7, 2) := by decide +kernel
theorem dX3_copyRefusal_49 : decode cX3_copyRefusal 49 = .ok (.ireturn, 1) := by decide +kernel
theorem dX3_shelveTwins_0 : decode cX3_shelveTwins 0 = .ok (.aload_n 0, 1) := by decide +kernel
theorem dX3_shelveTwins_1 : decode cX3_shelveTwins 1 = .ok (.getfield 22, 3) := by decide +kernel
theorem dX3_shelveTwins_4 : decode cX3_shelveTwins 4 = .ok (.istore_n 2, 1) := by decide +kernel
theorem dX3_shelveTwins_5 : decode cX3_shelveTwins 5 = .ok (.aload_n 1, 1) := by decide +kernel
theorem dX3_shelveTwins_6 : decode cX3_shelveTwins 6 = .ok (.astore_n 3, 1) := by decide +kernel
theorem dX3_shelveTwins_7 : decode cX3_shelveTwins 7 = .ok (.iconst 0, 1) := by decide +kernel
theorem dX3_shelveTwins_8 : decode cX3_shelveTwins 8 = .ok (.istore 4, 2) := by decide +kernel
theorem dX3_shelveTwins_10 : decode cX3_shelveTwins 10 = .ok (.iload 4, 2) := by decide +kernel
theorem dX3_shelveTwins_12 : decode cX3_shelveTwins 12 = .ok (.sipush 2000, 3) := by decide +kernel
theorem dX3_shelveTwins_15 : decode cX3_shelveTwins 15 = .ok (.if_icmp .ge 39, 3) := by decide +kernel
theorem dX3_shelveTwins_18 : decode cX3_shelveTwins 18 = .ok (.aload_n 3, 1) := by decide +kernel
theorem dX3_shelveTwins_19 : decode cX3_shelveTwins 19 = .ok (.ifnull 35, 3) := by decide +kernel
theorem dX3_shelveTwins_22 : decode cX3_shelveTwins 22 = .ok (.aload_n 3, 1) := by decide +kernel
theorem dX3_shelveTwins_23 : decode cX3_shelveTwins 23 = .ok (.aload_n 3, 1) := by decide +kernel
theorem dX3_shelveTwins_24 : decode cX3_shelveTwins 24 = .ok (.aload_n 0, 1) := by decide +kernel
theorem dX3_shelveTwins_25 : decode cX3_shelveTwins 25 = .ok (.getfield 22, 3) := by decide +kernel
theorem dX3_shelveTwins_28 : decode cX3_shelveTwins 28 = .ok (.invokevirtual 125, 3) := by decide +kernel
theorem dX3_shelveTwins_31 : decode cX3_shelveTwins 31 = .ok (.putfield 153, 3) := by decide +kernel
theorem dX3_shelveTwins_34 : decode cX3_shelveTwins 34 = .ok (.aload_n 0, 1) := by decide +kernel
theorem dX3_shelveTwins_35 : decode cX3_shelveTwins 35 = .ok (.aload_n 3, 1) := by decide +kernel
theorem dX3_shelveTwins_36 : decode cX3_shelveTwins 36 = .ok (.getfield 153, 3) := by decide +kernel
theorem dX3_shelveTwins_39 : decode cX3_shelveTwins 39 = .ok (.invokevirtual 39, 3) := by decide +kernel
theorem dX3_shelveTwins_42 : decode cX3_shelveTwins 42 = .ok (.pop, 1) := by decide +kernel
theorem dX3_shelveTwins_43 : decode cX3_shelveTwins 43 = .ok (.aload_n 3, 1) := by decide +kernel
theorem dX3_shelveTwins_44 : decode cX3_shelveTwins 44 = .ok (.getfield 157, 3) := by decide +kernel
theorem dX3_shelveTwins_47 : decode cX3_shelveTwins 47 = .ok (.astore_n 3, 1) := by decide +kernel
theorem dX3_shelveTwins_48 : decode cX3_shelveTwins 48 = .ok (.iinc 4 1, 3) := by decide +kernel
theorem dX3_shelveTwins_51 : decode cX3_shelveTwins 51 = .ok (.goto (-41), 3) := by decide +kernel
theorem dX3_shelveTwins_54 : decode cX3_shelveTwins 54 = .ok (.aload_n 1, 1) := by decide +kernel
theorem dX3_shelveTwins_55 : decode cX3_shelveTwins 55 = .ok (.astore_n 3, 1) := by decide +kernel
theorem dX3_shelveTwins_56 : decode cX3_shelveTwins 56 = .ok (.iconst 0, 1) := by decide +kernel
theorem dX3_shelveTwins_57 : decode cX3_shelveTwins 57 = .ok (.istore 4, 2) := by decide +kernel
theorem dX3_shelveTwins_59 : decode cX3_shelveTwins 59 = .ok (.iload 4, 2) := by decide +kernel
theorem dX3_shelveTwins_61 : decode cX3_shelveTwins 61 = .ok (.sipush 2000, 3) := by decide +kernel
theorem dX3_shelveTwins_64 : decode cX3_shelveTwins 64 = .ok (.if_icmp .ge 22, 3) := by decide +kernel
theorem dX3_shelveTwins_67 : decode cX3_shelveTwins 67 = .ok (.aload_n 3, 1) := by decide +kernel
theorem dX3_shelveTwins_68 : decode cX3_shelveTwins 68 = .ok (.ifnull 18, 3) := by decide +kernel
theorem dX3_shelveTwins_71 : decode cX3_shelveTwins 71 = .ok (.aload_n 3, 1) := by decide +kernel
theorem dX3_shelveTwins_72 : decode cX3_shelveTwins 72 = .ok (.invokestatic 160, 3) := by decide +kernel
theorem dX3_shelveTwins_75 : decode cX3_shelveTwins 75 = .ok (.aload_n 3, 1) := by decide +kernel
theorem dX3_shelveTwins_76 : decode cX3_shelveTwins 76 = .ok (.getfield 157, 3) := by decide +kernel
theorem dX3_shelveTwins_79 : decode cX3_shelveTwins 79 = .ok (.astore_n 3, 1) := by decide +kernel
theorem dX3_shelveTwins_80 : decode cX3_shelveTwins 80 = .ok (.iinc 4 1, 3) := by decide +kernel
theorem dX3_shelveTwins_83 : decode cX3_shelveTwins 83 = .ok (.goto (-24), 3) := by decide +kernel
theorem dX3_shelveTwins_86 : decode cX3_shelveTwins 86 = .ok (.iload_n 2, 1) := by decide +kernel
theorem dX3_shelveTwins_87 : decode cX3_shelveTwins 87 = .ok (.ireturn, 1) := by decide +kernel
theorem dX3_hangTwins_0 : decode cX3_hangTwins 0 = .ok (.aload_n 0, 1) := by decide +kernel
theorem dX3_hangTwins_1 : decode cX3_hangTwins 1 = .ok (.getfield 153, 3) := by decide +kernel
theorem dX3_hangTwins_4 : decode cX3_hangTwins 4 = .ok (.astore_n 1, 1) := by decide +kernel
theorem dX3_hangTwins_5 : decode cX3_hangTwins 5 = .ok (.aload_n 1, 1) := by decide +kernel
theorem dX3_hangTwins_6 : decode cX3_hangTwins 6 = .ok (.ifnonnull 4, 3) := by decide +kernel
theorem dX3_hangTwins_9 : decode cX3_hangTwins 9 = .ok (.return_, 1) := by decide +kernel
theorem dX3_hangTwins_10 : decode cX3_hangTwins 10 = .ok (.iconst 0, 1) := by decide +kernel
theorem dX3_hangTwins_11 : decode cX3_hangTwins 11 = .ok (.istore_n 2, 1) := by decide +kernel
theorem dX3_hangTwins_12 : decode cX3_hangTwins 12 = .ok (.iload_n 2, 1) := by decide +kernel
theorem dX3_hangTwins_13 : decode cX3_hangTwins 13 = .ok (.aload_n 1, 1) := by decide +kernel
theorem dX3_hangTwins_14 : decode cX3_hangTwins 14 = .ok (.getfield 65, 3) := by decide +kernel
theorem dX3_hangTwins_17 : decode cX3_hangTwins 17 = .ok (.arraylength, 1) := by decide +kernel
theorem dX3_hangTwins_18 : decode cX3_hangTwins 18 = .ok (.if_icmp .ge 30, 3) := by decide +kernel
theorem dX3_hangTwins_21 : decode cX3_hangTwins 21 = .ok (.aload_n 1, 1) := by decide +kernel
theorem dX3_hangTwins_22 : decode cX3_hangTwins 22 = .ok (.getfield 65, 3) := by decide +kernel
theorem dX3_hangTwins_25 : decode cX3_hangTwins 25 = .ok (.iload_n 2, 1) := by decide +kernel
theorem dX3_hangTwins_26 : decode cX3_hangTwins 26 = .ok (.aaload, 1) := by decide +kernel
theorem dX3_hangTwins_27 : decode cX3_hangTwins 27 = .ok (.astore_n 3, 1) := by decide +kernel
theorem dX3_hangTwins_28 : decode cX3_hangTwins 28 = .ok (.aload_n 3, 1) := by decide +kernel
theorem dX3_hangTwins_29 : decode cX3_hangTwins 29 = .ok (.ifnull 13, 3) := by decide +kernel
theorem dX3_hangTwins_32 : decode cX3_hangTwins 32 = .ok (.aload_n 1, 1) := by decide +kernel
theorem dX3_hangTwins_33 : decode cX3_hangTwins 33 = .ok (.getfield 65, 3) := by decide +kernel
theorem dX3_hangTwins_36 : decode cX3_hangTwins 36 = .ok (.iload_n 2, 1) := by decide +kernel
theorem dX3_hangTwins_37 : decode cX3_hangTwins 37 = .ok (.aload_n 3, 1) := by decide +kernel
theorem dX3_hangTwins_38 : decode cX3_hangTwins 38 = .ok (.getfield 153, 3) := by decide +kernel
theorem dX3_hangTwins_41 : decode cX3_hangTwins 41 = .ok (.aastore, 1) := by decide +kernel
theorem dX3_hangTwins_42 : decode cX3_hangTwins 42 = .ok (.iinc 2 1, 3) := by decide +kernel
theorem dX3_hangTwins_45 : decode cX3_hangTwins 45 = .ok (.goto (-33), 3) := by decide +kernel
theorem dX3_hangTwins_48 : decode cX3_hangTwins 48 = .ok (.return_, 1) := by decide +kernel
theorem dX3_holdsPlainToken_0 : decode cX3_holdsPlainToken 0 = .ok (.iconst 0, 1) := by decide +kernel
theorem dX3_holdsPlainToken_1 : decode cX3_holdsPlainToken 1 = .ok (.istore_n 1, 1) := by decide +kernel
theorem dX3_holdsPlainToken_2 : decode cX3_holdsPlainToken 2 = .ok (.iload_n 1, 1) := by decide +kernel
theorem dX3_holdsPlainToken_3 : decode cX3_holdsPlainToken 3 = .ok (.aload_n 0, 1) := by decide +kernel
theorem dX3_holdsPlainToken_4 : decode cX3_holdsPlainToken 4 = .ok (.arraylength, 1) := by decide +kernel
theorem dX3_holdsPlainToken_5 : decode cX3_holdsPlainToken 5 = .ok (.if_icmp .ge 28, 3) := by decide +kernel
theorem dX3_holdsPlainToken_8 : decode cX3_holdsPlainToken 8 = .ok (.aload_n 0, 1) := by decide +kernel
theorem dX3_holdsPlainToken_9 : decode cX3_holdsPlainToken 9 = .ok (.iload_n 1, 1) := by decide +kernel
theorem dX3_holdsPlainToken_10 : decode cX3_holdsPlainToken 10 = .ok (.aaload, 1) := by decide +kernel
theorem dX3_holdsPlainToken_11 : decode cX3_holdsPlainToken 11 = .ok (.astore_n 2, 1) := by decide +kernel
theorem dX3_holdsPlainToken_12 : decode cX3_holdsPlainToken 12 = .ok (.aload_n 2, 1) := by decide +kernel
theorem dX3_holdsPlainToken_13 : decode cX3_holdsPlainToken 13 = .ok (.ifnull 14, 3) := by decide +kernel
theorem dX3_holdsPlainToken_16 : decode cX3_holdsPlainToken 16 = .ok (.aload_n 2, 1) := by decide +kernel
theorem dX3_holdsPlainToken_17 : decode cX3_holdsPlainToken 17 = .ok (.getfield 47, 3) := by decide +kernel
theorem dX3_holdsPlainToken_20 : decode cX3_holdsPlainToken 20 = .ok (.bipush 7, 2) := by decide +kernel
theorem dX3_holdsPlainToken_22 : decode cX3_holdsPlainToken 22 = .ok (.if_icmp .ne 5, 3) := by decide +kernel
theorem dX3_holdsPlainToken_25 : decode cX3_holdsPlainToken 25 = .ok (.iconst 1, 1) := by decide +kernel
theorem dX3_holdsPlainToken_26 : decode cX3_holdsPlainToken 26 = .ok (.ireturn, 1) := by decide +kernel
theorem dX3_holdsPlainToken_27 : decode cX3_holdsPlainToken 27 = .ok (.iinc 1 1, 3) := by decide +kernel
theorem dX3_holdsPlainToken_30 : decode cX3_holdsPlainToken 30 = .ok (.goto (-28), 3) := by decide +kernel
theorem dX3_holdsPlainToken_33 : decode cX3_holdsPlainToken 33 = .ok (.iconst 0, 1) := by decide +kernel
theorem dX3_holdsPlainToken_34 : decode cX3_holdsPlainToken 34 = .ok (.ireturn, 1) := by decide +kernel
theorem dX3_putInOrder_0 : decode cX3_putInOrder 0 = .ok (.iconst 1, 1) := by decide +kernel
theorem dX3_putInOrder_1 : decode cX3_putInOrder 1 = .ok (.istore_n 1, 1) := by decide +kernel
theorem dX3_putInOrder_2 : decode cX3_putInOrder 2 = .ok (.iload_n 1, 1) := by decide +kernel
theorem dX3_putInOrder_3 : decode cX3_putInOrder 3 = .ok (.aload_n 0, 1) := by decide +kernel
theorem dX3_putInOrder_4 : decode cX3_putInOrder 4 = .ok (.arraylength, 1) := by decide +kernel
theorem dX3_putInOrder_5 : decode cX3_putInOrder 5 = .ok (.if_icmp .ge 49, 3) := by decide +kernel
theorem dX3_putInOrder_8 : decode cX3_putInOrder 8 = .ok (.aload_n 0, 1) := by decide +kernel
theorem dX3_putInOrder_9 : decode cX3_putInOrder 9 = .ok (.iload_n 1, 1) := by decide +kernel
theorem dX3_putInOrder_10 : decode cX3_putInOrder 10 = .ok (.aaload, 1) := by decide +kernel
theorem dX3_putInOrder_11 : decode cX3_putInOrder 11 = .ok (.astore_n 2, 1) := by decide +kernel
theorem dX3_putInOrder_12 : decode cX3_putInOrder 12 = .ok (.iload_n 1, 1) := by decide +kernel
theorem dX3_putInOrder_13 : decode cX3_putInOrder 13 = .ok (.istore_n 3, 1) := by decide +kernel
theorem dX3_putInOrder_14 : decode cX3_putInOrder 14 = .ok (.iload_n 3, 1) := by decide +kernel
theorem dX3_putInOrder_15 : decode cX3_putInOrder 15 = .ok (.ifCond .le 29, 3) := by decide +kernel
theorem dX3_putInOrder_18 : decode cX3_putInOrder 18 = .ok (.aload_n 0, 1) := by decide +kernel
theorem dX3_putInOrder_19 : decode cX3_putInOrder 19 = .ok (.iload_n 3, 1) := by decide +kernel
theorem dX3_putInOrder_20 : decode cX3_putInOrder 20 = .ok (.iconst 1, 1) := by decide +kernel
theorem dX3_putInOrder_21 : decode cX3_putInOrder 21 = .ok (.isub, 1) := by decide +kernel
theorem dX3_putInOrder_22 : decode cX3_putInOrder 22 = .ok (.aaload, 1) := by decide +kernel
theorem dX3_putInOrder_23 : decode cX3_putInOrder 23 = .ok (.aload_n 2, 1) := by decide +kernel
theorem dX3_putInOrder_24 : decode cX3_putInOrder 24 = .ok (.invokestatic 163, 3) := by decide +kernel
theorem dX3_putInOrder_27 : decode cX3_putInOrder 27 = .ok (.ifCond .eq 17, 3) := by decide +kernel
theorem dX3_putInOrder_30 : decode cX3_putInOrder 30 = .ok (.aload_n 0, 1) := by decide +kernel
theorem dX3_putInOrder_31 : decode cX3_putInOrder 31 = .ok (.iload_n 3, 1) := by decide +kernel
theorem dX3_putInOrder_32 : decode cX3_putInOrder 32 = .ok (.aload_n 0, 1) := by decide +kernel
theorem dX3_putInOrder_33 : decode cX3_putInOrder 33 = .ok (.iload_n 3, 1) := by decide +kernel
theorem dX3_putInOrder_34 : decode cX3_putInOrder 34 = .ok (.iconst 1, 1) := by decide +kernel
theorem dX3_putInOrder_35 : decode cX3_putInOrder 35 = .ok (.isub, 1) := by decide +kernel
theorem dX3_putInOrder_36 : decode cX3_putInOrder 36 = .ok (.aaload, 1) := by decide +kernel
theorem dX3_putInOrder_37 : decode cX3_putInOrder 37 = .ok (.aastore, 1) := by decide +kernel
theorem dX3_putInOrder_38 : decode cX3_putInOrder 38 = .ok (.iinc 3 (-1), 3) := by decide +kernel
theorem dX3_putInOrder_41 : decode cX3_putInOrder 41 = .ok (.goto (-27), 3) := by decide +kernel
theorem dX3_putInOrder_44 : decode cX3_putInOrder 44 = .ok (.aload_n 0, 1) := by decide +kernel
theorem dX3_putInOrder_45 : decode cX3_putInOrder 45 = .ok (.iload_n 3, 1) := by decide +kernel
theorem dX3_putInOrder_46 : decode cX3_putInOrder 46 = .ok (.aload_n 2, 1) := by decide +kernel
theorem dX3_putInOrder_47 : decode cX3_putInOrder 47 = .ok (.aastore, 1) := by decide +kernel
theorem dX3_putInOrder_48 : decode cX3_putInOrder 48 = .ok (.iinc 1 1, 3) := by decide +kernel
theorem dX3_putInOrder_51 : decode cX3_putInOrder 51 = .ok (.goto (-49), 3) := by decide +kernel
theorem dX3_putInOrder_54 : decode cX3_putInOrder 54 = .ok (.return_, 1) := by decide +kernel
theorem dX3_belongsBehind_0 : decode cX3_belongsBehind 0 = .ok (.aload_n 1, 1) := by decide +kernel
theorem dX3_belongsBehind_1 : decode cX3_belongsBehind 1 = .ok (.ifnonnull 5, 3) := by decide +kernel
theorem dX3_belongsBehind_4 : decode cX3_belongsBehind 4 = .ok (.iconst 0, 1) := by decide +kernel
theorem dX3_belongsBehind_5 : decode cX3_belongsBehind 5 = .ok (.ireturn, 1) := by decide +kernel
theorem dX3_belongsBehind_6 : decode cX3_belongsBehind 6 = .ok (.aload_n 0, 1) := by decide +kernel
theorem dX3_belongsBehind_7 : decode cX3_belongsBehind 7 = .ok (.ifnull 14, 3) := by decide +kernel
theorem dX3_belongsBehind_10 : decode cX3_belongsBehind 10 = .ok (.aload_n 0, 1) := by decide +kernel
theorem dX3_belongsBehind_11 : decode cX3_belongsBehind 11 = .ok (.getfield 76, 3) := by decide +kernel
theorem dX3_belongsBehind_14 : decode cX3_belongsBehind 14 = .ok (.aload_n 1, 1) := by decide +kernel
theorem dX3_belongsBehind_15 : decode cX3_belongsBehind 15 = .ok (.getfield 76, 3) := by decide +kernel
theorem dX3_belongsBehind_18 : decode cX3_belongsBehind 18 = .ok (.if_icmp .le 7, 3) := by decide +kernel
theorem dX3_belongsBehind_21 : decode cX3_belongsBehind 21 = .ok (.iconst 1, 1) := by decide +kernel
theorem dX3_belongsBehind_22 : decode cX3_belongsBehind 22 = .ok (.goto 4, 3) := by decide +kernel
theorem dX3_belongsBehind_25 : decode cX3_belongsBehind 25 = .ok (.iconst 0, 1) := by decide +kernel
theorem dX3_belongsBehind_26 : decode cX3_belongsBehind 26 = .ok (.ireturn, 1) := by decide +kernel
end
section
theorem dX4_init_0 : decode cX4_init 0 = .ok (.aload_n 0, 1) := by decide +kernel
theorem dX4_init_1 : decode cX4_init 1 = .ok (.invokespecial 1, 3) := by decide +kernel
theorem dX4_init_4 : decode cX4_init 4 = .ok (.aload_n 0, 1) := by decide +kernel
theorem dX4_init_5 : decode cX4_init 5 = .ok (.sipush 2000, 3) := by decide +kernel
theorem dX4_init_8 : decode cX4_init 8 = .ok (.newarray .int, 2) := by decide +kernel
theorem dX4_init_10 : decode cX4_init 10 = .ok (.putfield 7, 3) := by decide +kernel
theorem dX4_init_13 : decode cX4_init 13 = .ok (.aload_n 0, 1) := by decide +kernel
theorem dX4_init_14 : decode cX4_init 14 = .ok (.sipush 2000, 3) := by decide +kernel
theorem dX4_init_17 : decode cX4_init 17 = .ok (.newarray .int, 2) := by decide +kernel
theorem dX4_init_19 : decode cX4_init 19 = .ok (.putfield 13, 3) := by decide +kernel
theorem dX4_init_22 : decode cX4_init 22 = .ok (.aload_n 0, 1) := by decide +kernel
theorem dX4_init_23 : decode cX4_init 23 = .ok (.sipush 2000, 3) := by decide +kernel
theorem dX4_init_26 : decode cX4_init 26 = .ok (.newarray .int, 2) := by decide +kernel
theorem dX4_init_28 : decode cX4_init 28 = .ok (.putfield 16, 3) := by decide +kernel
theorem dX4_init_31 : decode cX4_init 31 = .ok (.aload_n 0, 1) := by decide +kernel
theorem dX4_init_32 : decode cX4_init 32 = .ok (.sipush 2000, 3) := by decide +kernel
theorem dX4_init_35 : decode cX4_init 35 = .ok (.newarray .int, 2) := by decide +kernel
theorem dX4_init_37 : decode cX4_init 37 = .ok (.putfield 19, 3) := by decide +kernel
theorem dX4_init_40 : decode cX4_init 40 = .ok (.aload_n 0, 1) := by decide +kernel
theorem dX4_init_41 : decode cX4_init 41 = .ok (.ldc 22, 2) := by decide +kernel
theorem dX4_init_43 : decode cX4_init 43 = .ok (.newarray .long, 2) := by decide +kernel
theorem dX4_init_45 : decode cX4_init 45 = .ok (.putfield 23, 3) := by decide +kernel
theorem dX4_init_48 : decode cX4_init 48 = .ok (.aload_n 0, 1) := by decide +kernel
theorem dX4_init_49 : decode cX4_init 49 = .ok (.sipush 2000, 3) := by decide +kernel
theorem dX4_init_52 : decode cX4_init 52 = .ok (.newarray .int, 2) := by decide +kernel
theorem dX4_init_54 : decode cX4_init 54 = .ok (.putfield 27, 3) := by decide +kernel
theorem dX4_init_57 : decode cX4_init 57 = .ok (.aload_n 0, 1) := by decide +kernel
theorem dX4_init_58 : decode cX4_init 58 = .ok (.sipush 2000, 3) := by decide +kernel
theorem dX4_init_61 : decode cX4_init 61 = .ok (.newarray .int, 2) := by decide +kernel
theorem dX4_init_63 : decode cX4_init 63 = .ok (.putfield 30, 3) := by decide +kernel
theorem dX4_init_66 : decode cX4_init 66 = .ok (.aload_n 0, 1) := by decide +kernel
theorem dX4_init_67 : decode cX4_init 67 = .ok (.sipush 2000, 3) := by decide +kernel
theorem dX4_init_70 : decode cX4_init 70 = .ok (.newarray .int, 2) := by decide +kernel
theorem dX4_init_72 : decode cX4_init 72 = .ok (.putfield 33, 3) := by decide +kernel
theorem dX4_init_75 : decode cX4_init 75 = .ok (.aload_n 0, 1) := by decide +kernel
theorem dX4_init_76 : decode cX4_init 76 = .ok (.sipush 2000, 3) := by decide +kernel
theorem dX4_init_79 : decode cX4_init 79 = .ok (.newarray .int, 2) := by decide +kernel
theorem dX4_init_81 : decode cX4_init 81 = .ok (.putfield 36, 3) := by decide +kernel
theorem dX4_init_84 : decode cX4_init 84 = .ok (.aload_n 0, 1) := by decide +kernel
theorem dX4_init_85 : decode cX4_init 85 = .ok (.sipush 2000, 3) := by decide +kernel
theorem dX4_init_88 : decode cX4_init 88 = .ok (.newarray .int, 2) := by decide +kernel
theorem dX4_init_90 : decode cX4_init 90 = .ok (.putfield 39, 3) := by decide +kernel
theorem dX4_init_93 : decode cX4_init 93 = .ok (.aload_n 0, 1) := by decide +kernel
theorem dX4_init_94 : decode cX4_init 94 = .ok (.sipush 2000, 3) := by decide +kernel
theorem dX4_init_97 : decode cX4_init 97 = .ok (.newarray .int, 2) := by decide +kernel
theorem dX4_init_99 : decode cX4_init 99 = .ok (.putfield 42, 3) := by decide +kernel
theorem dX4_init_102 : decode cX4_init 102 = .ok (.aload_n 0, 1) := by decide +kernel
theorem dX4_init_103 : decode cX4_init 103 = .ok (.sipush 2000, 3) := by decide +kernel
theorem dX4_init_106 : decode cX4_init 106 = .ok (.newarray .long, 2) := by decide +kernel
theorem dX4_init_108 : decode cX4_init 108 = .ok (.putfield 45, 3) := by decide +kernel
theorem dX4_init_111 : decode cX4_init 111 = .ok (.aload_n 0, 1) := by decide +kernel
theorem dX4_init_112 : decode cX4_init 112 = .ok (.sipush 2000, 3) := by decide +kernel
theorem dX4_init_115 : decode cX4_init 115 = .ok (.newarray .int, 2) := by decide +kernel
theorem dX4_init_117 : decode cX4_init 117 = .ok (.putfield 48, 3) := by decide +kernel
theorem dX4_init_120 : decode cX4_init 120 = .ok (.aload_n 0, 1) := by decide +kernel
theorem dX4_init_121 : decode cX4_init 121 = .ok (.sipush 2000, 3) := by decide +kernel
theorem dX4_init_124 : decode cX4_init 124 = .ok (.newarray .long, 2) := by decide +kernel
theorem dX4_init_126 : decode cX4_init 126 = .ok (.putfield 51, 3) := by decide +kernel
theorem dX4_init_129 : decode cX4_init 129 = .ok (.aload_n 0, 1) := by decide +kernel
theorem dX4_init_130 : decode cX4_init 130 = .ok (.sipush 500, 3) := by decide +kernel
theorem dX4_init_133 : decode cX4_init 133 = .ok (.newarray .int, 2) := by decide +kernel
theorem dX4_init_135 : decode cX4_init 135 = .ok (.putfield 54, 3) := by decide +kernel
theorem dX4_init_138 : decode cX4_init 138 = .ok (.iconst 0, 1) := by decide +kernel
theorem dX4_init_139 : decode cX4_init 139 = .ok (.istore_n 1, 1) := by decide +kernel
theorem dX4_init_140 : decode cX4_init 140 = .ok (.iload_n 1, 1) := by decide +kernel
theorem dX4_init_141 : decode cX4_init 141 = .ok (.sipush 2000, 3) := by decide +kernel
theorem dX4_init_144 : decode cX4_init 144 = .ok (.if_icmp .ge 16, 3) := by decide +kernel
theorem dX4_init_147 : decode cX4_init 147 = .ok (.aload_n 0, 1) := by decide +kernel
theorem dX4_init_148 : decode cX4_init 148 = .ok (.getfield 48, 3) := by decide +kernel
theorem dX4_init_151 : decode cX4_init 151 = .ok (.iload_n 1, 1) := by decide +kernel
theorem dX4_init_152 : decode cX4_init 152 = .ok (.iconst (-1), 1) := by decide +kernel
theorem dX4_init_153 : decode cX4_init 153 = .ok (.iastore, 1) := by decide +kernel
theorem dX4_init_154 : decode cX4_init 154 = .ok (.iinc 1 1, 3) := by decide +kernel
theorem dX4_init_157 : decode cX4_init 157 = .ok (.goto (-17), 3) := by decide +kernel
theorem dX4_init_160 : decode cX4_init 160 = .ok (.return_, 1) := by decide +kernel
theorem dX4_in_0 : decode cX4_in 0 = .ok (.iload_n 0, 1) := by decide +kernel
theorem dX4_in_1 : decode cX4_in 1 = .ok (.iload_n 1, 1) := by decide +kernel
theorem dX4_in_2 : decode cX4_in 2 = .ok (.if_icmp .lt 12, 3) := by decide +kernel
theorem dX4_in_5 : decode cX4_in 5 = .ok (.iload_n 0, 1) := by decide +kernel
theorem dX4_in_6 : decode cX4_in 6 = .ok (.iload_n 2, 1) := by decide +kernel
theorem dX4_in_7 : decode cX4_in 7 = .ok (.if_icmp .gt 7, 3) := by decide +kernel
theorem dX4_in_10 : decode cX4_in 10 = .ok (.iconst 1, 1) := by decide +kernel
theorem dX4_in_11 : decode cX4_in 11 = .ok (.goto 4, 3) := by decide +kernel
theorem dX4_in_14 : decode cX4_in 14 = .ok (.iconst 0, 1) := by decide +kernel
theorem dX4_in_15 : decode cX4_in 15 = .ok (.ireturn, 1) := by decide +kernel
theorem dX4_isThere_0 : decode cX4_isThere 0 = .ok (.iload_n 1, 1) := by decide +kernel
theorem dX4_isThere_1 : decode cX4_isThere 1 = .ok (.iconst 0, 1) := by decide +kernel
theorem dX4_isThere_2 : decode cX4_isThere 2 = .ok (.aload_n 0, 1) := by decide +kernel
theorem dX4_isThere_3 : decode cX4_isThere 3 = .ok (.getfield 57, 3) := by decide +kernel
theorem dX4_isThere_6 : decode cX4_isThere 6 = .ok (.iconst 1, 1) := by decide +kernel
theorem dX4_isThere_7 : decode cX4_isThere 7 = .ok (.isub, 1) := by decide +kernel
theorem dX4_isThere_8 : decode cX4_isThere 8 = .ok (.invokestatic 61, 3) := by decide +kernel
theorem dX4_isThere_11 : decode cX4_isThere 11 = .ok (.ireturn, 1) := by decide +kernel
theorem dX4_isNumbers_0 : decode cX4_isNumbers 0 = .ok (.iload_n 0, 1) := by decide +kernel
theorem dX4_isNumbers_1 : decode cX4_isNumbers 1 = .ok (.iconst 3, 1) := by decide +kernel
theorem dX4_isNumbers_2 : decode cX4_isNumbers 2 = .ok (.if_icmp .ge 7, 3) := by decide +kernel
theorem dX4_isNumbers_5 : decode cX4_isNumbers 5 = .ok (.iconst 1, 1) := by decide +kernel
theorem dX4_isNumbers_6 : decode cX4_isNumbers 6 = .ok (.goto 4, 3) := by decide +kernel
theorem dX4_isNumbers_9 : decode cX4_isNumbers 9 = .ok (.iconst 0, 1) := by decide +kernel
theorem dX4_isNumbers_10 : decode cX4_isNumbers 10 = .ok (.ireturn, 1) := by decide +kernel
theorem dX4_isHook_0 : decode cX4_isHook 0 = .ok (.iload_n 0, 1) := by decide +kernel
theorem dX4_isHook_1 : decode cX4_isHook 1 = .ok (.iconst 3, 1) := by decide +kernel
theorem dX4_isHook_2 : decode cX4_isHook 2 = .ok (.bipush 7, 2) := by decide +kernel
theorem dX4_isHook_4 : decode cX4_isHook 4 = .ok (.invokestatic 61, 3) := by decide +kernel
theorem dX4_isHook_7 : decode cX4_isHook 7 = .ok (.ireturn, 1) := by decide +kernel
theorem dX4_hung_0 : decode cX4_hung 0 = .ok (.aload_n 0, 1) := by decide +kernel
theorem dX4_hung_1 : decode cX4_hung 1 = .ok (.getfield 23, 3) := by decide +kernel
theorem dX4_hung_4 : decode cX4_hung 4 = .ok (.aload_n 0, 1) := by decide +kernel
theorem dX4_hung_5 : decode cX4_hung 5 = .ok (.getfield 19, 3) := by decide +kernel
theorem dX4_hung_8 : decode cX4_hung 8 = .ok (.iload_n 1, 1) := by decide +kernel
theorem dX4_hung_9 : decode cX4_hung 9 = .ok (.iaload, 1) := by decide +kernel
theorem dX4_hung_10 : decode cX4_hung 10 = .ok (.iload_n 2, 1) := by decide +kernel
theorem dX4_hung_11 : decode cX4_hung 11 = .ok (.iadd, 1) := by decide +kernel
theorem dX4_hung_12 : decode cX4_hung 12 = .ok (.laload, 1) := by decide +kernel
theorem dX4_hung_13 : decode cX4_hung 13 = .ok (.l2i, 1) := by decide +kernel
theorem dX4_hung_14 : decode cX4_hung 14 = .ok (.ireturn, 1) := by decide +kernel
theorem dX4_hooks_0 : decode cX4_hooks 0 = .ok (.aload_n 0, 1) := by decide +kernel
theorem dX4_hooks_1 : decode cX4_hooks 1 = .ok (.getfield 7, 3) := by decide +kernel
theorem dX4_hooks_4 : decode cX4_hooks 4 = .ok (.iload_n 1, 1) := by decide +kernel
theorem dX4_hooks_5 : decode cX4_hooks 5 = .ok (.iaload, 1) := by decide +kernel
theorem dX4_hooks_6 : decode cX4_hooks 6 = .ok (.invokestatic 65, 3) := by decide +kernel
theorem dX4_hooks_9 : decode cX4_hooks 9 = .ok (.ifCond .eq 12, 3) := by decide +kernel
theorem dX4_hooks_12 : decode cX4_hooks 12 = .ok (.aload_n 0, 1) := by decide +kernel
theorem dX4_hooks_13 : decode cX4_hooks 13 = .ok (.getfield 13, 3) := by decide +kernel
theorem dX4_hooks_16 : decode cX4_hooks 16 = .ok (.iload_n 1, 1) := by decide +kernel
theorem dX4_hooks_17 : decode cX4_hooks 17 = .ok (.iaload, 1) := by decide +kernel
theorem dX4_hooks_18 : decode cX4_hooks 18 = .ok (.goto 4, 3) := by decide +kernel
theorem dX4_hooks_21 : decode cX4_hooks 21 = .ok (.iconst 0, 1) := by decide +kernel
theorem dX4_hooks_22 : decode cX4_hooks 22 = .ok (.ireturn, 1) := by decide +kernel
theorem dX4_add_0 : decode cX4_add 0 = .ok (.aload_n 0, 1) := by decide +kernel
theorem dX4_add_1 : decode cX4_add 1 = .ok (.getfield 7, 3) := by decide +kernel
theorem dX4_add_4 : decode cX4_add 4 = .ok (.aload_n 0, 1) := by decide +kernel
theorem dX4_add_5 : decode cX4_add 5 = .ok (.getfield 57, 3) := by decide +kernel
theorem dX4_add_8 : decode cX4_add 8 = .ok (.iload_n 1, 1) := by decide +kernel
theorem dX4_add_9 : decode cX4_add 9 = .ok (.iastore, 1) := by decide +kernel
theorem dX4_add_10 : decode cX4_add 10 = .ok (.aload_n 0, 1) := by decide +kernel
theorem dX4_add_11 : decode cX4_add 11 = .ok (.getfield 13, 3) := by decide +kernel
theorem dX4_add_14 : decode cX4_add 14 = .ok (.aload_n 0, 1) := by decide +kernel
theorem dX4_add_15 : decode cX4_add 15 = .ok (.getfield 57, 3) := by decide +kernel
theorem dX4_add_18 : decode cX4_add 18 = .ok (.iload_n 2, 1) := by decide +kernel
theorem dX4_add_19 : decode cX4_add 19 = .ok (.iastore, 1) := by decide +kernel
theorem dX4_add_20 : decode cX4_add 20 = .ok (.aload_n 0, 1) := by decide +kernel
theorem dX4_add_21 : decode cX4_add 21 = .ok (.getfield 16, 3) := by decide +kernel
theorem dX4_add_24 : decode cX4_add 24 = .ok (.aload_n 0, 1) := by decide +kernel
theorem dX4_add_25 : decode cX4_add 25 = .ok (.getfield 57, 3) := by decide +kernel
theorem dX4_add_28 : decode cX4_add 28 = .ok (.iload_n 3, 1) := by decide +kernel
theorem dX4_add_29 : decode cX4_add 29 = .ok (.iastore, 1) := by decide +kernel
theorem dX4_add_30 : decode cX4_add 30 = .ok (.aload_n 0, 1) := by decide +kernel
theorem dX4_add_31 : decode cX4_add 31 = .ok (.getfield 19, 3) := by decide +kernel
theorem dX4_add_34 : decode cX4_add 34 = .ok (.aload_n 0, 1) := by decide +kernel
theorem dX4_add_35 : decode cX4_add 35 = .ok (.getfield 57, 3) := by decide +kernel
theorem dX4_add_38 : decode cX4_add 38 = .ok (.aload_n 0, 1) := by decide +kernel
theorem dX4_add_39 : decode cX4_add 39 = .ok (.getfield 69, 3) := by decide +kernel
theorem dX4_add_42 : decode cX4_add 42 = .ok (.iastore, 1) := by decide +kernel
theorem dX4_add_43 : decode cX4_add 43 = .ok (.iconst 0, 1) := by decide +kernel
theorem dX4_add_44 : decode cX4_add 44 = .ok (.istore 4, 2) := by decide +kernel
theorem dX4_add_46 : decode cX4_add 46 = .ok (.iload 4, 2) := by decide +kernel
theorem dX4_add_48 : decode cX4_add 48 = .ok (.iload_n 2, 1) := by decide +kernel
theorem dX4_add_49 : decode cX4_add 49 = .ok (.if_icmp .ge 42, 3) := by decide +kernel
theorem dX4_add_52 : decode cX4_add 52 = .ok (.aload_n 0, 1) := by decide +kernel
theorem dX4_add_53 : decode cX4_add 53 = .ok (.getfield 23, 3) := by decide +kernel
theorem dX4_add_56 : decode cX4_add 56 = .ok (.aload_n 0, 1) := by decide +kernel
theorem dX4_add_57 : decode cX4_add 57 = .ok (.getfield 69, 3) := by decide +kernel
theorem dX4_add_60 : decode cX4_add 60 = .ok (.iload_n 1, 1) := by decide +kernel
theorem dX4_add_61 : decode cX4_add 61 = .ok (.invokestatic 65, 3) := by decide +kernel
theorem dX4_add_64 : decode cX4_add 64 = .ok (.ifCond .eq 9, 3) := by decide +kernel
theorem dX4_add_67 : decode cX4_add 67 = .ok (.ldc2_w 72, 3) := by decide +kernel
theorem dX4_add_70 : decode cX4_add 70 = .ok (.goto 4, 3) := by decide +kernel
theorem dX4_add_73 : decode cX4_add 73 = .ok (.lconst 0, 1) := by decide +kernel
theorem dX4_add_74 : decode cX4_add 74 = .ok (.lastore, 1) := by decide +kernel
theorem dX4_add_75 : decode cX4_add 75 = .ok (.aload_n 0, 1) := by decide +kernel
theorem dX4_add_76 : decode cX4_add 76 = .ok (.dup, 1) := by decide +kernel
theorem dX4_add_77 : decode cX4_add 77 = .ok (.getfield 69, 3) := by decide +kernel
theorem dX4_add_80 : decode cX4_add 80 = .ok (.iconst 1, 1) := by decide +kernel
theorem dX4_add_81 : decode cX4_add 81 = .ok (.iadd, 1) := by decide +kernel
theorem dX4_add_82 : decode cX4_add 82 = .ok (.putfield 69, 3) := by decide +kernel
theorem dX4_add_85 : decode cX4_add 85 = .ok (.iinc 4 1, 3) := by decide +kernel
theorem dX4_add_88 : decode cX4_add 88 = .ok (.goto (-42), 3) := by decide +kernel
theorem dX4_add_91 : decode cX4_add 91 = .ok (.aload_n 0, 1) := by decide +kernel
theorem dX4_add_92 : decode cX4_add 92 = .ok (.dup, 1) := by decide +kernel
theorem dX4_add_93 : decode cX4_add 93 = .ok (.getfield 57, 3) := by decide +kernel
theorem dX4_add_96 : decode cX4_add 96 = .ok (.iconst 1, 1) := by decide +kernel
theorem dX4_add_97 : decode cX4_add 97 = .ok (.iadd, 1) := by decide +kernel
theorem dX4_add_98 : decode cX4_add 98 = .ok (.putfield 57, 3) := by decide +kernel
theorem dX4_add_101 : decode cX4_add 101 = .ok (.aload_n 0, 1) := by decide +kernel
theorem dX4_add_102 : decode cX4_add 102 = .ok (.getfield 57, 3) := by decide +kernel
theorem dX4_add_105 : decode cX4_add 105 = .ok (.iconst 1, 1) := by decide +kernel
theorem dX4_add_106 : decode cX4_add 106 = .ok (.isub, 1) := by decide +kernel
theorem dX4_add_107 : decode cX4_add 107 = .ok (.ireturn, 1) := by decide +kernel
theorem dX4_make_0 : decode cX4_make 0 = .ok (.iload_n 1, 1) := by decide +kernel
theorem dX4_make_1 : decode cX4_make 1 = .ok (.iconst 0, 1) := by decide +kernel
theorem dX4_make_2 : decode cX4_make 2 = .ok (.bipush 6, 2) := by decide +kernel
theorem dX4_make_4 : decode cX4_make 4 = .ok (.invokestatic 61, 3) := by decide +kernel
theorem dX4_make_7 : decode cX4_make 7 = .ok (.ifCond .ne 5, 3) := by decide +kernel
theorem dX4_make_10 : decode cX4_make 10 = .ok (.iconst (-1), 1) := by decide +kernel
theorem dX4_make_11 : decode cX4_make 11 = .ok (.ireturn, 1) := by decide +kernel
theorem dX4_make_12 : decode cX4_make 12 = .ok (.iload_n 2, 1) := by decide +kernel
theorem dX4_make_13 : decode cX4_make 13 = .ok (.sipush 500, 3) := by decide +kernel
theorem dX4_make_16 : decode cX4_make 16 = .ok (.if_icmp .gt 13, 3) := by decide +kernel
theorem dX4_make_19 : decode cX4_make 19 = .ok (.aload_n 0, 1) := by decide +kernel
theorem dX4_make_20 : decode cX4_make 20 = .ok (.getfield 57, 3) := by decide +kernel
theorem dX4_make_23 : decode cX4_make 23 = .ok (.sipush 2000, 3) := by decide +kernel
theorem dX4_make_26 : decode cX4_make 26 = .ok (.if_icmp .ne 6, 3) := by decide +kernel
theorem dX4_make_29 : decode cX4_make 29 = .ok (.bipush (-2), 2) := by decide +kernel
theorem dX4_make_31 : decode cX4_make 31 = .ok (.ireturn, 1) := by decide +kernel
theorem dX4_make_32 : decode cX4_make 32 = .ok (.iload_n 2, 1) := by decide +kernel
theorem dX4_make_33 : decode cX4_make 33 = .ok (.ifCond .ge 8, 3) := by decide +kernel
theorem dX4_make_36 : decode cX4_make 36 = .ok (.bipush (-3), 2) := by decide +kernel
theorem dX4_make_38 : decode cX4_make 38 = .ok (.goto 10, 3) := by decide +kernel
theorem dX4_make_41 : decode cX4_make 41 = .ok (.aload_n 0, 1) := by decide +kernel
theorem dX4_make_42 : decode cX4_make 42 = .ok (.iload_n 1, 1) := by decide +kernel
theorem dX4_make_43 : decode cX4_make 43 = .ok (.iload_n 2, 1) := by decide +kernel
theorem dX4_make_44 : decode cX4_make 44 = .ok (.iconst 0, 1) := by decide +kernel
theorem dX4_make_45 : decode cX4_make 45 = .ok (.invokevirtual 74, 3) := by decide +kernel
theorem dX4_make_48 : decode cX4_make 48 = .ok (.ireturn, 1) := by decide +kernel
theorem dX4_token_0 : decode cX4_token 0 = .ok (.aload_n 0, 1) := by decide +kernel
theorem dX4_token_1 : decode cX4_token 1 = .ok (.getfield 57, 3) := by decide +kernel
theorem dX4_token_4 : decode cX4_token 4 = .ok (.sipush 2000, 3) := by decide +kernel
theorem dX4_token_7 : decode cX4_token 7 = .ok (.if_icmp .ne 6, 3) := by decide +kernel
theorem dX4_token_10 : decode cX4_token 10 = .ok (.bipush (-2), 2) := by decide +kernel
theorem dX4_token_12 : decode cX4_token 12 = .ok (.ireturn, 1) := by decide +kernel
theorem dX4_token_13 : decode cX4_token 13 = .ok (.aload_n 0, 1) := by decide +kernel
theorem dX4_token_14 : decode cX4_token 14 = .ok (.iload_n 2, 1) := by decide +kernel
theorem dX4_token_15 : decode cX4_token 15 = .ok (.ifCond .eq 8, 3) := by decide +kernel
theorem dX4_token_18 : decode cX4_token 18 = .ok (.bipush 8, 2) := by decide +kernel
theorem dX4_token_20 : decode cX4_token 20 = .ok (.goto 5, 3) := by decide +kernel
theorem dX4_token_23 : decode cX4_token 23 = .ok (.bipush 7, 2) := by decide +kernel
theorem dX4_token_25 : decode cX4_token 25 = .ok (.iload_n 2, 1) := by decide +kernel
theorem dX4_token_26 : decode cX4_token 26 = .ok (.ifCond .eq 7, 3) := by decide +kernel
theorem dX4_token_29 : decode cX4_token 29 = .ok (.iconst 0, 1) := by decide +kernel
theorem dX4_token_30 : decode cX4_token 30 = .ok (.goto 4, 3) := by decide +kernel
theorem dX4_token_33 : decode cX4_token 33 = .ok (.iconst 1, 1) := by decide +kernel
theorem dX4_token_34 : decode cX4_token 34 = .ok (.iload_n 1, 1) := by decide +kernel
theorem dX4_token_35 : decode cX4_token 35 = .ok (.invokevirtual 74, 3) := by decide +kernel
theorem dX4_token_38 : decode cX4_token 38 = .ok (.ireturn, 1) := by decide +kernel
theorem dX4_put_0 : decode cX4_put 0 = .ok (.aload_n 0, 1) := by decide +kernel
theorem dX4_put_1 : decode cX4_put 1 = .ok (.iload_n 1, 1) := by decide +kernel
theorem dX4_put_2 : decode cX4_put 2 = .ok (.invokevirtual 78, 3) := by decide +kernel
theorem dX4_put_5 : decode cX4_put 5 = .ok (.ifCond .ne 5, 3) := by decide +kernel
theorem dX4_put_8 : decode cX4_put 8 = .ok (.iconst 1, 1) := by decide +kernel
theorem dX4_put_9 : decode cX4_put 9 = .ok (.ireturn, 1) := by decide +kernel
theorem dX4_put_10 : decode cX4_put 10 = .ok (.aload_n 0, 1) := by decide +kernel
theorem dX4_put_11 : decode cX4_put 11 = .ok (.getfield 7, 3) := by decide +kernel
theorem dX4_put_14 : decode cX4_put 14 = .ok (.iload_n 1, 1) := by decide +kernel
theorem dX4_put_15 : decode cX4_put 15 = .ok (.iaload, 1) := by decide +kernel
theorem dX4_put_16 : decode cX4_put 16 = .ok (.istore 5, 2) := by decide +kernel
theorem dX4_put_18 : decode cX4_put 18 = .ok (.iload 5, 2) := by decide +kernel
theorem dX4_put_20 : decode cX4_put 20 = .ok (.invokestatic 81, 3) := by decide +kernel
theorem dX4_put_23 : decode cX4_put 23 = .ok (.ifCond .ne 5, 3) := by decide +kernel
theorem dX4_put_26 : decode cX4_put 26 = .ok (.iconst 4, 1) := by decide +kernel
theorem dX4_put_27 : decode cX4_put 27 = .ok (.ireturn, 1) := by decide +kernel
theorem dX4_put_28 : decode cX4_put 28 = .ok (.iload_n 2, 1) := by decide +kernel
theorem dX4_put_29 : decode cX4_put 29 = .ok (.iconst 0, 1) := by decide +kernel
theorem dX4_put_30 : decode cX4_put 30 = .ok (.aload_n 0, 1) := by decide +kernel
theorem dX4_put_31 : decode cX4_put 31 = .ok (.getfield 13, 3) := by decide +kernel
theorem dX4_put_34 : decode cX4_put 34 = .ok (.iload_n 1, 1) := by decide +kernel
theorem dX4_put_35 : decode cX4_put 35 = .ok (.iaload, 1) := by decide +kernel
theorem dX4_put_36 : decode cX4_put 36 = .ok (.iconst 1, 1) := by decide +kernel
theorem dX4_put_37 : decode cX4_put 37 = .ok (.isub, 1) := by decide +kernel
theorem dX4_put_38 : decode cX4_put 38 = .ok (.invokestatic 61, 3) := by decide +kernel
theorem dX4_put_41 : decode cX4_put 41 = .ok (.ifCond .ne 5, 3) := by decide +kernel
theorem dX4_put_44 : decode cX4_put 44 = .ok (.iconst 2, 1) := by decide +kernel
theorem dX4_put_45 : decode cX4_put 45 = .ok (.ireturn, 1) := by decide +kernel
theorem dX4_put_46 : decode cX4_put 46 = .ok (.aload_n 0, 1) := by decide +kernel
theorem dX4_put_47 : decode cX4_put 47 = .ok (.getfield 23, 3) := by decide +kernel
theorem dX4_put_50 : decode cX4_put 50 = .ok (.aload_n 0, 1) := by decide +kernel
theorem dX4_put_51 : decode cX4_put 51 = .ok (.getfield 19, 3) := by decide +kernel
theorem dX4_put_54 : decode cX4_put 54 = .ok (.iload_n 1, 1) := by decide +kernel
theorem dX4_put_55 : decode cX4_put 55 = .ok (.iaload, 1) := by decide +kernel
theorem dX4_put_56 : decode cX4_put 56 = .ok (.iload_n 2, 1) := by decide +kernel
theorem dX4_put_57 : decode cX4_put 57 = .ok (.iadd, 1) := by decide +kernel
theorem dX4_put_58 : decode cX4_put 58 = .ok (.iload 5, 2) := by decide +kernel
theorem dX4_put_60 : decode cX4_put 60 = .ok (.ifCond .ne 9, 3) := by decide +kernel
theorem dX4_put_63 : decode cX4_put 63 = .ok (.lload_n 3, 1) := by decide +kernel
theorem dX4_put_64 : decode cX4_put 64 = .ok (.l2i, 1) := by decide +kernel
theorem dX4_put_65 : decode cX4_put 65 = .ok (.i2l, 1) := by decide +kernel
theorem dX4_put_66 : decode cX4_put 66 = .ok (.goto 18, 3) := by decide +kernel
theorem dX4_put_69 : decode cX4_put 69 = .ok (.iload 5, 2) := by decide +kernel
theorem dX4_put_71 : decode cX4_put 71 = .ok (.iconst 1, 1) := by decide +kernel
theorem dX4_put_72 : decode cX4_put 72 = .ok (.if_icmp .ne 7, 3) := by decide +kernel
theorem dX4_put_75 : decode cX4_put 75 = .ok (.lload_n 3, 1) := by decide +kernel
theorem dX4_put_76 : decode cX4_put 76 = .ok (.goto 8, 3) := by decide +kernel
theorem dX4_put_79 : decode cX4_put 79 = .ok (.lload_n 3, 1) := by decide +kernel
theorem dX4_put_80 : decode cX4_put 80 = .ok (.ldc2_w 84, 3) := by decide +kernel
theorem dX4_put_83 : decode cX4_put 83 = .ok (.land, 1) := by decide +kernel
theorem dX4_put_84 : decode cX4_put 84 = .ok (.lastore, 1) := by decide +kernel
theorem dX4_put_85 : decode cX4_put 85 = .ok (.iconst 0, 1) := by decide +kernel
theorem dX4_put_86 : decode cX4_put 86 = .ok (.ireturn, 1) := by decide +kernel
theorem dX4_passes_0 : decode cX4_passes 0 = .ok (.aload_n 0, 1) := by decide +kernel
theorem dX4_passes_1 : decode cX4_passes 1 = .ok (.getfield 7, 3) := by decide +kernel
theorem dX4_passes_4 : decode cX4_passes 4 = .ok (.iload_n 1, 1) := by decide +kernel
theorem dX4_passes_5 : decode cX4_passes 5 = .ok (.iaload, 1) := by decide +kernel
theorem dX4_passes_6 : decode cX4_passes 6 = .ok (.istore_n 3, 1) := by decide +kernel
theorem dX4_passes_7 : decode cX4_passes 7 = .ok (.iload_n 2, 1) := by decide +kernel
theorem dX4_passes_8 : decode cX4_passes 8 = .ok (.iconst 4, 1) := by decide +kernel
theorem dX4_passes_9 : decode cX4_passes 9 = .ok (.if_icmp .ne 20, 3) := by decide +kernel
theorem dX4_passes_12 : decode cX4_passes 12 = .ok (.iload_n 3, 1) := by decide +kernel
theorem dX4_passes_13 : decode cX4_passes 13 = .ok (.iconst 4, 1) := by decide +kernel
theorem dX4_passes_14 : decode cX4_passes 14 = .ok (.if_icmp .eq 9, 3) := by decide +kernel
theorem dX4_passes_17 : decode cX4_passes 17 = .ok (.iload_n 3, 1) := by decide +kernel
theorem dX4_passes_18 : decode cX4_passes 18 = .ok (.bipush 6, 2) := by decide +kernel
theorem dX4_passes_20 : decode cX4_passes 20 = .ok (.if_icmp .ne 7, 3) := by decide +kernel
theorem dX4_passes_23 : decode cX4_passes 23 = .ok (.iconst 1, 1) := by decide +kernel
theorem dX4_passes_24 : decode cX4_passes 24 = .ok (.goto 4, 3) := by decide +kernel
theorem dX4_passes_27 : decode cX4_passes 27 = .ok (.iconst 0, 1) := by decide +kernel
theorem dX4_passes_28 : decode cX4_passes 28 = .ok (.ireturn, 1) := by decide +kernel
theorem dX4_passes_29 : decode cX4_passes 29 = .ok (.iload_n 2, 1) := by decide +kernel
theorem dX4_passes_30 : decode cX4_passes 30 = .ok (.bipush 7, 2) := by decide +kernel
theorem dX4_passes_32 : decode cX4_passes 32 = .ok (.if_icmp .ne 17, 3) := by decide +kernel
theorem dX4_passes_35 : decode cX4_passes 35 = .ok (.iload_n 3, 1) := by decide +kernel
theorem dX4_passes_36 : decode cX4_passes 36 = .ok (.bipush 7, 2) := by decide +kernel
theorem dX4_passes_38 : decode cX4_passes 38 = .ok (.if_icmp .lt 7, 3) := by decide +kernel
theorem dX4_passes_41 : decode cX4_passes 41 = .ok (.iconst 1, 1) := by decide +kernel
theorem dX4_passes_42 : decode cX4_passes 42 = .ok (.goto 17, 3) := by decide +kernel
theorem dX4_passes_45 : decode cX4_passes 45 = .ok (.iconst 0, 1) := by decide +kernel
theorem dX4_passes_46 : decode cX4_passes 46 = .ok (.goto 13, 3) := by decide +kernel
theorem dX4_passes_49 : decode cX4_passes 49 = .ok (.iload_n 3, 1) := by decide +kernel
theorem dX4_passes_50 : decode cX4_passes 50 = .ok (.iload_n 2, 1) := by decide +kernel
theorem dX4_passes_51 : decode cX4_passes 51 = .ok (.if_icmp .ne 7, 3) := by decide +kernel
theorem dX4_passes_54 : decode cX4_passes 54 = .ok (.iconst 1, 1) := by decide +kernel
theorem dX4_passes_55 : decode cX4_passes 55 = .ok (.goto 4, 3) := by decide +kernel
theorem dX4_passes_58 : decode cX4_passes 58 = .ok (.iconst 0, 1) := by decide +kernel
theorem dX4_passes_59 : decode cX4_passes 59 = .ok (.ireturn, 1) := by decide +kernel
theorem dX4_mayHang_0 : decode cX4_mayHang 0 = .ok (.aload_n 0, 1) := by decide +kernel
theorem dX4_mayHang_1 : decode cX4_mayHang 1 = .ok (.getfield 7, 3) := by decide +kernel
theorem dX4_mayHang_4 : decode cX4_mayHang 4 = .ok (.iload_n 1, 1) := by decide +kernel
theorem dX4_mayHang_5 : decode cX4_mayHang 5 = .ok (.iaload, 1) := by decide +kernel
theorem dX4_mayHang_6 : decode cX4_mayHang 6 = .ok (.tableswitch 60 3 6 #[30, 37, 45, 52], 30) := by decide +kernel
theorem dX4_mayHang_36 : decode cX4_mayHang 36 = .ok (.aload_n 0, 1) := by decide +kernel
theorem dX4_mayHang_37 : decode cX4_mayHang 37 = .ok (.iload_n 2, 1) := by decide +kernel
theorem dX4_mayHang_38 : decode cX4_mayHang 38 = .ok (.iconst 0, 1) := by decide +kernel
theorem dX4_mayHang_39 : decode cX4_mayHang 39 = .ok (.invokevirtual 86, 3) := by decide +kernel
theorem dX4_mayHang_42 : decode cX4_mayHang 42 = .ok (.ireturn, 1) := by decide +kernel
theorem dX4_mayHang_43 : decode cX4_mayHang 43 = .ok (.aload_n 0, 1) := by decide +kernel
theorem dX4_mayHang_44 : decode cX4_mayHang 44 = .ok (.iload_n 2, 1) := by decide +kernel
theorem dX4_mayHang_45 : decode cX4_mayHang 45 = .ok (.bipush 7, 2) := by decide +kernel
theorem dX4_mayHang_47 : decode cX4_mayHang 47 = .ok (.invokevirtual 86, 3) := by decide +kernel
theorem dX4_mayHang_50 : decode cX4_mayHang 50 = .ok (.ireturn, 1) := by decide +kernel
theorem dX4_mayHang_51 : decode cX4_mayHang 51 = .ok (.aload_n 0, 1) := by decide +kernel
theorem dX4_mayHang_52 : decode cX4_mayHang 52 = .ok (.iload_n 2, 1) := by decide +kernel
theorem dX4_mayHang_53 : decode cX4_mayHang 53 = .ok (.iconst 4, 1) := by decide +kernel
theorem dX4_mayHang_54 : decode cX4_mayHang 54 = .ok (.invokevirtual 86, 3) := by decide +kernel
theorem dX4_mayHang_57 : decode cX4_mayHang 57 = .ok (.ireturn, 1) := by decide +kernel
theorem dX4_mayHang_58 : decode cX4_mayHang 58 = .ok (.aload_n 0, 1) := by decide +kernel
theorem dX4_mayHang_59 : decode cX4_mayHang 59 = .ok (.iload_n 2, 1) := by decide +kernel
theorem dX4_mayHang_60 : decode cX4_mayHang 60 = .ok (.bipush 8, 2) := by decide +kernel
theorem dX4_mayHang_62 : decode cX4_mayHang 62 = .ok (.invokevirtual 86, 3) := by decide +kernel
theorem dX4_mayHang_65 : decode cX4_mayHang 65 = .ok (.ireturn, 1) := by decide +kernel
theorem dX4_mayHang_66 : decode cX4_mayHang 66 = .ok (.iconst 1, 1) := by decide +kernel
theorem dX4_mayHang_67 : decode cX4_mayHang 67 = .ok (.ireturn, 1) := by decide +kernel
theorem dX4_hang_0 : decode cX4_hang 0 = .ok (.aload_n 0, 1) := by decide +kernel
theorem dX4_hang_1 : decode cX4_hang 1 = .ok (.iload_n 1, 1) := by decide +kernel
theorem dX4_hang_2 : decode cX4_hang 2 = .ok (.invokevirtual 78, 3) := by decide +kernel
theorem dX4_hang_5 : decode cX4_hang 5 = .ok (.ifCond .eq 16, 3) := by decide +kernel
theorem dX4_hang_8 : decode cX4_hang 8 = .ok (.iload_n 3, 1) := by decide +kernel
theorem dX4_hang_9 : decode cX4_hang 9 = .ok (.iconst (-1), 1) := by decide +kernel
theorem dX4_hang_10 : decode cX4_hang 10 = .ok (.if_icmp .eq 13, 3) := by decide +kernel
theorem dX4_hang_13 : decode cX4_hang 13 = .ok (.aload_n 0, 1) := by decide +kernel
theorem dX4_hang_14 : decode cX4_hang 14 = .ok (.iload_n 3, 1) := by decide +kernel
theorem dX4_hang_15 : decode cX4_hang 15 = .ok (.invokevirtual 78, 3) := by decide +kernel
theorem dX4_hang_18 : decode cX4_hang 18 = .ok (.ifCond .ne 5, 3) := by decide +kernel
theorem dX4_hang_21 : decode cX4_hang 21 = .ok (.iconst 1, 1) := by decide +kernel
theorem dX4_hang_22 : decode cX4_hang 22 = .ok (.ireturn, 1) := by decide +kernel
theorem dX4_hang_23 : decode cX4_hang 23 = .ok (.aload_n 0, 1) := by decide +kernel
theorem dX4_hang_24 : decode cX4_hang 24 = .ok (.getfield 7, 3) := by decide +kernel
theorem dX4_hang_27 : decode cX4_hang 27 = .ok (.iload_n 1, 1) := by decide +kernel
theorem dX4_hang_28 : decode cX4_hang 28 = .ok (.iaload, 1) := by decide +kernel
theorem dX4_hang_29 : decode cX4_hang 29 = .ok (.invokestatic 65, 3) := by decide +kernel
theorem dX4_hang_32 : decode cX4_hang 32 = .ok (.ifCond .ne 5, 3) := by decide +kernel
theorem dX4_hang_35 : decode cX4_hang 35 = .ok (.iconst 4, 1) := by decide +kernel
theorem dX4_hang_36 : decode cX4_hang 36 = .ok (.ireturn, 1) := by decide +kernel
theorem dX4_hang_37 : decode cX4_hang 37 = .ok (.iload_n 2, 1) := by decide +kernel
theorem dX4_hang_38 : decode cX4_hang 38 = .ok (.iconst 0, 1) := by decide +kernel
theorem dX4_hang_39 : decode cX4_hang 39 = .ok (.aload_n 0, 1) := by decide +kernel
theorem dX4_hang_40 : decode cX4_hang 40 = .ok (.getfield 13, 3) := by decide +kernel
theorem dX4_hang_43 : decode cX4_hang 43 = .ok (.iload_n 1, 1) := by decide +kernel
theorem dX4_hang_44 : decode cX4_hang 44 = .ok (.iaload, 1) := by decide +kernel
theorem dX4_hang_45 : decode cX4_hang 45 = .ok (.iconst 1, 1) := by decide +kernel
theorem dX4_hang_46 : decode cX4_hang 46 = .ok (.isub, 1) := by decide +kernel
theorem dX4_hang_47 : decode cX4_hang 47 = .ok (.invokestatic 61, 3) := by decide +kernel
theorem dX4_hang_50 : decode cX4_hang 50 = .ok (.ifCond .ne 5, 3) := by decide +kernel
theorem dX4_hang_53 : decode cX4_hang 53 = .ok (.iconst 2, 1) := by decide +kernel
theorem dX4_hang_54 : decode cX4_hang 54 = .ok (.ireturn, 1) := by decide +kernel
theorem dX4_hang_55 : decode cX4_hang 55 = .ok (.iload_n 3, 1) := by decide +kernel
theorem dX4_hang_56 : decode cX4_hang 56 = .ok (.iconst (-1), 1) := by decide +kernel
theorem dX4_hang_57 : decode cX4_hang 57 = .ok (.if_icmp .eq 14, 3) := by decide +kernel
theorem dX4_hang_60 : decode cX4_hang 60 = .ok (.aload_n 0, 1) := by decide +kernel
theorem dX4_hang_61 : decode cX4_hang 61 = .ok (.iload_n 1, 1) := by decide +kernel
theorem dX4_hang_62 : decode cX4_hang 62 = .ok (.iload_n 3, 1) := by decide +kernel
theorem dX4_hang_63 : decode cX4_hang 63 = .ok (.invokevirtual 90, 3) := by decide +kernel
theorem dX4_hang_66 : decode cX4_hang 66 = .ok (.ifCond .ne 5, 3) := by decide +kernel
theorem dX4_hang_69 : decode cX4_hang 69 = .ok (.iconst 3, 1) := by decide +kernel
theorem dX4_hang_70 : decode cX4_hang 70 = .ok (.ireturn, 1) := by decide +kernel
theorem dX4_hang_71 : decode cX4_hang 71 = .ok (.aload_n 0, 1) := by decide +kernel
theorem dX4_hang_72 : decode cX4_hang 72 = .ok (.getfield 23, 3) := by decide +kernel
theorem dX4_hang_75 : decode cX4_hang 75 = .ok (.aload_n 0, 1) := by decide +kernel
theorem dX4_hang_76 : decode cX4_hang 76 = .ok (.getfield 19, 3) := by decide +kernel
theorem dX4_hang_79 : decode cX4_hang 79 = .ok (.iload_n 1, 1) := by decide +kernel
theorem dX4_hang_80 : decode cX4_hang 80 = .ok (.iaload, 1) := by decide +kernel
theorem dX4_hang_81 : decode cX4_hang 81 = .ok (.iload_n 2, 1) := by decide +kernel
theorem dX4_hang_82 : decode cX4_hang 82 = .ok (.iadd, 1) := by decide +kernel
theorem dX4_hang_83 : decode cX4_hang 83 = .ok (.iload_n 3, 1) := by decide +kernel
theorem dX4_hang_84 : decode cX4_hang 84 = .ok (.i2l, 1) := by decide +kernel
theorem dX4_hang_85 : decode cX4_hang 85 = .ok (.lastore, 1) := by decide +kernel
theorem dX4_hang_86 : decode cX4_hang 86 = .ok (.iconst 0, 1) := by decide +kernel
theorem dX4_hang_87 : decode cX4_hang 87 = .ok (.ireturn, 1) := by decide +kernel
theorem dX4_kind_0 : decode cX4_kind 0 = .ok (.aload_n 0, 1) := by decide +kernel
theorem dX4_kind_1 : decode cX4_kind 1 = .ok (.iload_n 1, 1) := by decide +kernel
theorem dX4_kind_2 : decode cX4_kind 2 = .ok (.invokevirtual 78, 3) := by decide +kernel
theorem dX4_kind_5 : decode cX4_kind 5 = .ok (.ifCond .eq 12, 3) := by decide +kernel
theorem dX4_kind_8 : decode cX4_kind 8 = .ok (.aload_n 0, 1) := by decide +kernel
theorem dX4_kind_9 : decode cX4_kind 9 = .ok (.getfield 7, 3) := by decide +kernel
theorem dX4_kind_12 : decode cX4_kind 12 = .ok (.iload_n 1, 1) := by decide +kernel
theorem dX4_kind_13 : decode cX4_kind 13 = .ok (.iaload, 1) := by decide +kernel
theorem dX4_kind_14 : decode cX4_kind 14 = .ok (.goto 4, 3) := by decide +kernel
theorem dX4_kind_17 : decode cX4_kind 17 = .ok (.iconst (-1), 1) := by decide +kernel
theorem dX4_kind_18 : decode cX4_kind 18 = .ok (.ireturn, 1) := by decide +kernel
theorem dX4_length_0 : decode cX4_length 0 = .ok (.aload_n 0, 1) := by decide +kernel
theorem dX4_length_1 : decode cX4_length 1 = .ok (.iload_n 1, 1) := by decide +kernel
theorem dX4_length_2 : decode cX4_length 2 = .ok (.invokevirtual 78, 3) := by decide +kernel
theorem dX4_length_5 : decode cX4_length 5 = .ok (.ifCond .eq 12, 3) := by decide +kernel
theorem dX4_length_8 : decode cX4_length 8 = .ok (.aload_n 0, 1) := by decide +kernel
theorem dX4_length_9 : decode cX4_length 9 = .ok (.getfield 13, 3) := by decide +kernel
theorem dX4_length_12 : decode cX4_length 12 = .ok (.iload_n 1, 1) := by decide +kernel
theorem dX4_length_13 : decode cX4_length 13 = .ok (.iaload, 1) := by decide +kernel
theorem dX4_length_14 : decode cX4_length 14 = .ok (.goto 4, 3) := by decide +kernel
theorem dX4_length_17 : decode cX4_length 17 = .ok (.iconst (-1), 1) := by decide +kernel
theorem dX4_length_18 : decode cX4_length 18 = .ok (.ireturn, 1) := by decide +kernel
theorem dX4_number_0 : decode cX4_number 0 = .ok (.aload_n 0, 1) := by decide +kernel
theorem dX4_number_1 : decode cX4_number 1 = .ok (.iconst 0, 1) := by decide +kernel
theorem dX4_number_2 : decode cX4_number 2 = .ok (.putfield 93, 3) := by decide +kernel
theorem dX4_number_5 : decode cX4_number 5 = .ok (.aload_n 0, 1) := by decide +kernel
theorem dX4_number_6 : decode cX4_number 6 = .ok (.iload_n 1, 1) := by decide +kernel
theorem dX4_number_7 : decode cX4_number 7 = .ok (.invokevirtual 78, 3) := by decide +kernel
theorem dX4_number_10 : decode cX4_number 10 = .ok (.ifCond .ne 10, 3) := by decide +kernel
theorem dX4_number_13 : decode cX4_number 13 = .ok (.aload_n 0, 1) := by decide +kernel
theorem dX4_number_14 : decode cX4_number 14 = .ok (.iconst 1, 1) := by decide +kernel
theorem dX4_number_15 : decode cX4_number 15 = .ok (.putfield 93, 3) := by decide +kernel
theorem dX4_number_18 : decode cX4_number 18 = .ok (.lconst 0, 1) := by decide +kernel
theorem dX4_number_19 : decode cX4_number 19 = .ok (.lreturn, 1) := by decide +kernel
theorem dX4_number_20 : decode cX4_number 20 = .ok (.aload_n 0, 1) := by decide +kernel
theorem dX4_number_21 : decode cX4_number 21 = .ok (.getfield 7, 3) := by decide +kernel
theorem dX4_number_24 : decode cX4_number 24 = .ok (.iload_n 1, 1) := by decide +kernel
theorem dX4_number_25 : decode cX4_number 25 = .ok (.iaload, 1) := by decide +kernel
theorem dX4_number_26 : decode cX4_number 26 = .ok (.istore_n 3, 1) := by decide +kernel
theorem dX4_number_27 : decode cX4_number 27 = .ok (.iload_n 3, 1) := by decide +kernel
theorem dX4_number_28 : decode cX4_number 28 = .ok (.iconst 3, 1) := by decide +kernel
theorem dX4_number_29 : decode cX4_number 29 = .ok (.bipush 6, 2) := by decide +kernel
theorem dX4_number_31 : decode cX4_number 31 = .ok (.invokestatic 61, 3) := by decide +kernel
theorem dX4_number_34 : decode cX4_number 34 = .ok (.ifCond .eq 10, 3) := by decide +kernel
theorem dX4_number_37 : decode cX4_number 37 = .ok (.aload_n 0, 1) := by decide +kernel
theorem dX4_number_38 : decode cX4_number 38 = .ok (.iconst 4, 1) := by decide +kernel
theorem dX4_number_39 : decode cX4_number 39 = .ok (.putfield 93, 3) := by decide +kernel
theorem dX4_number_42 : decode cX4_number 42 = .ok (.lconst 0, 1) := by decide +kernel
theorem dX4_number_43 : decode cX4_number 43 = .ok (.lreturn, 1) := by decide +kernel
theorem dX4_number_44 : decode cX4_number 44 = .ok (.iload_n 2, 1) := by decide +kernel
theorem dX4_number_45 : decode cX4_number 45 = .ok (.iconst 0, 1) := by decide +kernel
theorem dX4_number_46 : decode cX4_number 46 = .ok (.iload_n 3, 1) := by decide +kernel
theorem dX4_number_47 : decode cX4_number 47 = .ok (.bipush 7, 2) := by decide +kernel
theorem dX4_number_49 : decode cX4_number 49 = .ok (.if_icmp .lt 7, 3) := by decide +kernel
theorem dX4_number_52 : decode cX4_number 52 = .ok (.iconst 0, 1) := by decide +kernel
theorem dX4_number_53 : decode cX4_number 53 = .ok (.goto 11, 3) := by decide +kernel
theorem dX4_number_56 : decode cX4_number 56 = .ok (.aload_n 0, 1) := by decide +kernel
theorem dX4_number_57 : decode cX4_number 57 = .ok (.getfield 13, 3) := by decide +kernel
theorem dX4_number_60 : decode cX4_number 60 = .ok (.iload_n 1, 1) := by decide +kernel
theorem dX4_number_61 : decode cX4_number 61 = .ok (.iaload, 1) := by decide +kernel
theorem dX4_number_62 : decode cX4_number 62 = .ok (.iconst 1, 1) := by decide +kernel
theorem dX4_number_63 : decode cX4_number 63 = .ok (.isub, 1) := by decide +kernel
theorem dX4_number_64 : decode cX4_number 64 = .ok (.invokestatic 61, 3) := by decide +kernel
theorem dX4_number_67 : decode cX4_number 67 = .ok (.ifCond .ne 10, 3) := by decide +kernel
theorem dX4_number_70 : decode cX4_number 70 = .ok (.aload_n 0, 1) := by decide +kernel
theorem dX4_number_71 : decode cX4_number 71 = .ok (.iconst 2, 1) := by decide +kernel
theorem dX4_number_72 : decode cX4_number 72 = .ok (.putfield 93, 3) := by decide +kernel
theorem dX4_number_75 : decode cX4_number 75 = .ok (.lconst 0, 1) := by decide +kernel
theorem dX4_number_76 : decode cX4_number 76 = .ok (.lreturn, 1) := by decide +kernel
theorem dX4_number_77 : decode cX4_number 77 = .ok (.iload_n 3, 1) := by decide +kernel
theorem dX4_number_78 : decode cX4_number 78 = .ok (.bipush 7, 2) := by decide +kernel
theorem dX4_number_80 : decode cX4_number 80 = .ok (.if_icmp .lt 13, 3) := by decide +kernel
theorem dX4_number_83 : decode cX4_number 83 = .ok (.aload_n 0, 1) := by decide +kernel
theorem dX4_number_84 : decode cX4_number 84 = .ok (.getfield 16, 3) := by decide +kernel
theorem dX4_number_87 : decode cX4_number 87 = .ok (.iload_n 1, 1) := by decide +kernel
theorem dX4_number_88 : decode cX4_number 88 = .ok (.iaload, 1) := by decide +kernel
theorem dX4_number_89 : decode cX4_number 89 = .ok (.i2l, 1) := by decide +kernel
theorem dX4_number_90 : decode cX4_number 90 = .ok (.goto 16, 3) := by decide +kernel
theorem dX4_number_93 : decode cX4_number 93 = .ok (.aload_n 0, 1) := by decide +kernel
theorem dX4_number_94 : decode cX4_number 94 = .ok (.getfield 23, 3) := by decide +kernel
theorem dX4_number_97 : decode cX4_number 97 = .ok (.aload_n 0, 1) := by decide +kernel
theorem dX4_number_98 : decode cX4_number 98 = .ok (.getfield 19, 3) := by decide +kernel
theorem dX4_number_101 : decode cX4_number 101 = .ok (.iload_n 1, 1) := by decide +kernel
theorem dX4_number_102 : decode cX4_number 102 = .ok (.iaload, 1) := by decide +kernel
theorem dX4_number_103 : decode cX4_number 103 = .ok (.iload_n 2, 1) := by decide +kernel
theorem dX4_number_104 : decode cX4_number 104 = .ok (.iadd, 1) := by decide +kernel
theorem dX4_number_105 : decode cX4_number 105 = .ok (.laload, 1) := by decide +kernel
theorem dX4_number_106 : decode cX4_number 106 = .ok (.lreturn, 1) := by decide +kernel
theorem dX4_below_0 : decode cX4_below 0 = .ok (.aload_n 0, 1) := by decide +kernel
theorem dX4_below_1 : decode cX4_below 1 = .ok (.iconst 0, 1) := by decide +kernel
theorem dX4_below_2 : decode cX4_below 2 = .ok (.putfield 93, 3) := by decide +kernel
theorem dX4_below_5 : decode cX4_below 5 = .ok (.aload_n 0, 1) := by decide +kernel
theorem dX4_below_6 : decode cX4_below 6 = .ok (.iload_n 1, 1) := by decide +kernel
theorem dX4_below_7 : decode cX4_below 7 = .ok (.invokevirtual 78, 3) := by decide +kernel
theorem dX4_below_10 : decode cX4_below 10 = .ok (.ifCond .ne 11, 3) := by decide +kernel
theorem dX4_below_13 : decode cX4_below 13 = .ok (.aload_n 0, 1) := by decide +kernel
theorem dX4_below_14 : decode cX4_below 14 = .ok (.iconst 1, 1) := by decide +kernel
theorem dX4_below_15 : decode cX4_below 15 = .ok (.putfield 93, 3) := by decide +kernel
theorem dX4_below_18 : decode cX4_below 18 = .ok (.goto 44, 3) := by decide +kernel
theorem dX4_below_21 : decode cX4_below 21 = .ok (.aload_n 0, 1) := by decide +kernel
theorem dX4_below_22 : decode cX4_below 22 = .ok (.getfield 7, 3) := by decide +kernel
theorem dX4_below_25 : decode cX4_below 25 = .ok (.iload_n 1, 1) := by decide +kernel
theorem dX4_below_26 : decode cX4_below 26 = .ok (.iaload, 1) := by decide +kernel
theorem dX4_below_27 : decode cX4_below 27 = .ok (.invokestatic 65, 3) := by decide +kernel
theorem dX4_below_30 : decode cX4_below 30 = .ok (.ifCond .ne 11, 3) := by decide +kernel
theorem dX4_below_33 : decode cX4_below 33 = .ok (.aload_n 0, 1) := by decide +kernel
theorem dX4_below_34 : decode cX4_below 34 = .ok (.iconst 4, 1) := by decide +kernel
theorem dX4_below_35 : decode cX4_below 35 = .ok (.putfield 93, 3) := by decide +kernel
theorem dX4_below_38 : decode cX4_below 38 = .ok (.goto 24, 3) := by decide +kernel
theorem dX4_below_41 : decode cX4_below 41 = .ok (.iload_n 2, 1) := by decide +kernel
theorem dX4_below_42 : decode cX4_below 42 = .ok (.iconst 0, 1) := by decide +kernel
theorem dX4_below_43 : decode cX4_below 43 = .ok (.aload_n 0, 1) := by decide +kernel
theorem dX4_below_44 : decode cX4_below 44 = .ok (.getfield 13, 3) := by decide +kernel
theorem dX4_below_47 : decode cX4_below 47 = .ok (.iload_n 1, 1) := by decide +kernel
theorem dX4_below_48 : decode cX4_below 48 = .ok (.iaload, 1) := by decide +kernel
theorem dX4_below_49 : decode cX4_below 49 = .ok (.iconst 1, 1) := by decide +kernel
theorem dX4_below_50 : decode cX4_below 50 = .ok (.isub, 1) := by decide +kernel
theorem dX4_below_51 : decode cX4_below 51 = .ok (.invokestatic 61, 3) := by decide +kernel
theorem dX4_below_54 : decode cX4_below 54 = .ok (.ifCond .ne 8, 3) := by decide +kernel
theorem dX4_below_57 : decode cX4_below 57 = .ok (.aload_n 0, 1) := by decide +kernel
theorem dX4_below_58 : decode cX4_below 58 = .ok (.iconst 2, 1) := by decide +kernel
theorem dX4_below_59 : decode cX4_below 59 = .ok (.putfield 93, 3) := by decide +kernel
theorem dX4_below_62 : decode cX4_below 62 = .ok (.aload_n 0, 1) := by decide +kernel
theorem dX4_below_63 : decode cX4_below 63 = .ok (.getfield 93, 3) := by decide +kernel
theorem dX4_below_66 : decode cX4_below 66 = .ok (.ifCond .ne 12, 3) := by decide +kernel
theorem dX4_below_69 : decode cX4_below 69 = .ok (.aload_n 0, 1) := by decide +kernel
theorem dX4_below_70 : decode cX4_below 70 = .ok (.iload_n 1, 1) := by decide +kernel
theorem dX4_below_71 : decode cX4_below 71 = .ok (.iload_n 2, 1) := by decide +kernel
theorem dX4_below_72 : decode cX4_below 72 = .ok (.invokevirtual 96, 3) := by decide +kernel
theorem dX4_below_75 : decode cX4_below 75 = .ok (.goto 5, 3) := by decide +kernel
theorem dX4_below_78 : decode cX4_below 78 = .ok (.bipush (-2), 2) := by decide +kernel
theorem dX4_below_80 : decode cX4_below 80 = .ok (.ireturn, 1) := by decide +kernel
theorem dX4_is_0 : decode cX4_is 0 = .ok (.iload_n 2, 1) := by decide +kernel
theorem dX4_is_1 : decode cX4_is 1 = .ok (.iconst 0, 1) := by decide +kernel
theorem dX4_is_2 : decode cX4_is 2 = .ok (.bipush 8, 2) := by decide +kernel
theorem dX4_is_4 : decode cX4_is 4 = .ok (.invokestatic 61, 3) := by decide +kernel
theorem dX4_is_7 : decode cX4_is 7 = .ok (.ifCond .eq 16, 3) := by decide +kernel
theorem dX4_is_10 : decode cX4_is 10 = .ok (.iload_n 1, 1) := by decide +kernel
theorem dX4_is_11 : decode cX4_is 11 = .ok (.iconst (-1), 1) := by decide +kernel
theorem dX4_is_12 : decode cX4_is 12 = .ok (.if_icmp .eq 13, 3) := by decide +kernel
theorem dX4_is_15 : decode cX4_is 15 = .ok (.aload_n 0, 1) := by decide +kernel
theorem dX4_is_16 : decode cX4_is 16 = .ok (.iload_n 1, 1) := by decide +kernel
theorem dX4_is_17 : decode cX4_is 17 = .ok (.invokevirtual 78, 3) := by decide +kernel
theorem dX4_is_20 : decode cX4_is 20 = .ok (.ifCond .ne 5, 3) := by decide +kernel
theorem dX4_is_23 : decode cX4_is 23 = .ok (.iconst (-1), 1) := by decide +kernel
theorem dX4_is_24 : decode cX4_is 24 = .ok (.ireturn, 1) := by decide +kernel
theorem dX4_is_25 : decode cX4_is 25 = .ok (.iload_n 1, 1) := by decide +kernel
theorem dX4_is_26 : decode cX4_is 26 = .ok (.iconst (-1), 1) := by decide +kernel
theorem dX4_is_27 : decode cX4_is 27 = .ok (.if_icmp .eq 16, 3) := by decide +kernel
theorem dX4_is_30 : decode cX4_is 30 = .ok (.aload_n 0, 1) := by decide +kernel
theorem dX4_is_31 : decode cX4_is 31 = .ok (.iload_n 1, 1) := by decide +kernel
theorem dX4_is_32 : decode cX4_is 32 = .ok (.iload_n 2, 1) := by decide +kernel
theorem dX4_is_33 : decode cX4_is 33 = .ok (.invokevirtual 86, 3) := by decide +kernel
theorem dX4_is_36 : decode cX4_is 36 = .ok (.ifCond .eq 7, 3) := by decide +kernel
theorem dX4_is_39 : decode cX4_is 39 = .ok (.iconst 1, 1) := by decide +kernel
theorem dX4_is_40 : decode cX4_is 40 = .ok (.goto 4, 3) := by decide +kernel
theorem dX4_is_43 : decode cX4_is 43 = .ok (.iconst 0, 1) := by decide +kernel
theorem dX4_is_44 : decode cX4_is 44 = .ok (.ireturn, 1) := by decide +kernel
theorem dX4_as_0 : decode cX4_as 0 = .ok (.iload_n 2, 1) := by decide +kernel
theorem dX4_as_1 : decode cX4_as 1 = .ok (.iconst 0, 1) := by decide +kernel
theorem dX4_as_2 : decode cX4_as 2 = .ok (.bipush 8, 2) := by decide +kernel
theorem dX4_as_4 : decode cX4_as 4 = .ok (.invokestatic 61, 3) := by decide +kernel
theorem dX4_as_7 : decode cX4_as 7 = .ok (.ifCond .eq 16, 3) := by decide +kernel
theorem dX4_as_10 : decode cX4_as 10 = .ok (.iload_n 1, 1) := by decide +kernel
theorem dX4_as_11 : decode cX4_as 11 = .ok (.iconst (-1), 1) := by decide +kernel
theorem dX4_as_12 : decode cX4_as 12 = .ok (.if_icmp .eq 13, 3) := by decide +kernel
theorem dX4_as_15 : decode cX4_as 15 = .ok (.aload_n 0, 1) := by decide +kernel
theorem dX4_as_16 : decode cX4_as 16 = .ok (.iload_n 1, 1) := by decide +kernel
theorem dX4_as_17 : decode cX4_as 17 = .ok (.invokevirtual 78, 3) := by decide +kernel
theorem dX4_as_20 : decode cX4_as 20 = .ok (.ifCond .ne 5, 3) := by decide +kernel
theorem dX4_as_23 : decode cX4_as 23 = .ok (.iconst (-1), 1) := by decide +kernel
theorem dX4_as_24 : decode cX4_as 24 = .ok (.ireturn, 1) := by decide +kernel
theorem dX4_as_25 : decode cX4_as 25 = .ok (.iload_n 1, 1) := by decide +kernel
theorem dX4_as_26 : decode cX4_as 26 = .ok (.iconst (-1), 1) := by decide +kernel
theorem dX4_as_27 : decode cX4_as 27 = .ok (.if_icmp .eq 12, 3) := by decide +kernel
theorem dX4_as_30 : decode cX4_as 30 = .ok (.aload_n 0, 1) := by decide +kernel
theorem dX4_as_31 : decode cX4_as 31 = .ok (.iload_n 1, 1) := by decide +kernel
theorem dX4_as_32 : decode cX4_as 32 = .ok (.iload_n 2, 1) := by decide +kernel
theorem dX4_as_33 : decode cX4_as 33 = .ok (.invokevirtual 86, 3) := by decide +kernel
theorem dX4_as_36 : decode cX4_as 36 = .ok (.ifCond .eq 7, 3) := by decide +kernel
theorem dX4_as_39 : decode cX4_as 39 = .ok (.iconst 0, 1) := by decide +kernel
theorem dX4_as_40 : decode cX4_as 40 = .ok (.goto 4, 3) := by decide +kernel
theorem dX4_as_43 : decode cX4_as 43 = .ok (.iconst 1, 1) := by decide +kernel
theorem dX4_as_44 : decode cX4_as 44 = .ok (.ireturn, 1) := by decide +kernel
theorem dX4_beginWalk_0 : decode cX4_beginWalk 0 = .ok (.iconst 0, 1) := by decide +kernel
theorem dX4_beginWalk_1 : decode cX4_beginWalk 1 = .ok (.istore_n 1, 1) := by decide +kernel
theorem dX4_beginWalk_2 : decode cX4_beginWalk 2 = .ok (.iload_n 1, 1) := by decide +kernel
theorem dX4_beginWalk_3 : decode cX4_beginWalk 3 = .ok (.aload_n 0, 1) := by decide +kernel
theorem dX4_beginWalk_4 : decode cX4_beginWalk 4 = .ok (.getfield 57, 3) := by decide +kernel
theorem dX4_beginWalk_7 : decode cX4_beginWalk 7 = .ok (.if_icmp .ge 16, 3) := by decide +kernel
theorem dX4_beginWalk_10 : decode cX4_beginWalk 10 = .ok (.aload_n 0, 1) := by decide +kernel
theorem dX4_beginWalk_11 : decode cX4_beginWalk 11 = .ok (.getfield 27, 3) := by decide +kernel
theorem dX4_beginWalk_14 : decode cX4_beginWalk 14 = .ok (.iload_n 1, 1) := by decide +kernel
theorem dX4_beginWalk_15 : decode cX4_beginWalk 15 = .ok (.iconst 0, 1) := by decide +kernel
theorem dX4_beginWalk_16 : decode cX4_beginWalk 16 = .ok (.iastore, 1) := by decide +kernel
theorem dX4_beginWalk_17 : decode cX4_beginWalk 17 = .ok (.iinc 1 1, 3) := by decide +kernel
theorem dX4_beginWalk_20 : decode cX4_beginWalk 20 = .ok (.goto (-18), 3) := by decide +kernel
theorem dX4_beginWalk_23 : decode cX4_beginWalk 23 = .ok (.aload_n 0, 1) := by decide +kernel
theorem dX4_beginWalk_24 : decode cX4_beginWalk 24 = .ok (.iconst 0, 1) := by decide +kernel
theorem dX4_beginWalk_25 : decode cX4_beginWalk 25 = .ok (.putfield 100, 3) := by decide +kernel
theorem dX4_beginWalk_28 : decode cX4_beginWalk 28 = .ok (.aload_n 0, 1) := by decide +kernel
theorem dX4_beginWalk_29 : decode cX4_beginWalk 29 = .ok (.iconst 0, 1) := by decide +kernel
theorem dX4_beginWalk_30 : decode cX4_beginWalk 30 = .ok (.putfield 103, 3) := by decide +kernel
theorem dX4_beginWalk_33 : decode cX4_beginWalk 33 = .ok (.return_, 1) := by decide +kernel
theorem dX4_walk_0 : decode cX4_walk 0 = .ok (.aload_n 0, 1) := by decide +kernel
theorem dX4_walk_1 : decode cX4_walk 1 = .ok (.getfield 27, 3) := by decide +kernel
theorem dX4_walk_4 : decode cX4_walk 4 = .ok (.iload_n 1, 1) := by decide +kernel
theorem dX4_walk_5 : decode cX4_walk 5 = .ok (.iaload, 1) := by decide +kernel
theorem dX4_walk_6 : decode cX4_walk 6 = .ok (.iconst 2, 1) := by decide +kernel
theorem dX4_walk_7 : decode cX4_walk 7 = .ok (.if_icmp .ne 5, 3) := by decide +kernel
theorem dX4_walk_10 : decode cX4_walk 10 = .ok (.iconst 1, 1) := by decide +kernel
theorem dX4_walk_11 : decode cX4_walk 11 = .ok (.ireturn, 1) := by decide +kernel
theorem dX4_walk_12 : decode cX4_walk 12 = .ok (.iconst 0, 1) := by decide +kernel
theorem dX4_walk_13 : decode cX4_walk 13 = .ok (.istore_n 2, 1) := by decide +kernel
theorem dX4_walk_14 : decode cX4_walk 14 = .ok (.aload_n 0, 1) := by decide +kernel
theorem dX4_walk_15 : decode cX4_walk 15 = .ok (.iload_n 1, 1) := by decide +kernel
theorem dX4_walk_16 : decode cX4_walk 16 = .ok (.iload_n 2, 1) := by decide +kernel
theorem dX4_walk_17 : decode cX4_walk 17 = .ok (.invokevirtual 106, 3) := by decide +kernel
theorem dX4_walk_20 : decode cX4_walk 20 = .ok (.iload_n 2, 1) := by decide +kernel
theorem dX4_walk_21 : decode cX4_walk 21 = .ok (.ifCond .lt 128, 3) := by decide +kernel
theorem dX4_walk_24 : decode cX4_walk 24 = .ok (.aload_n 0, 1) := by decide +kernel
theorem dX4_walk_25 : decode cX4_walk 25 = .ok (.getfield 36, 3) := by decide +kernel
theorem dX4_walk_28 : decode cX4_walk 28 = .ok (.iload_n 2, 1) := by decide +kernel
theorem dX4_walk_29 : decode cX4_walk 29 = .ok (.iaload, 1) := by decide +kernel
theorem dX4_walk_30 : decode cX4_walk 30 = .ok (.istore_n 3, 1) := by decide +kernel
theorem dX4_walk_31 : decode cX4_walk 31 = .ok (.aload_n 0, 1) := by decide +kernel
theorem dX4_walk_32 : decode cX4_walk 32 = .ok (.getfield 39, 3) := by decide +kernel
theorem dX4_walk_35 : decode cX4_walk 35 = .ok (.iload_n 2, 1) := by decide +kernel
theorem dX4_walk_36 : decode cX4_walk 36 = .ok (.iaload, 1) := by decide +kernel
theorem dX4_walk_37 : decode cX4_walk 37 = .ok (.aload_n 0, 1) := by decide +kernel
theorem dX4_walk_38 : decode cX4_walk 38 = .ok (.iload_n 3, 1) := by decide +kernel
theorem dX4_walk_39 : decode cX4_walk 39 = .ok (.invokevirtual 110, 3) := by decide +kernel
theorem dX4_walk_42 : decode cX4_walk 42 = .ok (.if_icmp .ne 36, 3) := by decide +kernel
theorem dX4_walk_45 : decode cX4_walk 45 = .ok (.aload_n 0, 1) := by decide +kernel
theorem dX4_walk_46 : decode cX4_walk 46 = .ok (.getfield 27, 3) := by decide +kernel
theorem dX4_walk_49 : decode cX4_walk 49 = .ok (.iload_n 3, 1) := by decide +kernel
theorem dX4_walk_50 : decode cX4_walk 50 = .ok (.iconst 2, 1) := by decide +kernel
theorem dX4_walk_51 : decode cX4_walk 51 = .ok (.iastore, 1) := by decide +kernel
theorem dX4_walk_52 : decode cX4_walk 52 = .ok (.aload_n 0, 1) := by decide +kernel
theorem dX4_walk_53 : decode cX4_walk 53 = .ok (.getfield 33, 3) := by decide +kernel
theorem dX4_walk_56 : decode cX4_walk 56 = .ok (.aload_n 0, 1) := by decide +kernel
theorem dX4_walk_57 : decode cX4_walk 57 = .ok (.getfield 103, 3) := by decide +kernel
theorem dX4_walk_60 : decode cX4_walk 60 = .ok (.iload_n 3, 1) := by decide +kernel
theorem dX4_walk_61 : decode cX4_walk 61 = .ok (.iastore, 1) := by decide +kernel
theorem dX4_walk_62 : decode cX4_walk 62 = .ok (.aload_n 0, 1) := by decide +kernel
theorem dX4_walk_63 : decode cX4_walk 63 = .ok (.dup, 1) := by decide +kernel
theorem dX4_walk_64 : decode cX4_walk 64 = .ok (.getfield 103, 3) := by decide +kernel
theorem dX4_walk_67 : decode cX4_walk 67 = .ok (.iconst 1, 1) := by decide +kernel
theorem dX4_walk_68 : decode cX4_walk 68 = .ok (.iadd, 1) := by decide +kernel
theorem dX4_walk_69 : decode cX4_walk 69 = .ok (.putfield 103, 3) := by decide +kernel
theorem dX4_walk_72 : decode cX4_walk 72 = .ok (.iinc 2 (-1), 3) := by decide +kernel
theorem dX4_walk_75 : decode cX4_walk 75 = .ok (.goto (-55), 3) := by decide +kernel
theorem dX4_walk_78 : decode cX4_walk 78 = .ok (.aload_n 0, 1) := by decide +kernel
theorem dX4_walk_79 : decode cX4_walk 79 = .ok (.iload_n 3, 1) := by decide +kernel
theorem dX4_walk_80 : decode cX4_walk 80 = .ok (.aload_n 0, 1) := by decide +kernel
theorem dX4_walk_81 : decode cX4_walk 81 = .ok (.getfield 39, 3) := by decide +kernel
theorem dX4_walk_84 : decode cX4_walk 84 = .ok (.iload_n 2, 1) := by decide +kernel
theorem dX4_walk_85 : decode cX4_walk 85 = .ok (.iaload, 1) := by decide +kernel
theorem dX4_walk_86 : decode cX4_walk 86 = .ok (.invokevirtual 96, 3) := by decide +kernel
theorem dX4_walk_89 : decode cX4_walk 89 = .ok (.istore 4, 2) := by decide +kernel
theorem dX4_walk_91 : decode cX4_walk 91 = .ok (.aload_n 0, 1) := by decide +kernel
theorem dX4_walk_92 : decode cX4_walk 92 = .ok (.getfield 39, 3) := by decide +kernel
theorem dX4_walk_95 : decode cX4_walk 95 = .ok (.iload_n 2, 1) := by decide +kernel
theorem dX4_walk_96 : decode cX4_walk 96 = .ok (.dup2, 1) := by decide +kernel
theorem dX4_walk_97 : decode cX4_walk 97 = .ok (.iaload, 1) := by decide +kernel
theorem dX4_walk_98 : decode cX4_walk 98 = .ok (.iconst 1, 1) := by decide +kernel
theorem dX4_walk_99 : decode cX4_walk 99 = .ok (.iadd, 1) := by decide +kernel
theorem dX4_walk_100 : decode cX4_walk 100 = .ok (.iastore, 1) := by decide +kernel
theorem dX4_walk_101 : decode cX4_walk 101 = .ok (.iload 4, 2) := by decide +kernel
theorem dX4_walk_103 : decode cX4_walk 103 = .ok (.iconst (-1), 1) := by decide +kernel
theorem dX4_walk_104 : decode cX4_walk 104 = .ok (.if_icmp .eq 16, 3) := by decide +kernel
theorem dX4_walk_107 : decode cX4_walk 107 = .ok (.aload_n 0, 1) := by decide +kernel
theorem dX4_walk_108 : decode cX4_walk 108 = .ok (.getfield 27, 3) := by decide +kernel
theorem dX4_walk_111 : decode cX4_walk 111 = .ok (.iload 4, 2) := by decide +kernel
theorem dX4_walk_113 : decode cX4_walk 113 = .ok (.iaload, 1) := by decide +kernel
theorem dX4_walk_114 : decode cX4_walk 114 = .ok (.iconst 1, 1) := by decide +kernel
theorem dX4_walk_115 : decode cX4_walk 115 = .ok (.if_icmp .ne 5, 3) := by decide +kernel
theorem dX4_walk_118 : decode cX4_walk 118 = .ok (.iconst 0, 1) := by decide +kernel
theorem dX4_walk_119 : decode cX4_walk 119 = .ok (.ireturn, 1) := by decide +kernel
theorem dX4_walk_120 : decode cX4_walk 120 = .ok (.iload 4, 2) := by decide +kernel
theorem dX4_walk_122 : decode cX4_walk 122 = .ok (.iconst (-1), 1) := by decide +kernel
theorem dX4_walk_123 : decode cX4_walk 123 = .ok (.if_icmp .eq 23, 3) := by decide +kernel
theorem dX4_walk_126 : decode cX4_walk 126 = .ok (.aload_n 0, 1) := by decide +kernel
theorem dX4_walk_127 : decode cX4_walk 127 = .ok (.getfield 27, 3) := by decide +kernel
theorem dX4_walk_130 : decode cX4_walk 130 = .ok (.iload 4, 2) := by decide +kernel
theorem dX4_walk_132 : decode cX4_walk 132 = .ok (.iaload, 1) := by decide +kernel
theorem dX4_walk_133 : decode cX4_walk 133 = .ok (.ifCond .ne 13, 3) := by decide +kernel
theorem dX4_walk_136 : decode cX4_walk 136 = .ok (.iinc 2 1, 3) := by decide +kernel
theorem dX4_walk_139 : decode cX4_walk 139 = .ok (.aload_n 0, 1) := by decide +kernel
theorem dX4_walk_140 : decode cX4_walk 140 = .ok (.iload 4, 2) := by decide +kernel
theorem dX4_walk_142 : decode cX4_walk 142 = .ok (.iload_n 2, 1) := by decide +kernel
theorem dX4_walk_143 : decode cX4_walk 143 = .ok (.invokevirtual 106, 3) := by decide +kernel
theorem dX4_walk_146 : decode cX4_walk 146 = .ok (.goto (-126), 3) := by decide +kernel
theorem dX4_walk_149 : decode cX4_walk 149 = .ok (.iconst 1, 1) := by decide +kernel
theorem dX4_walk_150 : decode cX4_walk 150 = .ok (.ireturn, 1) := by decide +kernel
theorem dX4_comeTo_0 : decode cX4_comeTo 0 = .ok (.aload_n 0, 1) := by decide +kernel
theorem dX4_comeTo_1 : decode cX4_comeTo 1 = .ok (.getfield 27, 3) := by decide +kernel
theorem dX4_comeTo_4 : decode cX4_comeTo 4 = .ok (.iload_n 1, 1) := by decide +kernel
theorem dX4_comeTo_5 : decode cX4_comeTo 5 = .ok (.iconst 1, 1) := by decide +kernel
theorem dX4_comeTo_6 : decode cX4_comeTo 6 = .ok (.iastore, 1) := by decide +kernel
theorem dX4_comeTo_7 : decode cX4_comeTo 7 = .ok (.aload_n 0, 1) := by decide +kernel
theorem dX4_comeTo_8 : decode cX4_comeTo 8 = .ok (.getfield 30, 3) := by decide +kernel
theorem dX4_comeTo_11 : decode cX4_comeTo 11 = .ok (.aload_n 0, 1) := by decide +kernel
theorem dX4_comeTo_12 : decode cX4_comeTo 12 = .ok (.getfield 100, 3) := by decide +kernel
theorem dX4_comeTo_15 : decode cX4_comeTo 15 = .ok (.iload_n 1, 1) := by decide +kernel
theorem dX4_comeTo_16 : decode cX4_comeTo 16 = .ok (.iastore, 1) := by decide +kernel
theorem dX4_comeTo_17 : decode cX4_comeTo 17 = .ok (.aload_n 0, 1) := by decide +kernel
theorem dX4_comeTo_18 : decode cX4_comeTo 18 = .ok (.dup, 1) := by decide +kernel
theorem dX4_comeTo_19 : decode cX4_comeTo 19 = .ok (.getfield 100, 3) := by decide +kernel
theorem dX4_comeTo_22 : decode cX4_comeTo 22 = .ok (.iconst 1, 1) := by decide +kernel
theorem dX4_comeTo_23 : decode cX4_comeTo 23 = .ok (.iadd, 1) := by decide +kernel
theorem dX4_comeTo_24 : decode cX4_comeTo 24 = .ok (.putfield 100, 3) := by decide +kernel
theorem dX4_comeTo_27 : decode cX4_comeTo 27 = .ok (.aload_n 0, 1) := by decide +kernel
theorem dX4_comeTo_28 : decode cX4_comeTo 28 = .ok (.getfield 36, 3) := by decide +kernel
theorem dX4_comeTo_31 : decode cX4_comeTo 31 = .ok (.iload_n 2, 1) := by decide +kernel
theorem dX4_comeTo_32 : decode cX4_comeTo 32 = .ok (.iload_n 1, 1) := by decide +kernel
theorem dX4_comeTo_33 : decode cX4_comeTo 33 = .ok (.iastore, 1) := by decide +kernel
theorem dX4_comeTo_34 : decode cX4_comeTo 34 = .ok (.aload_n 0, 1) := by decide +kernel
theorem dX4_comeTo_35 : decode cX4_comeTo 35 = .ok (.getfield 39, 3) := by decide +kernel
theorem dX4_comeTo_38 : decode cX4_comeTo 38 = .ok (.iload_n 2, 1) := by decide +kernel
theorem dX4_comeTo_39 : decode cX4_comeTo 39 = .ok (.iconst 0, 1) := by decide +kernel
theorem dX4_comeTo_40 : decode cX4_comeTo 40 = .ok (.iastore, 1) := by decide +kernel
theorem dX4_comeTo_41 : decode cX4_comeTo 41 = .ok (.return_, 1) := by decide +kernel
theorem dX4_workDepths_0 : decode cX4_workDepths 0 = .ok (.iconst 0, 1) := by decide +kernel
theorem dX4_workDepths_1 : decode cX4_workDepths 1 = .ok (.istore_n 1, 1) := by decide +kernel
theorem dX4_workDepths_2 : decode cX4_workDepths 2 = .ok (.iload_n 1, 1) := by decide +kernel
theorem dX4_workDepths_3 : decode cX4_workDepths 3 = .ok (.aload_n 0, 1) := by decide +kernel
theorem dX4_workDepths_4 : decode cX4_workDepths 4 = .ok (.getfield 103, 3) := by decide +kernel
theorem dX4_workDepths_7 : decode cX4_workDepths 7 = .ok (.if_icmp .ge 84, 3) := by decide +kernel
theorem dX4_workDepths_10 : decode cX4_workDepths 10 = .ok (.aload_n 0, 1) := by decide +kernel
theorem dX4_workDepths_11 : decode cX4_workDepths 11 = .ok (.getfield 33, 3) := by decide +kernel
theorem dX4_workDepths_14 : decode cX4_workDepths 14 = .ok (.iload_n 1, 1) := by decide +kernel
theorem dX4_workDepths_15 : decode cX4_workDepths 15 = .ok (.iaload, 1) := by decide +kernel
theorem dX4_workDepths_16 : decode cX4_workDepths 16 = .ok (.istore_n 2, 1) := by decide +kernel
theorem dX4_workDepths_17 : decode cX4_workDepths 17 = .ok (.iconst 0, 1) := by decide +kernel
theorem dX4_workDepths_18 : decode cX4_workDepths 18 = .ok (.istore_n 3, 1) := by decide +kernel
theorem dX4_workDepths_19 : decode cX4_workDepths 19 = .ok (.iconst 0, 1) := by decide +kernel
theorem dX4_workDepths_20 : decode cX4_workDepths 20 = .ok (.istore 4, 2) := by decide +kernel
theorem dX4_workDepths_22 : decode cX4_workDepths 22 = .ok (.iload 4, 2) := by decide +kernel
theorem dX4_workDepths_24 : decode cX4_workDepths 24 = .ok (.aload_n 0, 1) := by decide +kernel
theorem dX4_workDepths_25 : decode cX4_workDepths 25 = .ok (.iload_n 2, 1) := by decide +kernel
theorem dX4_workDepths_26 : decode cX4_workDepths 26 = .ok (.invokevirtual 110, 3) := by decide +kernel
theorem dX4_workDepths_29 : decode cX4_workDepths 29 = .ok (.if_icmp .ge 47, 3) := by decide +kernel
theorem dX4_workDepths_32 : decode cX4_workDepths 32 = .ok (.aload_n 0, 1) := by decide +kernel
theorem dX4_workDepths_33 : decode cX4_workDepths 33 = .ok (.iload_n 2, 1) := by decide +kernel
theorem dX4_workDepths_34 : decode cX4_workDepths 34 = .ok (.iload 4, 2) := by decide +kernel
theorem dX4_workDepths_36 : decode cX4_workDepths 36 = .ok (.invokevirtual 96, 3) := by decide +kernel
theorem dX4_workDepths_39 : decode cX4_workDepths 39 = .ok (.istore 5, 2) := by decide +kernel
theorem dX4_workDepths_41 : decode cX4_workDepths 41 = .ok (.iload 5, 2) := by decide +kernel
theorem dX4_workDepths_43 : decode cX4_workDepths 43 = .ok (.iconst (-1), 1) := by decide +kernel
theorem dX4_workDepths_44 : decode cX4_workDepths 44 = .ok (.if_icmp .eq 24, 3) := by decide +kernel
theorem dX4_workDepths_47 : decode cX4_workDepths 47 = .ok (.aload_n 0, 1) := by decide +kernel
theorem dX4_workDepths_48 : decode cX4_workDepths 48 = .ok (.getfield 42, 3) := by decide +kernel
theorem dX4_workDepths_51 : decode cX4_workDepths 51 = .ok (.iload 5, 2) := by decide +kernel
theorem dX4_workDepths_53 : decode cX4_workDepths 53 = .ok (.iaload, 1) := by decide +kernel
theorem dX4_workDepths_54 : decode cX4_workDepths 54 = .ok (.iload_n 3, 1) := by decide +kernel
theorem dX4_workDepths_55 : decode cX4_workDepths 55 = .ok (.if_icmp .le 13, 3) := by decide +kernel
theorem dX4_workDepths_58 : decode cX4_workDepths 58 = .ok (.aload_n 0, 1) := by decide +kernel
theorem dX4_workDepths_59 : decode cX4_workDepths 59 = .ok (.getfield 42, 3) := by decide +kernel
theorem dX4_workDepths_62 : decode cX4_workDepths 62 = .ok (.iload 5, 2) := by decide +kernel
theorem dX4_workDepths_64 : decode cX4_workDepths 64 = .ok (.iaload, 1) := by decide +kernel
theorem dX4_workDepths_65 : decode cX4_workDepths 65 = .ok (.goto 4, 3) := by decide +kernel
theorem dX4_workDepths_68 : decode cX4_workDepths 68 = .ok (.iload_n 3, 1) := by decide +kernel
theorem dX4_workDepths_69 : decode cX4_workDepths 69 = .ok (.istore_n 3, 1) := by decide +kernel
theorem dX4_workDepths_70 : decode cX4_workDepths 70 = .ok (.iinc 4 1, 3) := by decide +kernel
theorem dX4_workDepths_73 : decode cX4_workDepths 73 = .ok (.goto (-51), 3) := by decide +kernel
theorem dX4_workDepths_76 : decode cX4_workDepths 76 = .ok (.aload_n 0, 1) := by decide +kernel
theorem dX4_workDepths_77 : decode cX4_workDepths 77 = .ok (.getfield 42, 3) := by decide +kernel
theorem dX4_workDepths_80 : decode cX4_workDepths 80 = .ok (.iload_n 2, 1) := by decide +kernel
theorem dX4_workDepths_81 : decode cX4_workDepths 81 = .ok (.iload_n 3, 1) := by decide +kernel
theorem dX4_workDepths_82 : decode cX4_workDepths 82 = .ok (.iconst 1, 1) := by decide +kernel
theorem dX4_workDepths_83 : decode cX4_workDepths 83 = .ok (.iadd, 1) := by decide +kernel
theorem dX4_workDepths_84 : decode cX4_workDepths 84 = .ok (.iastore, 1) := by decide +kernel
theorem dX4_workDepths_85 : decode cX4_workDepths 85 = .ok (.iinc 1 1, 3) := by decide +kernel
theorem dX4_workDepths_88 : decode cX4_workDepths 88 = .ok (.goto (-86), 3) := by decide +kernel
theorem dX4_workDepths_91 : decode cX4_workDepths 91 = .ok (.return_, 1) := by decide +kernel
theorem dX4_goThrough_0 : decode cX4_goThrough 0 = .ok (.aload_n 0, 1) := by decide +kernel
theorem dX4_goThrough_1 : decode cX4_goThrough 1 = .ok (.iload_n 1, 1) := by decide +kernel
theorem dX4_goThrough_2 : decode cX4_goThrough 2 = .ok (.invokevirtual 78, 3) := by decide +kernel
theorem dX4_goThrough_5 : decode cX4_goThrough 5 = .ok (.ifCond .ne 5, 3) := by decide +kernel
theorem dX4_goThrough_8 : decode cX4_goThrough 8 = .ok (.iconst 1, 1) := by decide +kernel
theorem dX4_goThrough_9 : decode cX4_goThrough 9 = .ok (.ireturn, 1) := by decide +kernel
theorem dX4_goThrough_10 : decode cX4_goThrough 10 = .ok (.aload_n 0, 1) := by decide +kernel
theorem dX4_goThrough_11 : decode cX4_goThrough 11 = .ok (.invokevirtual 114, 3) := by decide +kernel
theorem dX4_goThrough_14 : decode cX4_goThrough 14 = .ok (.aload_n 0, 1) := by decide +kernel
theorem dX4_goThrough_15 : decode cX4_goThrough 15 = .ok (.iload_n 1, 1) := by decide +kernel
theorem dX4_goThrough_16 : decode cX4_goThrough 16 = .ok (.invokevirtual 117, 3) := by decide +kernel
theorem dX4_goThrough_19 : decode cX4_goThrough 19 = .ok (.ifCond .ne 5, 3) := by decide +kernel
theorem dX4_goThrough_22 : decode cX4_goThrough 22 = .ok (.iconst 5, 1) := by decide +kernel
theorem dX4_goThrough_23 : decode cX4_goThrough 23 = .ok (.ireturn, 1) := by decide +kernel
theorem dX4_goThrough_24 : decode cX4_goThrough 24 = .ok (.aload_n 0, 1) := by decide +kernel
theorem dX4_goThrough_25 : decode cX4_goThrough 25 = .ok (.invokevirtual 120, 3) := by decide +kernel
theorem dX4_goThrough_28 : decode cX4_goThrough 28 = .ok (.aload_n 0, 1) := by decide +kernel
theorem dX4_goThrough_29 : decode cX4_goThrough 29 = .ok (.getfield 42, 3) := by decide +kernel
theorem dX4_goThrough_32 : decode cX4_goThrough 32 = .ok (.iload_n 1, 1) := by decide +kernel
theorem dX4_goThrough_33 : decode cX4_goThrough 33 = .ok (.iaload, 1) := by decide +kernel
theorem dX4_goThrough_34 : decode cX4_goThrough 34 = .ok (.sipush 400, 3) := by decide +kernel
theorem dX4_goThrough_37 : decode cX4_goThrough 37 = .ok (.if_icmp .le 8, 3) := by decide +kernel
theorem dX4_goThrough_40 : decode cX4_goThrough 40 = .ok (.bipush 6, 2) := by decide +kernel
theorem dX4_goThrough_42 : decode cX4_goThrough 42 = .ok (.goto 4, 3) := by decide +kernel
theorem dX4_goThrough_45 : decode cX4_goThrough 45 = .ok (.iconst 0, 1) := by decide +kernel
theorem dX4_goThrough_46 : decode cX4_goThrough 46 = .ok (.ireturn, 1) := by decide +kernel
theorem dX4_own_0 : decode cX4_own 0 = .ok (.aload_n 0, 1) := by decide +kernel
theorem dX4_own_1 : decode cX4_own 1 = .ok (.getfield 7, 3) := by decide +kernel
theorem dX4_own_4 : decode cX4_own 4 = .ok (.iload_n 1, 1) := by decide +kernel
theorem dX4_own_5 : decode cX4_own 5 = .ok (.iaload, 1) := by decide +kernel
theorem dX4_own_6 : decode cX4_own 6 = .ok (.bipush 7, 2) := by decide +kernel
theorem dX4_own_8 : decode cX4_own 8 = .ok (.if_icmp .lt 13, 3) := by decide +kernel
theorem dX4_own_11 : decode cX4_own 11 = .ok (.aload_n 0, 1) := by decide +kernel
theorem dX4_own_12 : decode cX4_own 12 = .ok (.getfield 16, 3) := by decide +kernel
theorem dX4_own_15 : decode cX4_own 15 = .ok (.iload_n 1, 1) := by decide +kernel
theorem dX4_own_16 : decode cX4_own 16 = .ok (.iaload, 1) := by decide +kernel
theorem dX4_own_17 : decode cX4_own 17 = .ok (.i2l, 1) := by decide +kernel
theorem dX4_own_18 : decode cX4_own 18 = .ok (.goto 4, 3) := by decide +kernel
theorem dX4_own_21 : decode cX4_own 21 = .ok (.lconst 0, 1) := by decide +kernel
theorem dX4_own_22 : decode cX4_own 22 = .ok (.lstore_n 2, 1) := by decide +kernel
theorem dX4_own_23 : decode cX4_own 23 = .ok (.iconst 0, 1) := by decide +kernel
theorem dX4_own_24 : decode cX4_own 24 = .ok (.istore 4, 2) := by decide +kernel
theorem dX4_own_26 : decode cX4_own 26 = .ok (.aload_n 0, 1) := by decide +kernel
theorem dX4_own_27 : decode cX4_own 27 = .ok (.getfield 7, 3) := by decide +kernel
theorem dX4_own_30 : decode cX4_own 30 = .ok (.iload_n 1, 1) := by decide +kernel
theorem dX4_own_31 : decode cX4_own 31 = .ok (.iaload, 1) := by decide +kernel
theorem dX4_own_32 : decode cX4_own 32 = .ok (.invokestatic 81, 3) := by decide +kernel
theorem dX4_own_35 : decode cX4_own 35 = .ok (.ifCond .eq 37, 3) := by decide +kernel
theorem dX4_own_38 : decode cX4_own 38 = .ok (.iload 4, 2) := by decide +kernel
theorem dX4_own_40 : decode cX4_own 40 = .ok (.aload_n 0, 1) := by decide +kernel
theorem dX4_own_41 : decode cX4_own 41 = .ok (.getfield 13, 3) := by decide +kernel
theorem dX4_own_44 : decode cX4_own 44 = .ok (.iload_n 1, 1) := by decide +kernel
theorem dX4_own_45 : decode cX4_own 45 = .ok (.iaload, 1) := by decide +kernel
theorem dX4_own_46 : decode cX4_own 46 = .ok (.if_icmp .ge 26, 3) := by decide +kernel
theorem dX4_own_49 : decode cX4_own 49 = .ok (.lload_n 2, 1) := by decide +kernel
theorem dX4_own_50 : decode cX4_own 50 = .ok (.aload_n 0, 1) := by decide +kernel
theorem dX4_own_51 : decode cX4_own 51 = .ok (.getfield 23, 3) := by decide +kernel
theorem dX4_own_54 : decode cX4_own 54 = .ok (.aload_n 0, 1) := by decide +kernel
theorem dX4_own_55 : decode cX4_own 55 = .ok (.getfield 19, 3) := by decide +kernel
theorem dX4_own_58 : decode cX4_own 58 = .ok (.iload_n 1, 1) := by decide +kernel
theorem dX4_own_59 : decode cX4_own 59 = .ok (.iaload, 1) := by decide +kernel
theorem dX4_own_60 : decode cX4_own 60 = .ok (.iload 4, 2) := by decide +kernel
theorem dX4_own_62 : decode cX4_own 62 = .ok (.iadd, 1) := by decide +kernel
theorem dX4_own_63 : decode cX4_own 63 = .ok (.laload, 1) := by decide +kernel
theorem dX4_own_64 : decode cX4_own 64 = .ok (.ladd, 1) := by decide +kernel
theorem dX4_own_65 : decode cX4_own 65 = .ok (.lstore_n 2, 1) := by decide +kernel
theorem dX4_own_66 : decode cX4_own 66 = .ok (.iinc 4 1, 3) := by decide +kernel
theorem dX4_own_69 : decode cX4_own 69 = .ok (.goto (-43), 3) := by decide +kernel
theorem dX4_own_72 : decode cX4_own 72 = .ok (.lload_n 2, 1) := by decide +kernel
theorem dX4_own_73 : decode cX4_own 73 = .ok (.lreturn, 1) := by decide +kernel
theorem dX4_weight_0 : decode cX4_weight 0 = .ok (.aload_n 0, 1) := by decide +kernel
theorem dX4_weight_1 : decode cX4_weight 1 = .ok (.aload_n 0, 1) := by decide +kernel
theorem dX4_weight_2 : decode cX4_weight 2 = .ok (.iload_n 1, 1) := by decide +kernel
theorem dX4_weight_3 : decode cX4_weight 3 = .ok (.invokevirtual 123, 3) := by decide +kernel
theorem dX4_weight_6 : decode cX4_weight 6 = .ok (.putfield 93, 3) := by decide +kernel
theorem dX4_weight_9 : decode cX4_weight 9 = .ok (.aload_n 0, 1) := by decide +kernel
theorem dX4_weight_10 : decode cX4_weight 10 = .ok (.getfield 93, 3) := by decide +kernel
theorem dX4_weight_13 : decode cX4_weight 13 = .ok (.ifCond .eq 7, 3) := by decide +kernel
theorem dX4_weight_16 : decode cX4_weight 16 = .ok (.ldc2_w 72, 3) := by decide +kernel
theorem dX4_weight_19 : decode cX4_weight 19 = .ok (.lreturn, 1) := by decide +kernel
theorem dX4_weight_20 : decode cX4_weight 20 = .ok (.iconst 0, 1) := by decide +kernel
theorem dX4_weight_21 : decode cX4_weight 21 = .ok (.istore_n 2, 1) := by decide +kernel
theorem dX4_weight_22 : decode cX4_weight 22 = .ok (.iload_n 2, 1) := by decide +kernel
theorem dX4_weight_23 : decode cX4_weight 23 = .ok (.aload_n 0, 1) := by decide +kernel
theorem dX4_weight_24 : decode cX4_weight 24 = .ok (.getfield 103, 3) := by decide +kernel
theorem dX4_weight_27 : decode cX4_weight 27 = .ok (.if_icmp .ge 82, 3) := by decide +kernel
theorem dX4_weight_30 : decode cX4_weight 30 = .ok (.aload_n 0, 1) := by decide +kernel
theorem dX4_weight_31 : decode cX4_weight 31 = .ok (.getfield 33, 3) := by decide +kernel
theorem dX4_weight_34 : decode cX4_weight 34 = .ok (.iload_n 2, 1) := by decide +kernel
theorem dX4_weight_35 : decode cX4_weight 35 = .ok (.iaload, 1) := by decide +kernel
theorem dX4_weight_36 : decode cX4_weight 36 = .ok (.istore_n 3, 1) := by decide +kernel
theorem dX4_weight_37 : decode cX4_weight 37 = .ok (.aload_n 0, 1) := by decide +kernel
theorem dX4_weight_38 : decode cX4_weight 38 = .ok (.getfield 45, 3) := by decide +kernel
theorem dX4_weight_41 : decode cX4_weight 41 = .ok (.iload_n 3, 1) := by decide +kernel
theorem dX4_weight_42 : decode cX4_weight 42 = .ok (.aload_n 0, 1) := by decide +kernel
theorem dX4_weight_43 : decode cX4_weight 43 = .ok (.iload_n 3, 1) := by decide +kernel
theorem dX4_weight_44 : decode cX4_weight 44 = .ok (.invokevirtual 126, 3) := by decide +kernel
theorem dX4_weight_47 : decode cX4_weight 47 = .ok (.lastore, 1) := by decide +kernel
theorem dX4_weight_48 : decode cX4_weight 48 = .ok (.iconst 0, 1) := by decide +kernel
theorem dX4_weight_49 : decode cX4_weight 49 = .ok (.istore 4, 2) := by decide +kernel
theorem dX4_weight_51 : decode cX4_weight 51 = .ok (.iload 4, 2) := by decide +kernel
theorem dX4_weight_53 : decode cX4_weight 53 = .ok (.aload_n 0, 1) := by decide +kernel
theorem dX4_weight_54 : decode cX4_weight 54 = .ok (.iload_n 3, 1) := by decide +kernel
theorem dX4_weight_55 : decode cX4_weight 55 = .ok (.invokevirtual 110, 3) := by decide +kernel
theorem dX4_weight_58 : decode cX4_weight 58 = .ok (.if_icmp .ge 45, 3) := by decide +kernel
theorem dX4_weight_61 : decode cX4_weight 61 = .ok (.aload_n 0, 1) := by decide +kernel
theorem dX4_weight_62 : decode cX4_weight 62 = .ok (.getfield 45, 3) := by decide +kernel
theorem dX4_weight_65 : decode cX4_weight 65 = .ok (.iload_n 3, 1) := by decide +kernel
theorem dX4_weight_66 : decode cX4_weight 66 = .ok (.dup2, 1) := by decide +kernel
theorem dX4_weight_67 : decode cX4_weight 67 = .ok (.laload, 1) := by decide +kernel
theorem dX4_weight_68 : decode cX4_weight 68 = .ok (.aload_n 0, 1) := by decide +kernel
theorem dX4_weight_69 : decode cX4_weight 69 = .ok (.iload_n 3, 1) := by decide +kernel
theorem dX4_weight_70 : decode cX4_weight 70 = .ok (.iload 4, 2) := by decide +kernel
theorem dX4_weight_72 : decode cX4_weight 72 = .ok (.invokevirtual 96, 3) := by decide +kernel
theorem dX4_weight_75 : decode cX4_weight 75 = .ok (.iconst (-1), 1) := by decide +kernel
theorem dX4_weight_76 : decode cX4_weight 76 = .ok (.if_icmp .ne 7, 3) := by decide +kernel
theorem dX4_weight_79 : decode cX4_weight 79 = .ok (.lconst 0, 1) := by decide +kernel
theorem dX4_weight_80 : decode cX4_weight 80 = .ok (.goto 15, 3) := by decide +kernel
theorem dX4_weight_83 : decode cX4_weight 83 = .ok (.aload_n 0, 1) := by decide +kernel
theorem dX4_weight_84 : decode cX4_weight 84 = .ok (.getfield 45, 3) := by decide +kernel
theorem dX4_weight_87 : decode cX4_weight 87 = .ok (.aload_n 0, 1) := by decide +kernel
theorem dX4_weight_88 : decode cX4_weight 88 = .ok (.iload_n 3, 1) := by decide +kernel
theorem dX4_weight_89 : decode cX4_weight 89 = .ok (.iload 4, 2) := by decide +kernel
theorem dX4_weight_91 : decode cX4_weight 91 = .ok (.invokevirtual 96, 3) := by decide +kernel
theorem dX4_weight_94 : decode cX4_weight 94 = .ok (.laload, 1) := by decide +kernel
theorem dX4_weight_95 : decode cX4_weight 95 = .ok (.ladd, 1) := by decide +kernel
theorem dX4_weight_96 : decode cX4_weight 96 = .ok (.lastore, 1) := by decide +kernel
theorem dX4_weight_97 : decode cX4_weight 97 = .ok (.iinc 4 1, 3) := by decide +kernel
theorem dX4_weight_100 : decode cX4_weight 100 = .ok (.goto (-49), 3) := by decide +kernel
theorem dX4_weight_103 : decode cX4_weight 103 = .ok (.iinc 2 1, 3) := by decide +kernel
theorem dX4_weight_106 : decode cX4_weight 106 = .ok (.goto (-84), 3) := by decide +kernel
theorem dX4_weight_109 : decode cX4_weight 109 = .ok (.aload_n 0, 1) := by decide +kernel
theorem dX4_weight_110 : decode cX4_weight 110 = .ok (.getfield 45, 3) := by decide +kernel
theorem dX4_weight_113 : decode cX4_weight 113 = .ok (.iload_n 1, 1) := by decide +kernel
theorem dX4_weight_114 : decode cX4_weight 114 = .ok (.laload, 1) := by decide +kernel
theorem dX4_weight_115 : decode cX4_weight 115 = .ok (.lreturn, 1) := by decide +kernel
theorem dX4_depth_0 : decode cX4_depth 0 = .ok (.aload_n 0, 1) := by decide +kernel
theorem dX4_depth_1 : decode cX4_depth 1 = .ok (.aload_n 0, 1) := by decide +kernel
theorem dX4_depth_2 : decode cX4_depth 2 = .ok (.iload_n 1, 1) := by decide +kernel
theorem dX4_depth_3 : decode cX4_depth 3 = .ok (.invokevirtual 123, 3) := by decide +kernel
theorem dX4_depth_6 : decode cX4_depth 6 = .ok (.putfield 93, 3) := by decide +kernel
theorem dX4_depth_9 : decode cX4_depth 9 = .ok (.aload_n 0, 1) := by decide +kernel
theorem dX4_depth_10 : decode cX4_depth 10 = .ok (.getfield 93, 3) := by decide +kernel
theorem dX4_depth_13 : decode cX4_depth 13 = .ok (.ifCond .ne 12, 3) := by decide +kernel
theorem dX4_depth_16 : decode cX4_depth 16 = .ok (.aload_n 0, 1) := by decide +kernel
theorem dX4_depth_17 : decode cX4_depth 17 = .ok (.getfield 42, 3) := by decide +kernel
theorem dX4_depth_20 : decode cX4_depth 20 = .ok (.iload_n 1, 1) := by decide +kernel
theorem dX4_depth_21 : decode cX4_depth 21 = .ok (.iaload, 1) := by decide +kernel
theorem dX4_depth_22 : decode cX4_depth 22 = .ok (.goto 4, 3) := by decide +kernel
theorem dX4_depth_25 : decode cX4_depth 25 = .ok (.iconst (-1), 1) := by decide +kernel
theorem dX4_depth_26 : decode cX4_depth 26 = .ok (.ireturn, 1) := by decide +kernel
theorem dX4_ring_0 : decode cX4_ring 0 = .ok (.aload_n 0, 1) := by decide +kernel
theorem dX4_ring_1 : decode cX4_ring 1 = .ok (.iload_n 1, 1) := by decide +kernel
theorem dX4_ring_2 : decode cX4_ring 2 = .ok (.invokevirtual 78, 3) := by decide +kernel
theorem dX4_ring_5 : decode cX4_ring 5 = .ok (.ifCond .ne 5, 3) := by decide +kernel
theorem dX4_ring_8 : decode cX4_ring 8 = .ok (.iconst (-1), 1) := by decide +kernel
theorem dX4_ring_9 : decode cX4_ring 9 = .ok (.ireturn, 1) := by decide +kernel
theorem dX4_ring_10 : decode cX4_ring 10 = .ok (.aload_n 0, 1) := by decide +kernel
theorem dX4_ring_11 : decode cX4_ring 11 = .ok (.invokevirtual 114, 3) := by decide +kernel
theorem dX4_ring_14 : decode cX4_ring 14 = .ok (.iconst 0, 1) := by decide +kernel
theorem dX4_ring_15 : decode cX4_ring 15 = .ok (.istore_n 2, 1) := by decide +kernel
theorem dX4_ring_16 : decode cX4_ring 16 = .ok (.iload_n 1, 1) := by decide +kernel
theorem dX4_ring_17 : decode cX4_ring 17 = .ok (.istore_n 3, 1) := by decide +kernel
theorem dX4_ring_18 : decode cX4_ring 18 = .ok (.iconst 0, 1) := by decide +kernel
theorem dX4_ring_19 : decode cX4_ring 19 = .ok (.istore 4, 2) := by decide +kernel
theorem dX4_ring_21 : decode cX4_ring 21 = .ok (.iconst 1, 1) := by decide +kernel
theorem dX4_ring_22 : decode cX4_ring 22 = .ok (.istore 5, 2) := by decide +kernel
theorem dX4_ring_24 : decode cX4_ring 24 = .ok (.iload 5, 2) := by decide +kernel
theorem dX4_ring_26 : decode cX4_ring 26 = .ok (.ifCond .eq 135, 3) := by decide +kernel
theorem dX4_ring_29 : decode cX4_ring 29 = .ok (.iconst 0, 1) := by decide +kernel
theorem dX4_ring_30 : decode cX4_ring 30 = .ok (.istore 6, 2) := by decide +kernel
theorem dX4_ring_32 : decode cX4_ring 32 = .ok (.iload 6, 2) := by decide +kernel
theorem dX4_ring_34 : decode cX4_ring 34 = .ok (.aload_n 0, 1) := by decide +kernel
theorem dX4_ring_35 : decode cX4_ring 35 = .ok (.iload_n 3, 1) := by decide +kernel
theorem dX4_ring_36 : decode cX4_ring 36 = .ok (.invokevirtual 110, 3) := by decide +kernel
theorem dX4_ring_39 : decode cX4_ring 39 = .ok (.if_icmp .ge 79, 3) := by decide +kernel
theorem dX4_ring_42 : decode cX4_ring 42 = .ok (.aload_n 0, 1) := by decide +kernel
theorem dX4_ring_43 : decode cX4_ring 43 = .ok (.iload_n 3, 1) := by decide +kernel
theorem dX4_ring_44 : decode cX4_ring 44 = .ok (.iload 6, 2) := by decide +kernel
theorem dX4_ring_46 : decode cX4_ring 46 = .ok (.invokevirtual 96, 3) := by decide +kernel
theorem dX4_ring_49 : decode cX4_ring 49 = .ok (.istore 7, 2) := by decide +kernel
theorem dX4_ring_51 : decode cX4_ring 51 = .ok (.iload_n 2, 1) := by decide +kernel
theorem dX4_ring_52 : decode cX4_ring 52 = .ok (.ifCond .ne 9, 3) := by decide +kernel
theorem dX4_ring_55 : decode cX4_ring 55 = .ok (.iload 7, 2) := by decide +kernel
theorem dX4_ring_57 : decode cX4_ring 57 = .ok (.iload_n 1, 1) := by decide +kernel
theorem dX4_ring_58 : decode cX4_ring 58 = .ok (.if_icmp .ne 7, 3) := by decide +kernel
theorem dX4_ring_61 : decode cX4_ring 61 = .ok (.iconst 1, 1) := by decide +kernel
theorem dX4_ring_62 : decode cX4_ring 62 = .ok (.goto 4, 3) := by decide +kernel
theorem dX4_ring_65 : decode cX4_ring 65 = .ok (.iconst 0, 1) := by decide +kernel
theorem dX4_ring_66 : decode cX4_ring 66 = .ok (.istore_n 2, 1) := by decide +kernel
theorem dX4_ring_67 : decode cX4_ring 67 = .ok (.iload 7, 2) := by decide +kernel
theorem dX4_ring_69 : decode cX4_ring 69 = .ok (.iconst (-1), 1) := by decide +kernel
theorem dX4_ring_70 : decode cX4_ring 70 = .ok (.if_icmp .eq 42, 3) := by decide +kernel
theorem dX4_ring_73 : decode cX4_ring 73 = .ok (.aload_n 0, 1) := by decide +kernel
theorem dX4_ring_74 : decode cX4_ring 74 = .ok (.getfield 27, 3) := by decide +kernel
theorem dX4_ring_77 : decode cX4_ring 77 = .ok (.iload 7, 2) := by decide +kernel
theorem dX4_ring_79 : decode cX4_ring 79 = .ok (.iaload, 1) := by decide +kernel
theorem dX4_ring_80 : decode cX4_ring 80 = .ok (.ifCond .ne 32, 3) := by decide +kernel
theorem dX4_ring_83 : decode cX4_ring 83 = .ok (.aload_n 0, 1) := by decide +kernel
theorem dX4_ring_84 : decode cX4_ring 84 = .ok (.getfield 27, 3) := by decide +kernel
theorem dX4_ring_87 : decode cX4_ring 87 = .ok (.iload 7, 2) := by decide +kernel
theorem dX4_ring_89 : decode cX4_ring 89 = .ok (.iconst 2, 1) := by decide +kernel
theorem dX4_ring_90 : decode cX4_ring 90 = .ok (.iastore, 1) := by decide +kernel
theorem dX4_ring_91 : decode cX4_ring 91 = .ok (.aload_n 0, 1) := by decide +kernel
theorem dX4_ring_92 : decode cX4_ring 92 = .ok (.getfield 30, 3) := by decide +kernel
theorem dX4_ring_95 : decode cX4_ring 95 = .ok (.aload_n 0, 1) := by decide +kernel
theorem dX4_ring_96 : decode cX4_ring 96 = .ok (.getfield 100, 3) := by decide +kernel
theorem dX4_ring_99 : decode cX4_ring 99 = .ok (.iload 7, 2) := by decide +kernel
theorem dX4_ring_101 : decode cX4_ring 101 = .ok (.iastore, 1) := by decide +kernel
theorem dX4_ring_102 : decode cX4_ring 102 = .ok (.aload_n 0, 1) := by decide +kernel
theorem dX4_ring_103 : decode cX4_ring 103 = .ok (.dup, 1) := by decide +kernel
theorem dX4_ring_104 : decode cX4_ring 104 = .ok (.getfield 100, 3) := by decide +kernel
theorem dX4_ring_107 : decode cX4_ring 107 = .ok (.iconst 1, 1) := by decide +kernel
theorem dX4_ring_108 : decode cX4_ring 108 = .ok (.iadd, 1) := by decide +kernel
theorem dX4_ring_109 : decode cX4_ring 109 = .ok (.putfield 100, 3) := by decide +kernel
theorem dX4_ring_112 : decode cX4_ring 112 = .ok (.iinc 6 1, 3) := by decide +kernel
theorem dX4_ring_115 : decode cX4_ring 115 = .ok (.goto (-83), 3) := by decide +kernel
theorem dX4_ring_118 : decode cX4_ring 118 = .ok (.iload_n 2, 1) := by decide +kernel
theorem dX4_ring_119 : decode cX4_ring 119 = .ok (.ifCond .ne 16, 3) := by decide +kernel
theorem dX4_ring_122 : decode cX4_ring 122 = .ok (.iload 4, 2) := by decide +kernel
theorem dX4_ring_124 : decode cX4_ring 124 = .ok (.aload_n 0, 1) := by decide +kernel
theorem dX4_ring_125 : decode cX4_ring 125 = .ok (.getfield 100, 3) := by decide +kernel
theorem dX4_ring_128 : decode cX4_ring 128 = .ok (.if_icmp .ge 7, 3) := by decide +kernel
theorem dX4_ring_131 : decode cX4_ring 131 = .ok (.iconst 1, 1) := by decide +kernel
theorem dX4_ring_132 : decode cX4_ring 132 = .ok (.goto 4, 3) := by decide +kernel
theorem dX4_ring_135 : decode cX4_ring 135 = .ok (.iconst 0, 1) := by decide +kernel
theorem dX4_ring_136 : decode cX4_ring 136 = .ok (.istore 5, 2) := by decide +kernel
theorem dX4_ring_138 : decode cX4_ring 138 = .ok (.iload 5, 2) := by decide +kernel
theorem dX4_ring_140 : decode cX4_ring 140 = .ok (.ifCond .eq 13, 3) := by decide +kernel
theorem dX4_ring_143 : decode cX4_ring 143 = .ok (.aload_n 0, 1) := by decide +kernel
theorem dX4_ring_144 : decode cX4_ring 144 = .ok (.getfield 30, 3) := by decide +kernel
theorem dX4_ring_147 : decode cX4_ring 147 = .ok (.iload 4, 2) := by decide +kernel
theorem dX4_ring_149 : decode cX4_ring 149 = .ok (.iaload, 1) := by decide +kernel
theorem dX4_ring_150 : decode cX4_ring 150 = .ok (.goto 4, 3) := by decide +kernel
theorem dX4_ring_153 : decode cX4_ring 153 = .ok (.iload_n 3, 1) := by decide +kernel
theorem dX4_ring_154 : decode cX4_ring 154 = .ok (.istore_n 3, 1) := by decide +kernel
theorem dX4_ring_155 : decode cX4_ring 155 = .ok (.iinc 4 1, 3) := by decide +kernel
theorem dX4_ring_158 : decode cX4_ring 158 = .ok (.goto (-134), 3) := by decide +kernel
theorem dX4_ring_161 : decode cX4_ring 161 = .ok (.iload_n 2, 1) := by decide +kernel
theorem dX4_ring_162 : decode cX4_ring 162 = .ok (.ifCond .eq 7, 3) := by decide +kernel
theorem dX4_ring_165 : decode cX4_ring 165 = .ok (.iconst 1, 1) := by decide +kernel
theorem dX4_ring_166 : decode cX4_ring 166 = .ok (.goto 4, 3) := by decide +kernel
theorem dX4_ring_169 : decode cX4_ring 169 = .ok (.iconst 0, 1) := by decide +kernel
theorem dX4_ring_170 : decode cX4_ring 170 = .ok (.ireturn, 1) := by decide +kernel
theorem dX4_mix_0 : decode cX4_mix 0 = .ok (.aload_n 0, 1) := by decide +kernel
theorem dX4_mix_1 : decode cX4_mix 1 = .ok (.getfield 7, 3) := by decide +kernel
theorem dX4_mix_4 : decode cX4_mix 4 = .ok (.iload_n 1, 1) := by decide +kernel
theorem dX4_mix_5 : decode cX4_mix 5 = .ok (.iaload, 1) := by decide +kernel
theorem dX4_mix_6 : decode cX4_mix 6 = .ok (.i2l, 1) := by decide +kernel
theorem dX4_mix_7 : decode cX4_mix 7 = .ok (.ldc2_w 130, 3) := by decide +kernel
theorem dX4_mix_10 : decode cX4_mix 10 = .ok (.lmul, 1) := by decide +kernel
theorem dX4_mix_11 : decode cX4_mix 11 = .ok (.aload_n 0, 1) := by decide +kernel
theorem dX4_mix_12 : decode cX4_mix 12 = .ok (.getfield 13, 3) := by decide +kernel
theorem dX4_mix_15 : decode cX4_mix 15 = .ok (.iload_n 1, 1) := by decide +kernel
theorem dX4_mix_16 : decode cX4_mix 16 = .ok (.iaload, 1) := by decide +kernel
theorem dX4_mix_17 : decode cX4_mix 17 = .ok (.i2l, 1) := by decide +kernel
theorem dX4_mix_18 : decode cX4_mix 18 = .ok (.ladd, 1) := by decide +kernel
theorem dX4_mix_19 : decode cX4_mix 19 = .ok (.lstore_n 2, 1) := by decide +kernel
theorem dX4_mix_20 : decode cX4_mix 20 = .ok (.lload_n 2, 1) := by decide +kernel
theorem dX4_mix_21 : decode cX4_mix 21 = .ok (.ldc2_w 130, 3) := by decide +kernel
theorem dX4_mix_24 : decode cX4_mix 24 = .ok (.lmul, 1) := by decide +kernel
theorem dX4_mix_25 : decode cX4_mix 25 = .ok (.aload_n 0, 1) := by decide +kernel
theorem dX4_mix_26 : decode cX4_mix 26 = .ok (.getfield 16, 3) := by decide +kernel
theorem dX4_mix_29 : decode cX4_mix 29 = .ok (.iload_n 1, 1) := by decide +kernel
theorem dX4_mix_30 : decode cX4_mix 30 = .ok (.iaload, 1) := by decide +kernel
theorem dX4_mix_31 : decode cX4_mix 31 = .ok (.i2l, 1) := by decide +kernel
theorem dX4_mix_32 : decode cX4_mix 32 = .ok (.ladd, 1) := by decide +kernel
theorem dX4_mix_33 : decode cX4_mix 33 = .ok (.lstore_n 2, 1) := by decide +kernel
theorem dX4_mix_34 : decode cX4_mix 34 = .ok (.aload_n 0, 1) := by decide +kernel
theorem dX4_mix_35 : decode cX4_mix 35 = .ok (.getfield 7, 3) := by decide +kernel
theorem dX4_mix_38 : decode cX4_mix 38 = .ok (.iload_n 1, 1) := by decide +kernel
theorem dX4_mix_39 : decode cX4_mix 39 = .ok (.iaload, 1) := by decide +kernel
theorem dX4_mix_40 : decode cX4_mix 40 = .ok (.invokestatic 65, 3) := by decide +kernel
theorem dX4_mix_43 : decode cX4_mix 43 = .ok (.istore 4, 2) := by decide +kernel
theorem dX4_mix_45 : decode cX4_mix 45 = .ok (.iconst 0, 1) := by decide +kernel
theorem dX4_mix_46 : decode cX4_mix 46 = .ok (.istore 5, 2) := by decide +kernel
theorem dX4_mix_48 : decode cX4_mix 48 = .ok (.iload 5, 2) := by decide +kernel
theorem dX4_mix_50 : decode cX4_mix 50 = .ok (.aload_n 0, 1) := by decide +kernel
theorem dX4_mix_51 : decode cX4_mix 51 = .ok (.getfield 13, 3) := by decide +kernel
theorem dX4_mix_54 : decode cX4_mix 54 = .ok (.iload_n 1, 1) := by decide +kernel
theorem dX4_mix_55 : decode cX4_mix 55 = .ok (.iaload, 1) := by decide +kernel
theorem dX4_mix_56 : decode cX4_mix 56 = .ok (.if_icmp .ge 64, 3) := by decide +kernel
theorem dX4_mix_59 : decode cX4_mix 59 = .ok (.aload_n 0, 1) := by decide +kernel
theorem dX4_mix_60 : decode cX4_mix 60 = .ok (.getfield 23, 3) := by decide +kernel
theorem dX4_mix_63 : decode cX4_mix 63 = .ok (.aload_n 0, 1) := by decide +kernel
theorem dX4_mix_64 : decode cX4_mix 64 = .ok (.getfield 19, 3) := by decide +kernel
theorem dX4_mix_67 : decode cX4_mix 67 = .ok (.iload_n 1, 1) := by decide +kernel
theorem dX4_mix_68 : decode cX4_mix 68 = .ok (.iaload, 1) := by decide +kernel
theorem dX4_mix_69 : decode cX4_mix 69 = .ok (.iload 5, 2) := by decide +kernel
theorem dX4_mix_71 : decode cX4_mix 71 = .ok (.iadd, 1) := by decide +kernel
theorem dX4_mix_72 : decode cX4_mix 72 = .ok (.laload, 1) := by decide +kernel
theorem dX4_mix_73 : decode cX4_mix 73 = .ok (.lstore 6, 2) := by decide +kernel
theorem dX4_mix_75 : decode cX4_mix 75 = .ok (.lload_n 2, 1) := by decide +kernel
theorem dX4_mix_76 : decode cX4_mix 76 = .ok (.ldc2_w 132, 3) := by decide +kernel
theorem dX4_mix_79 : decode cX4_mix 79 = .ok (.lmul, 1) := by decide +kernel
theorem dX4_mix_80 : decode cX4_mix 80 = .ok (.iload 4, 2) := by decide +kernel
theorem dX4_mix_82 : decode cX4_mix 82 = .ok (.ifCond .ne 8, 3) := by decide +kernel
theorem dX4_mix_85 : decode cX4_mix 85 = .ok (.lload 6, 2) := by decide +kernel
theorem dX4_mix_87 : decode cX4_mix 87 = .ok (.goto 25, 3) := by decide +kernel
theorem dX4_mix_90 : decode cX4_mix 90 = .ok (.lload 6, 2) := by decide +kernel
theorem dX4_mix_92 : decode cX4_mix 92 = .ok (.lconst 0, 1) := by decide +kernel
theorem dX4_mix_93 : decode cX4_mix 93 = .ok (.lcmp, 1) := by decide +kernel
theorem dX4_mix_94 : decode cX4_mix 94 = .ok (.ifCond .ge 9, 3) := by decide +kernel
theorem dX4_mix_97 : decode cX4_mix 97 = .ok (.ldc2_w 72, 3) := by decide +kernel
theorem dX4_mix_100 : decode cX4_mix 100 = .ok (.goto 12, 3) := by decide +kernel
theorem dX4_mix_103 : decode cX4_mix 103 = .ok (.aload_n 0, 1) := by decide +kernel
theorem dX4_mix_104 : decode cX4_mix 104 = .ok (.getfield 48, 3) := by decide +kernel
theorem dX4_mix_107 : decode cX4_mix 107 = .ok (.lload 6, 2) := by decide +kernel
theorem dX4_mix_109 : decode cX4_mix 109 = .ok (.l2i, 1) := by decide +kernel
theorem dX4_mix_110 : decode cX4_mix 110 = .ok (.iaload, 1) := by decide +kernel
theorem dX4_mix_111 : decode cX4_mix 111 = .ok (.i2l, 1) := by decide +kernel
theorem dX4_mix_112 : decode cX4_mix 112 = .ok (.ladd, 1) := by decide +kernel
theorem dX4_mix_113 : decode cX4_mix 113 = .ok (.lstore_n 2, 1) := by decide +kernel
theorem dX4_mix_114 : decode cX4_mix 114 = .ok (.iinc 5 1, 3) := by decide +kernel
theorem dX4_mix_117 : decode cX4_mix 117 = .ok (.goto (-69), 3) := by decide +kernel
theorem dX4_mix_120 : decode cX4_mix 120 = .ok (.lload_n 2, 1) := by decide +kernel
theorem dX4_mix_121 : decode cX4_mix 121 = .ok (.lreturn, 1) := by decide +kernel
theorem dX4_isLike_0 : decode cX4_isLike 0 = .ok (.aload_n 0, 1) := by decide +kernel
theorem dX4_isLike_1 : decode cX4_isLike 1 = .ok (.getfield 7, 3) := by decide +kernel
theorem dX4_isLike_4 : decode cX4_isLike 4 = .ok (.iload_n 1, 1) := by decide +kernel
theorem dX4_isLike_5 : decode cX4_isLike 5 = .ok (.iaload, 1) := by decide +kernel
theorem dX4_isLike_6 : decode cX4_isLike 6 = .ok (.aload_n 0, 1) := by decide +kernel
theorem dX4_isLike_7 : decode cX4_isLike 7 = .ok (.getfield 7, 3) := by decide +kernel
theorem dX4_isLike_10 : decode cX4_isLike 10 = .ok (.iload_n 2, 1) := by decide +kernel
theorem dX4_isLike_11 : decode cX4_isLike 11 = .ok (.iaload, 1) := by decide +kernel
theorem dX4_isLike_12 : decode cX4_isLike 12 = .ok (.if_icmp .ne 49, 3) := by decide +kernel
theorem dX4_isLike_15 : decode cX4_isLike 15 = .ok (.aload_n 0, 1) := by decide +kernel
theorem dX4_isLike_16 : decode cX4_isLike 16 = .ok (.getfield 13, 3) := by decide +kernel
theorem dX4_isLike_19 : decode cX4_isLike 19 = .ok (.iload_n 1, 1) := by decide +kernel
theorem dX4_isLike_20 : decode cX4_isLike 20 = .ok (.iaload, 1) := by decide +kernel
theorem dX4_isLike_21 : decode cX4_isLike 21 = .ok (.aload_n 0, 1) := by decide +kernel
theorem dX4_isLike_22 : decode cX4_isLike 22 = .ok (.getfield 13, 3) := by decide +kernel
theorem dX4_isLike_25 : decode cX4_isLike 25 = .ok (.iload_n 2, 1) := by decide +kernel
theorem dX4_isLike_26 : decode cX4_isLike 26 = .ok (.iaload, 1) := by decide +kernel
theorem dX4_isLike_27 : decode cX4_isLike 27 = .ok (.if_icmp .ne 34, 3) := by decide +kernel
theorem dX4_isLike_30 : decode cX4_isLike 30 = .ok (.aload_n 0, 1) := by decide +kernel
theorem dX4_isLike_31 : decode cX4_isLike 31 = .ok (.getfield 16, 3) := by decide +kernel
theorem dX4_isLike_34 : decode cX4_isLike 34 = .ok (.iload_n 1, 1) := by decide +kernel
theorem dX4_isLike_35 : decode cX4_isLike 35 = .ok (.iaload, 1) := by decide +kernel
theorem dX4_isLike_36 : decode cX4_isLike 36 = .ok (.aload_n 0, 1) := by decide +kernel
theorem dX4_isLike_37 : decode cX4_isLike 37 = .ok (.getfield 16, 3) := by decide +kernel
theorem dX4_isLike_40 : decode cX4_isLike 40 = .ok (.iload_n 2, 1) := by decide +kernel
theorem dX4_isLike_41 : decode cX4_isLike 41 = .ok (.iaload, 1) := by decide +kernel
theorem dX4_isLike_42 : decode cX4_isLike 42 = .ok (.if_icmp .ne 19, 3) := by decide +kernel
theorem dX4_isLike_45 : decode cX4_isLike 45 = .ok (.aload_n 0, 1) := by decide +kernel
theorem dX4_isLike_46 : decode cX4_isLike 46 = .ok (.getfield 51, 3) := by decide +kernel
theorem dX4_isLike_49 : decode cX4_isLike 49 = .ok (.iload_n 1, 1) := by decide +kernel
theorem dX4_isLike_50 : decode cX4_isLike 50 = .ok (.laload, 1) := by decide +kernel
theorem dX4_isLike_51 : decode cX4_isLike 51 = .ok (.aload_n 0, 1) := by decide +kernel
theorem dX4_isLike_52 : decode cX4_isLike 52 = .ok (.getfield 51, 3) := by decide +kernel
theorem dX4_isLike_55 : decode cX4_isLike 55 = .ok (.iload_n 2, 1) := by decide +kernel
theorem dX4_isLike_56 : decode cX4_isLike 56 = .ok (.laload, 1) := by decide +kernel
theorem dX4_isLike_57 : decode cX4_isLike 57 = .ok (.lcmp, 1) := by decide +kernel
theorem dX4_isLike_58 : decode cX4_isLike 58 = .ok (.ifCond .eq 5, 3) := by decide +kernel
theorem dX4_isLike_61 : decode cX4_isLike 61 = .ok (.iconst 0, 1) := by decide +kernel
theorem dX4_isLike_62 : decode cX4_isLike 62 = .ok (.ireturn, 1) := by decide +kernel
theorem dX4_isLike_63 : decode cX4_isLike 63 = .ok (.aload_n 0, 1) := by decide +kernel
theorem dX4_isLike_64 : decode cX4_isLike 64 = .ok (.getfield 7, 3) := by decide +kernel
theorem dX4_isLike_67 : decode cX4_isLike 67 = .ok (.iload_n 1, 1) := by decide +kernel
theorem dX4_isLike_68 : decode cX4_isLike 68 = .ok (.iaload, 1) := by decide +kernel
theorem dX4_isLike_69 : decode cX4_isLike 69 = .ok (.invokestatic 65, 3) := by decide +kernel
theorem dX4_isLike_72 : decode cX4_isLike 72 = .ok (.istore_n 3, 1) := by decide +kernel
theorem dX4_isLike_73 : decode cX4_isLike 73 = .ok (.iconst 1, 1) := by decide +kernel
theorem dX4_isLike_74 : decode cX4_isLike 74 = .ok (.istore 4, 2) := by decide +kernel
theorem dX4_isLike_76 : decode cX4_isLike 76 = .ok (.iconst 0, 1) := by decide +kernel
theorem dX4_isLike_77 : decode cX4_isLike 77 = .ok (.istore 5, 2) := by decide +kernel
theorem dX4_isLike_79 : decode cX4_isLike 79 = .ok (.iload 5, 2) := by decide +kernel
theorem dX4_isLike_81 : decode cX4_isLike 81 = .ok (.aload_n 0, 1) := by decide +kernel
theorem dX4_isLike_82 : decode cX4_isLike 82 = .ok (.getfield 13, 3) := by decide +kernel
theorem dX4_isLike_85 : decode cX4_isLike 85 = .ok (.iload_n 1, 1) := by decide +kernel
theorem dX4_isLike_86 : decode cX4_isLike 86 = .ok (.iaload, 1) := by decide +kernel
theorem dX4_isLike_87 : decode cX4_isLike 87 = .ok (.if_icmp .ge 98, 3) := by decide +kernel
theorem dX4_isLike_90 : decode cX4_isLike 90 = .ok (.iload 4, 2) := by decide +kernel
theorem dX4_isLike_92 : decode cX4_isLike 92 = .ok (.ifCond .eq 93, 3) := by decide +kernel
theorem dX4_isLike_95 : decode cX4_isLike 95 = .ok (.aload_n 0, 1) := by decide +kernel
theorem dX4_isLike_96 : decode cX4_isLike 96 = .ok (.getfield 23, 3) := by decide +kernel
theorem dX4_isLike_99 : decode cX4_isLike 99 = .ok (.aload_n 0, 1) := by decide +kernel
theorem dX4_isLike_100 : decode cX4_isLike 100 = .ok (.getfield 19, 3) := by decide +kernel
theorem dX4_isLike_103 : decode cX4_isLike 103 = .ok (.iload_n 1, 1) := by decide +kernel
theorem dX4_isLike_104 : decode cX4_isLike 104 = .ok (.iaload, 1) := by decide +kernel
theorem dX4_isLike_105 : decode cX4_isLike 105 = .ok (.iload 5, 2) := by decide +kernel
theorem dX4_isLike_107 : decode cX4_isLike 107 = .ok (.iadd, 1) := by decide +kernel
theorem dX4_isLike_108 : decode cX4_isLike 108 = .ok (.laload, 1) := by decide +kernel
theorem dX4_isLike_109 : decode cX4_isLike 109 = .ok (.lstore 6, 2) := by decide +kernel
theorem dX4_isLike_111 : decode cX4_isLike 111 = .ok (.aload_n 0, 1) := by decide +kernel
theorem dX4_isLike_112 : decode cX4_isLike 112 = .ok (.getfield 23, 3) := by decide +kernel
theorem dX4_isLike_115 : decode cX4_isLike 115 = .ok (.aload_n 0, 1) := by decide +kernel
theorem dX4_isLike_116 : decode cX4_isLike 116 = .ok (.getfield 19, 3) := by decide +kernel
theorem dX4_isLike_119 : decode cX4_isLike 119 = .ok (.iload_n 2, 1) := by decide +kernel
theorem dX4_isLike_120 : decode cX4_isLike 120 = .ok (.iaload, 1) := by decide +kernel
theorem dX4_isLike_121 : decode cX4_isLike 121 = .ok (.iload 5, 2) := by decide +kernel
theorem dX4_isLike_123 : decode cX4_isLike 123 = .ok (.iadd, 1) := by decide +kernel
theorem dX4_isLike_124 : decode cX4_isLike 124 = .ok (.laload, 1) := by decide +kernel
theorem dX4_isLike_125 : decode cX4_isLike 125 = .ok (.lstore 8, 2) := by decide +kernel
theorem dX4_isLike_127 : decode cX4_isLike 127 = .ok (.lload 6, 2) := by decide +kernel
theorem dX4_isLike_129 : decode cX4_isLike 129 = .ok (.lload 8, 2) := by decide +kernel
theorem dX4_isLike_131 : decode cX4_isLike 131 = .ok (.lcmp, 1) := by decide +kernel
theorem dX4_isLike_132 : decode cX4_isLike 132 = .ok (.ifCond .eq 40, 3) := by decide +kernel
theorem dX4_isLike_135 : decode cX4_isLike 135 = .ok (.iload_n 3, 1) := by decide +kernel
theorem dX4_isLike_136 : decode cX4_isLike 136 = .ok (.ifCond .eq 40, 3) := by decide +kernel
theorem dX4_isLike_139 : decode cX4_isLike 139 = .ok (.lload 6, 2) := by decide +kernel
theorem dX4_isLike_141 : decode cX4_isLike 141 = .ok (.lconst 0, 1) := by decide +kernel
theorem dX4_isLike_142 : decode cX4_isLike 142 = .ok (.lcmp, 1) := by decide +kernel
theorem dX4_isLike_143 : decode cX4_isLike 143 = .ok (.ifCond .lt 33, 3) := by decide +kernel
theorem dX4_isLike_146 : decode cX4_isLike 146 = .ok (.lload 8, 2) := by decide +kernel
theorem dX4_isLike_148 : decode cX4_isLike 148 = .ok (.lconst 0, 1) := by decide +kernel
theorem dX4_isLike_149 : decode cX4_isLike 149 = .ok (.lcmp, 1) := by decide +kernel
theorem dX4_isLike_150 : decode cX4_isLike 150 = .ok (.ifCond .lt 26, 3) := by decide +kernel
theorem dX4_isLike_153 : decode cX4_isLike 153 = .ok (.aload_n 0, 1) := by decide +kernel
theorem dX4_isLike_154 : decode cX4_isLike 154 = .ok (.getfield 48, 3) := by decide +kernel
theorem dX4_isLike_157 : decode cX4_isLike 157 = .ok (.lload 6, 2) := by decide +kernel
theorem dX4_isLike_159 : decode cX4_isLike 159 = .ok (.l2i, 1) := by decide +kernel
theorem dX4_isLike_160 : decode cX4_isLike 160 = .ok (.iaload, 1) := by decide +kernel
theorem dX4_isLike_161 : decode cX4_isLike 161 = .ok (.aload_n 0, 1) := by decide +kernel
theorem dX4_isLike_162 : decode cX4_isLike 162 = .ok (.getfield 48, 3) := by decide +kernel
theorem dX4_isLike_165 : decode cX4_isLike 165 = .ok (.lload 8, 2) := by decide +kernel
theorem dX4_isLike_167 : decode cX4_isLike 167 = .ok (.l2i, 1) := by decide +kernel
theorem dX4_isLike_168 : decode cX4_isLike 168 = .ok (.iaload, 1) := by decide +kernel
theorem dX4_isLike_169 : decode cX4_isLike 169 = .ok (.if_icmp .ne 7, 3) := by decide +kernel
theorem dX4_isLike_172 : decode cX4_isLike 172 = .ok (.iconst 1, 1) := by decide +kernel
theorem dX4_isLike_173 : decode cX4_isLike 173 = .ok (.goto 4, 3) := by decide +kernel
theorem dX4_isLike_176 : decode cX4_isLike 176 = .ok (.iconst 0, 1) := by decide +kernel
theorem dX4_isLike_177 : decode cX4_isLike 177 = .ok (.istore 4, 2) := by decide +kernel
theorem dX4_isLike_179 : decode cX4_isLike 179 = .ok (.iinc 5 1, 3) := by decide +kernel
theorem dX4_isLike_182 : decode cX4_isLike 182 = .ok (.goto (-103), 3) := by decide +kernel
theorem dX4_isLike_185 : decode cX4_isLike 185 = .ok (.iload 4, 2) := by decide +kernel
theorem dX4_isLike_187 : decode cX4_isLike 187 = .ok (.ireturn, 1) := by decide +kernel
theorem dX4_workLikes_0 : decode cX4_workLikes 0 = .ok (.iconst 0, 1) := by decide +kernel
theorem dX4_workLikes_1 : decode cX4_workLikes 1 = .ok (.istore_n 1, 1) := by decide +kernel
theorem dX4_workLikes_2 : decode cX4_workLikes 2 = .ok (.iload_n 1, 1) := by decide +kernel
theorem dX4_workLikes_3 : decode cX4_workLikes 3 = .ok (.aload_n 0, 1) := by decide +kernel
theorem dX4_workLikes_4 : decode cX4_workLikes 4 = .ok (.getfield 103, 3) := by decide +kernel
theorem dX4_workLikes_7 : decode cX4_workLikes 7 = .ok (.if_icmp .ge 108, 3) := by decide +kernel
theorem dX4_workLikes_10 : decode cX4_workLikes 10 = .ok (.aload_n 0, 1) := by decide +kernel
theorem dX4_workLikes_11 : decode cX4_workLikes 11 = .ok (.getfield 33, 3) := by decide +kernel
theorem dX4_workLikes_14 : decode cX4_workLikes 14 = .ok (.iload_n 1, 1) := by decide +kernel
theorem dX4_workLikes_15 : decode cX4_workLikes 15 = .ok (.iaload, 1) := by decide +kernel
theorem dX4_workLikes_16 : decode cX4_workLikes 16 = .ok (.istore_n 2, 1) := by decide +kernel
theorem dX4_workLikes_17 : decode cX4_workLikes 17 = .ok (.aload_n 0, 1) := by decide +kernel
theorem dX4_workLikes_18 : decode cX4_workLikes 18 = .ok (.getfield 51, 3) := by decide +kernel
theorem dX4_workLikes_21 : decode cX4_workLikes 21 = .ok (.iload_n 2, 1) := by decide +kernel
theorem dX4_workLikes_22 : decode cX4_workLikes 22 = .ok (.aload_n 0, 1) := by decide +kernel
theorem dX4_workLikes_23 : decode cX4_workLikes 23 = .ok (.iload_n 2, 1) := by decide +kernel
theorem dX4_workLikes_24 : decode cX4_workLikes 24 = .ok (.invokevirtual 134, 3) := by decide +kernel
theorem dX4_workLikes_27 : decode cX4_workLikes 27 = .ok (.lastore, 1) := by decide +kernel
theorem dX4_workLikes_28 : decode cX4_workLikes 28 = .ok (.aload_n 0, 1) := by decide +kernel
theorem dX4_workLikes_29 : decode cX4_workLikes 29 = .ok (.getfield 48, 3) := by decide +kernel
theorem dX4_workLikes_32 : decode cX4_workLikes 32 = .ok (.iload_n 2, 1) := by decide +kernel
theorem dX4_workLikes_33 : decode cX4_workLikes 33 = .ok (.iload_n 2, 1) := by decide +kernel
theorem dX4_workLikes_34 : decode cX4_workLikes 34 = .ok (.iastore, 1) := by decide +kernel
theorem dX4_workLikes_35 : decode cX4_workLikes 35 = .ok (.iconst 0, 1) := by decide +kernel
theorem dX4_workLikes_36 : decode cX4_workLikes 36 = .ok (.istore_n 3, 1) := by decide +kernel
theorem dX4_workLikes_37 : decode cX4_workLikes 37 = .ok (.iconst 0, 1) := by decide +kernel
theorem dX4_workLikes_38 : decode cX4_workLikes 38 = .ok (.istore 4, 2) := by decide +kernel
theorem dX4_workLikes_40 : decode cX4_workLikes 40 = .ok (.iload 4, 2) := by decide +kernel
theorem dX4_workLikes_42 : decode cX4_workLikes 42 = .ok (.iload_n 1, 1) := by decide +kernel
theorem dX4_workLikes_43 : decode cX4_workLikes 43 = .ok (.if_icmp .ge 66, 3) := by decide +kernel
theorem dX4_workLikes_46 : decode cX4_workLikes 46 = .ok (.iload_n 3, 1) := by decide +kernel
theorem dX4_workLikes_47 : decode cX4_workLikes 47 = .ok (.ifCond .ne 62, 3) := by decide +kernel
theorem dX4_workLikes_50 : decode cX4_workLikes 50 = .ok (.aload_n 0, 1) := by decide +kernel
theorem dX4_workLikes_51 : decode cX4_workLikes 51 = .ok (.getfield 33, 3) := by decide +kernel
theorem dX4_workLikes_54 : decode cX4_workLikes 54 = .ok (.iload 4, 2) := by decide +kernel
theorem dX4_workLikes_56 : decode cX4_workLikes 56 = .ok (.iaload, 1) := by decide +kernel
theorem dX4_workLikes_57 : decode cX4_workLikes 57 = .ok (.istore 5, 2) := by decide +kernel
theorem dX4_workLikes_59 : decode cX4_workLikes 59 = .ok (.aload_n 0, 1) := by decide +kernel
theorem dX4_workLikes_60 : decode cX4_workLikes 60 = .ok (.getfield 48, 3) := by decide +kernel
theorem dX4_workLikes_63 : decode cX4_workLikes 63 = .ok (.iload 5, 2) := by decide +kernel
theorem dX4_workLikes_65 : decode cX4_workLikes 65 = .ok (.iaload, 1) := by decide +kernel
theorem dX4_workLikes_66 : decode cX4_workLikes 66 = .ok (.iload 5, 2) := by decide +kernel
theorem dX4_workLikes_68 : decode cX4_workLikes 68 = .ok (.if_icmp .ne 17, 3) := by decide +kernel
theorem dX4_workLikes_71 : decode cX4_workLikes 71 = .ok (.aload_n 0, 1) := by decide +kernel
theorem dX4_workLikes_72 : decode cX4_workLikes 72 = .ok (.iload 5, 2) := by decide +kernel
theorem dX4_workLikes_74 : decode cX4_workLikes 74 = .ok (.iload_n 2, 1) := by decide +kernel
theorem dX4_workLikes_75 : decode cX4_workLikes 75 = .ok (.invokevirtual 137, 3) := by decide +kernel
theorem dX4_workLikes_78 : decode cX4_workLikes 78 = .ok (.ifCond .eq 7, 3) := by decide +kernel
theorem dX4_workLikes_81 : decode cX4_workLikes 81 = .ok (.iconst 1, 1) := by decide +kernel
theorem dX4_workLikes_82 : decode cX4_workLikes 82 = .ok (.goto 4, 3) := by decide +kernel
theorem dX4_workLikes_85 : decode cX4_workLikes 85 = .ok (.iconst 0, 1) := by decide +kernel
theorem dX4_workLikes_86 : decode cX4_workLikes 86 = .ok (.istore_n 3, 1) := by decide +kernel
theorem dX4_workLikes_87 : decode cX4_workLikes 87 = .ok (.aload_n 0, 1) := by decide +kernel
theorem dX4_workLikes_88 : decode cX4_workLikes 88 = .ok (.getfield 48, 3) := by decide +kernel
theorem dX4_workLikes_91 : decode cX4_workLikes 91 = .ok (.iload_n 2, 1) := by decide +kernel
theorem dX4_workLikes_92 : decode cX4_workLikes 92 = .ok (.iload_n 3, 1) := by decide +kernel
theorem dX4_workLikes_93 : decode cX4_workLikes 93 = .ok (.ifCond .eq 8, 3) := by decide +kernel
theorem dX4_workLikes_96 : decode cX4_workLikes 96 = .ok (.iload 5, 2) := by decide +kernel
theorem dX4_workLikes_98 : decode cX4_workLikes 98 = .ok (.goto 4, 3) := by decide +kernel
theorem dX4_workLikes_101 : decode cX4_workLikes 101 = .ok (.iload_n 2, 1) := by decide +kernel
theorem dX4_workLikes_102 : decode cX4_workLikes 102 = .ok (.iastore, 1) := by decide +kernel
theorem dX4_workLikes_103 : decode cX4_workLikes 103 = .ok (.iinc 4 1, 3) := by decide +kernel
theorem dX4_workLikes_106 : decode cX4_workLikes 106 = .ok (.goto (-66), 3) := by decide +kernel
theorem dX4_workLikes_109 : decode cX4_workLikes 109 = .ok (.iinc 1 1, 3) := by decide +kernel
theorem dX4_workLikes_112 : decode cX4_workLikes 112 = .ok (.goto (-110), 3) := by decide +kernel
theorem dX4_workLikes_115 : decode cX4_workLikes 115 = .ok (.return_, 1) := by decide +kernel
theorem dX4_equal_0 : decode cX4_equal 0 = .ok (.aload_n 0, 1) := by decide +kernel
theorem dX4_equal_1 : decode cX4_equal 1 = .ok (.iconst 0, 1) := by decide +kernel
theorem dX4_equal_2 : decode cX4_equal 2 = .ok (.putfield 93, 3) := by decide +kernel
theorem dX4_equal_5 : decode cX4_equal 5 = .ok (.aload_n 0, 1) := by decide +kernel
theorem dX4_equal_6 : decode cX4_equal 6 = .ok (.iload_n 1, 1) := by decide +kernel
theorem dX4_equal_7 : decode cX4_equal 7 = .ok (.invokevirtual 78, 3) := by decide +kernel
theorem dX4_equal_10 : decode cX4_equal 10 = .ok (.ifCond .eq 11, 3) := by decide +kernel
theorem dX4_equal_13 : decode cX4_equal 13 = .ok (.aload_n 0, 1) := by decide +kernel
theorem dX4_equal_14 : decode cX4_equal 14 = .ok (.iload_n 2, 1) := by decide +kernel
theorem dX4_equal_15 : decode cX4_equal 15 = .ok (.invokevirtual 78, 3) := by decide +kernel
theorem dX4_equal_18 : decode cX4_equal 18 = .ok (.ifCond .ne 10, 3) := by decide +kernel
theorem dX4_equal_21 : decode cX4_equal 21 = .ok (.aload_n 0, 1) := by decide +kernel
theorem dX4_equal_22 : decode cX4_equal 22 = .ok (.iconst 1, 1) := by decide +kernel
theorem dX4_equal_23 : decode cX4_equal 23 = .ok (.putfield 93, 3) := by decide +kernel
theorem dX4_equal_26 : decode cX4_equal 26 = .ok (.iconst (-1), 1) := by decide +kernel
theorem dX4_equal_27 : decode cX4_equal 27 = .ok (.ireturn, 1) := by decide +kernel
theorem dX4_equal_28 : decode cX4_equal 28 = .ok (.aload_n 0, 1) := by decide +kernel
theorem dX4_equal_29 : decode cX4_equal 29 = .ok (.invokevirtual 114, 3) := by decide +kernel
theorem dX4_equal_32 : decode cX4_equal 32 = .ok (.aload_n 0, 1) := by decide +kernel
theorem dX4_equal_33 : decode cX4_equal 33 = .ok (.iload_n 1, 1) := by decide +kernel
theorem dX4_equal_34 : decode cX4_equal 34 = .ok (.invokevirtual 117, 3) := by decide +kernel
theorem dX4_equal_37 : decode cX4_equal 37 = .ok (.ifCond .eq 11, 3) := by decide +kernel
theorem dX4_equal_40 : decode cX4_equal 40 = .ok (.aload_n 0, 1) := by decide +kernel
theorem dX4_equal_41 : decode cX4_equal 41 = .ok (.iload_n 2, 1) := by decide +kernel
theorem dX4_equal_42 : decode cX4_equal 42 = .ok (.invokevirtual 117, 3) := by decide +kernel
theorem dX4_equal_45 : decode cX4_equal 45 = .ok (.ifCond .ne 10, 3) := by decide +kernel
theorem dX4_equal_48 : decode cX4_equal 48 = .ok (.aload_n 0, 1) := by decide +kernel
theorem dX4_equal_49 : decode cX4_equal 49 = .ok (.iconst 5, 1) := by decide +kernel
theorem dX4_equal_50 : decode cX4_equal 50 = .ok (.putfield 93, 3) := by decide +kernel
theorem dX4_equal_53 : decode cX4_equal 53 = .ok (.iconst (-1), 1) := by decide +kernel
theorem dX4_equal_54 : decode cX4_equal 54 = .ok (.ireturn, 1) := by decide +kernel
theorem dX4_equal_55 : decode cX4_equal 55 = .ok (.aload_n 0, 1) := by decide +kernel
theorem dX4_equal_56 : decode cX4_equal 56 = .ok (.invokevirtual 120, 3) := by decide +kernel
theorem dX4_equal_59 : decode cX4_equal 59 = .ok (.aload_n 0, 1) := by decide +kernel
theorem dX4_equal_60 : decode cX4_equal 60 = .ok (.getfield 42, 3) := by decide +kernel
theorem dX4_equal_63 : decode cX4_equal 63 = .ok (.iload_n 1, 1) := by decide +kernel
theorem dX4_equal_64 : decode cX4_equal 64 = .ok (.iaload, 1) := by decide +kernel
theorem dX4_equal_65 : decode cX4_equal 65 = .ok (.sipush 400, 3) := by decide +kernel
theorem dX4_equal_68 : decode cX4_equal 68 = .ok (.if_icmp .gt 15, 3) := by decide +kernel
theorem dX4_equal_71 : decode cX4_equal 71 = .ok (.aload_n 0, 1) := by decide +kernel
theorem dX4_equal_72 : decode cX4_equal 72 = .ok (.getfield 42, 3) := by decide +kernel
theorem dX4_equal_75 : decode cX4_equal 75 = .ok (.iload_n 2, 1) := by decide +kernel
theorem dX4_equal_76 : decode cX4_equal 76 = .ok (.iaload, 1) := by decide +kernel
theorem dX4_equal_77 : decode cX4_equal 77 = .ok (.sipush 400, 3) := by decide +kernel
theorem dX4_equal_80 : decode cX4_equal 80 = .ok (.if_icmp .le 11, 3) := by decide +kernel
theorem dX4_equal_83 : decode cX4_equal 83 = .ok (.aload_n 0, 1) := by decide +kernel
theorem dX4_equal_84 : decode cX4_equal 84 = .ok (.bipush 6, 2) := by decide +kernel
theorem dX4_equal_86 : decode cX4_equal 86 = .ok (.putfield 93, 3) := by decide +kernel
theorem dX4_equal_89 : decode cX4_equal 89 = .ok (.iconst (-1), 1) := by decide +kernel
theorem dX4_equal_90 : decode cX4_equal 90 = .ok (.ireturn, 1) := by decide +kernel
theorem dX4_equal_91 : decode cX4_equal 91 = .ok (.aload_n 0, 1) := by decide +kernel
theorem dX4_equal_92 : decode cX4_equal 92 = .ok (.invokevirtual 140, 3) := by decide +kernel
theorem dX4_equal_95 : decode cX4_equal 95 = .ok (.aload_n 0, 1) := by decide +kernel
theorem dX4_equal_96 : decode cX4_equal 96 = .ok (.getfield 48, 3) := by decide +kernel
theorem dX4_equal_99 : decode cX4_equal 99 = .ok (.iload_n 1, 1) := by decide +kernel
theorem dX4_equal_100 : decode cX4_equal 100 = .ok (.iaload, 1) := by decide +kernel
theorem dX4_equal_101 : decode cX4_equal 101 = .ok (.aload_n 0, 1) := by decide +kernel
theorem dX4_equal_102 : decode cX4_equal 102 = .ok (.getfield 48, 3) := by decide +kernel
theorem dX4_equal_105 : decode cX4_equal 105 = .ok (.iload_n 2, 1) := by decide +kernel
theorem dX4_equal_106 : decode cX4_equal 106 = .ok (.iaload, 1) := by decide +kernel
theorem dX4_equal_107 : decode cX4_equal 107 = .ok (.if_icmp .ne 7, 3) := by decide +kernel
theorem dX4_equal_110 : decode cX4_equal 110 = .ok (.iconst 1, 1) := by decide +kernel
theorem dX4_equal_111 : decode cX4_equal 111 = .ok (.goto 4, 3) := by decide +kernel
theorem dX4_equal_114 : decode cX4_equal 114 = .ok (.iconst 0, 1) := by decide +kernel
theorem dX4_equal_115 : decode cX4_equal 115 = .ok (.ireturn, 1) := by decide +kernel
theorem dX4_order_0 : decode cX4_order 0 = .ok (.aload_n 0, 1) := by decide +kernel
theorem dX4_order_1 : decode cX4_order 1 = .ok (.iload_n 1, 1) := by decide +kernel
theorem dX4_order_2 : decode cX4_order 2 = .ok (.invokevirtual 78, 3) := by decide +kernel
theorem dX4_order_5 : decode cX4_order 5 = .ok (.ifCond .eq 11, 3) := by decide +kernel
theorem dX4_order_8 : decode cX4_order 8 = .ok (.aload_n 0, 1) := by decide +kernel
theorem dX4_order_9 : decode cX4_order 9 = .ok (.iload_n 2, 1) := by decide +kernel
theorem dX4_order_10 : decode cX4_order 10 = .ok (.invokevirtual 78, 3) := by decide +kernel
theorem dX4_order_13 : decode cX4_order 13 = .ok (.ifCond .ne 5, 3) := by decide +kernel
theorem dX4_order_16 : decode cX4_order 16 = .ok (.iconst 3, 1) := by decide +kernel
theorem dX4_order_17 : decode cX4_order 17 = .ok (.ireturn, 1) := by decide +kernel
theorem dX4_order_18 : decode cX4_order 18 = .ok (.aload_n 0, 1) := by decide +kernel
theorem dX4_order_19 : decode cX4_order 19 = .ok (.getfield 7, 3) := by decide +kernel
theorem dX4_order_22 : decode cX4_order 22 = .ok (.iload_n 1, 1) := by decide +kernel
theorem dX4_order_23 : decode cX4_order 23 = .ok (.iaload, 1) := by decide +kernel
theorem dX4_order_24 : decode cX4_order 24 = .ok (.bipush 8, 2) := by decide +kernel
theorem dX4_order_26 : decode cX4_order 26 = .ok (.if_icmp .ne 14, 3) := by decide +kernel
theorem dX4_order_29 : decode cX4_order 29 = .ok (.aload_n 0, 1) := by decide +kernel
theorem dX4_order_30 : decode cX4_order 30 = .ok (.getfield 7, 3) := by decide +kernel
theorem dX4_order_33 : decode cX4_order 33 = .ok (.iload_n 2, 1) := by decide +kernel
theorem dX4_order_34 : decode cX4_order 34 = .ok (.iaload, 1) := by decide +kernel
theorem dX4_order_35 : decode cX4_order 35 = .ok (.bipush 8, 2) := by decide +kernel
theorem dX4_order_37 : decode cX4_order 37 = .ok (.if_icmp .eq 5, 3) := by decide +kernel
theorem dX4_order_40 : decode cX4_order 40 = .ok (.iconst 2, 1) := by decide +kernel
theorem dX4_order_41 : decode cX4_order 41 = .ok (.ireturn, 1) := by decide +kernel
theorem dX4_order_42 : decode cX4_order 42 = .ok (.aload_n 0, 1) := by decide +kernel
theorem dX4_order_43 : decode cX4_order 43 = .ok (.getfield 16, 3) := by decide +kernel
theorem dX4_order_46 : decode cX4_order 46 = .ok (.iload_n 1, 1) := by decide +kernel
theorem dX4_order_47 : decode cX4_order 47 = .ok (.iaload, 1) := by decide +kernel
theorem dX4_order_48 : decode cX4_order 48 = .ok (.aload_n 0, 1) := by decide +kernel
theorem dX4_order_49 : decode cX4_order 49 = .ok (.getfield 16, 3) := by decide +kernel
theorem dX4_order_52 : decode cX4_order 52 = .ok (.iload_n 2, 1) := by decide +kernel
theorem dX4_order_53 : decode cX4_order 53 = .ok (.iaload, 1) := by decide +kernel
theorem dX4_order_54 : decode cX4_order 54 = .ok (.if_icmp .ge 7, 3) := by decide +kernel
theorem dX4_order_57 : decode cX4_order 57 = .ok (.iconst (-1), 1) := by decide +kernel
theorem dX4_order_58 : decode cX4_order 58 = .ok (.goto 23, 3) := by decide +kernel
theorem dX4_order_61 : decode cX4_order 61 = .ok (.aload_n 0, 1) := by decide +kernel
theorem dX4_order_62 : decode cX4_order 62 = .ok (.getfield 16, 3) := by decide +kernel
theorem dX4_order_65 : decode cX4_order 65 = .ok (.iload_n 1, 1) := by decide +kernel
theorem dX4_order_66 : decode cX4_order 66 = .ok (.iaload, 1) := by decide +kernel
theorem dX4_order_67 : decode cX4_order 67 = .ok (.aload_n 0, 1) := by decide +kernel
theorem dX4_order_68 : decode cX4_order 68 = .ok (.getfield 16, 3) := by decide +kernel
theorem dX4_order_71 : decode cX4_order 71 = .ok (.iload_n 2, 1) := by decide +kernel
theorem dX4_order_72 : decode cX4_order 72 = .ok (.iaload, 1) := by decide +kernel
theorem dX4_order_73 : decode cX4_order 73 = .ok (.if_icmp .ne 7, 3) := by decide +kernel
theorem dX4_order_76 : decode cX4_order 76 = .ok (.iconst 0, 1) := by decide +kernel
theorem dX4_order_77 : decode cX4_order 77 = .ok (.goto 4, 3) := by decide +kernel
theorem dX4_order_80 : decode cX4_order 80 = .ok (.iconst 1, 1) := by decide +kernel
theorem dX4_order_81 : decode cX4_order 81 = .ok (.ireturn, 1) := by decide +kernel
theorem dX4_sort_0 : decode cX4_sort 0 = .ok (.aload_n 0, 1) := by decide +kernel
theorem dX4_sort_1 : decode cX4_sort 1 = .ok (.iload_n 1, 1) := by decide +kernel
theorem dX4_sort_2 : decode cX4_sort 2 = .ok (.invokevirtual 78, 3) := by decide +kernel
theorem dX4_sort_5 : decode cX4_sort 5 = .ok (.ifCond .ne 5, 3) := by decide +kernel
theorem dX4_sort_8 : decode cX4_sort 8 = .ok (.iconst 1, 1) := by decide +kernel
theorem dX4_sort_9 : decode cX4_sort 9 = .ok (.ireturn, 1) := by decide +kernel
theorem dX4_sort_10 : decode cX4_sort 10 = .ok (.aload_n 0, 1) := by decide +kernel
theorem dX4_sort_11 : decode cX4_sort 11 = .ok (.getfield 7, 3) := by decide +kernel
theorem dX4_sort_14 : decode cX4_sort 14 = .ok (.iload_n 1, 1) := by decide +kernel
theorem dX4_sort_15 : decode cX4_sort 15 = .ok (.iaload, 1) := by decide +kernel
theorem dX4_sort_16 : decode cX4_sort 16 = .ok (.iconst 4, 1) := by decide +kernel
theorem dX4_sort_17 : decode cX4_sort 17 = .ok (.if_icmp .eq 16, 3) := by decide +kernel
theorem dX4_sort_20 : decode cX4_sort 20 = .ok (.aload_n 0, 1) := by decide +kernel
theorem dX4_sort_21 : decode cX4_sort 21 = .ok (.getfield 7, 3) := by decide +kernel
theorem dX4_sort_24 : decode cX4_sort 24 = .ok (.iload_n 1, 1) := by decide +kernel
theorem dX4_sort_25 : decode cX4_sort 25 = .ok (.iaload, 1) := by decide +kernel
theorem dX4_sort_26 : decode cX4_sort 26 = .ok (.bipush 6, 2) := by decide +kernel
theorem dX4_sort_28 : decode cX4_sort 28 = .ok (.if_icmp .eq 5, 3) := by decide +kernel
theorem dX4_sort_31 : decode cX4_sort 31 = .ok (.iconst 4, 1) := by decide +kernel
theorem dX4_sort_32 : decode cX4_sort 32 = .ok (.ireturn, 1) := by decide +kernel
theorem dX4_sort_33 : decode cX4_sort 33 = .ok (.aload_n 0, 1) := by decide +kernel
theorem dX4_sort_34 : decode cX4_sort 34 = .ok (.getfield 13, 3) := by decide +kernel
theorem dX4_sort_37 : decode cX4_sort 37 = .ok (.iload_n 1, 1) := by decide +kernel
theorem dX4_sort_38 : decode cX4_sort 38 = .ok (.iaload, 1) := by decide +kernel
theorem dX4_sort_39 : decode cX4_sort 39 = .ok (.istore_n 2, 1) := by decide +kernel
theorem dX4_sort_40 : decode cX4_sort 40 = .ok (.iconst 0, 1) := by decide +kernel
theorem dX4_sort_41 : decode cX4_sort 41 = .ok (.istore_n 3, 1) := by decide +kernel
theorem dX4_sort_42 : decode cX4_sort 42 = .ok (.iload_n 3, 1) := by decide +kernel
theorem dX4_sort_43 : decode cX4_sort 43 = .ok (.iload_n 2, 1) := by decide +kernel
theorem dX4_sort_44 : decode cX4_sort 44 = .ok (.if_icmp .ge 37, 3) := by decide +kernel
theorem dX4_sort_47 : decode cX4_sort 47 = .ok (.aload_n 0, 1) := by decide +kernel
theorem dX4_sort_48 : decode cX4_sort 48 = .ok (.iload_n 1, 1) := by decide +kernel
theorem dX4_sort_49 : decode cX4_sort 49 = .ok (.iload_n 3, 1) := by decide +kernel
theorem dX4_sort_50 : decode cX4_sort 50 = .ok (.invokevirtual 96, 3) := by decide +kernel
theorem dX4_sort_53 : decode cX4_sort 53 = .ok (.iconst (-1), 1) := by decide +kernel
theorem dX4_sort_54 : decode cX4_sort 54 = .ok (.if_icmp .eq 21, 3) := by decide +kernel
theorem dX4_sort_57 : decode cX4_sort 57 = .ok (.aload_n 0, 1) := by decide +kernel
theorem dX4_sort_58 : decode cX4_sort 58 = .ok (.getfield 7, 3) := by decide +kernel
theorem dX4_sort_61 : decode cX4_sort 61 = .ok (.aload_n 0, 1) := by decide +kernel
theorem dX4_sort_62 : decode cX4_sort 62 = .ok (.iload_n 1, 1) := by decide +kernel
theorem dX4_sort_63 : decode cX4_sort 63 = .ok (.iload_n 3, 1) := by decide +kernel
theorem dX4_sort_64 : decode cX4_sort 64 = .ok (.invokevirtual 96, 3) := by decide +kernel
theorem dX4_sort_67 : decode cX4_sort 67 = .ok (.iaload, 1) := by decide +kernel
theorem dX4_sort_68 : decode cX4_sort 68 = .ok (.bipush 7, 2) := by decide +kernel
theorem dX4_sort_70 : decode cX4_sort 70 = .ok (.if_icmp .ne 5, 3) := by decide +kernel
theorem dX4_sort_73 : decode cX4_sort 73 = .ok (.iconst 3, 1) := by decide +kernel
theorem dX4_sort_74 : decode cX4_sort 74 = .ok (.ireturn, 1) := by decide +kernel
theorem dX4_sort_75 : decode cX4_sort 75 = .ok (.iinc 3 1, 3) := by decide +kernel
theorem dX4_sort_78 : decode cX4_sort 78 = .ok (.goto (-36), 3) := by decide +kernel
theorem dX4_sort_81 : decode cX4_sort 81 = .ok (.iconst 0, 1) := by decide +kernel
theorem dX4_sort_82 : decode cX4_sort 82 = .ok (.istore_n 3, 1) := by decide +kernel
theorem dX4_sort_83 : decode cX4_sort 83 = .ok (.iconst 0, 1) := by decide +kernel
theorem dX4_sort_84 : decode cX4_sort 84 = .ok (.istore 4, 2) := by decide +kernel
theorem dX4_sort_86 : decode cX4_sort 86 = .ok (.iload 4, 2) := by decide +kernel
theorem dX4_sort_88 : decode cX4_sort 88 = .ok (.iload_n 2, 1) := by decide +kernel
theorem dX4_sort_89 : decode cX4_sort 89 = .ok (.if_icmp .ge 93, 3) := by decide +kernel
theorem dX4_sort_92 : decode cX4_sort 92 = .ok (.aload_n 0, 1) := by decide +kernel
theorem dX4_sort_93 : decode cX4_sort 93 = .ok (.iload_n 1, 1) := by decide +kernel
theorem dX4_sort_94 : decode cX4_sort 94 = .ok (.iload 4, 2) := by decide +kernel
theorem dX4_sort_96 : decode cX4_sort 96 = .ok (.invokevirtual 96, 3) := by decide +kernel
theorem dX4_sort_99 : decode cX4_sort 99 = .ok (.istore 5, 2) := by decide +kernel
theorem dX4_sort_101 : decode cX4_sort 101 = .ok (.iload 5, 2) := by decide +kernel
theorem dX4_sort_103 : decode cX4_sort 103 = .ok (.iconst (-1), 1) := by decide +kernel
theorem dX4_sort_104 : decode cX4_sort 104 = .ok (.if_icmp .ne 6, 3) := by decide +kernel
theorem dX4_sort_107 : decode cX4_sort 107 = .ok (.goto 69, 3) := by decide +kernel
theorem dX4_sort_110 : decode cX4_sort 110 = .ok (.iload_n 3, 1) := by decide +kernel
theorem dX4_sort_111 : decode cX4_sort 111 = .ok (.istore 6, 2) := by decide +kernel
theorem dX4_sort_113 : decode cX4_sort 113 = .ok (.iload 6, 2) := by decide +kernel
theorem dX4_sort_115 : decode cX4_sort 115 = .ok (.ifCond .le 49, 3) := by decide +kernel
theorem dX4_sort_118 : decode cX4_sort 118 = .ok (.aload_n 0, 1) := by decide +kernel
theorem dX4_sort_119 : decode cX4_sort 119 = .ok (.getfield 16, 3) := by decide +kernel
theorem dX4_sort_122 : decode cX4_sort 122 = .ok (.aload_n 0, 1) := by decide +kernel
theorem dX4_sort_123 : decode cX4_sort 123 = .ok (.getfield 54, 3) := by decide +kernel
theorem dX4_sort_126 : decode cX4_sort 126 = .ok (.iload 6, 2) := by decide +kernel
theorem dX4_sort_128 : decode cX4_sort 128 = .ok (.iconst 1, 1) := by decide +kernel
theorem dX4_sort_129 : decode cX4_sort 129 = .ok (.isub, 1) := by decide +kernel
theorem dX4_sort_130 : decode cX4_sort 130 = .ok (.iaload, 1) := by decide +kernel
theorem dX4_sort_131 : decode cX4_sort 131 = .ok (.iaload, 1) := by decide +kernel
theorem dX4_sort_132 : decode cX4_sort 132 = .ok (.aload_n 0, 1) := by decide +kernel
theorem dX4_sort_133 : decode cX4_sort 133 = .ok (.getfield 16, 3) := by decide +kernel
theorem dX4_sort_136 : decode cX4_sort 136 = .ok (.iload 5, 2) := by decide +kernel
theorem dX4_sort_138 : decode cX4_sort 138 = .ok (.iaload, 1) := by decide +kernel
theorem dX4_sort_139 : decode cX4_sort 139 = .ok (.if_icmp .le 25, 3) := by decide +kernel
theorem dX4_sort_142 : decode cX4_sort 142 = .ok (.aload_n 0, 1) := by decide +kernel
theorem dX4_sort_143 : decode cX4_sort 143 = .ok (.getfield 54, 3) := by decide +kernel
theorem dX4_sort_146 : decode cX4_sort 146 = .ok (.iload 6, 2) := by decide +kernel
theorem dX4_sort_148 : decode cX4_sort 148 = .ok (.aload_n 0, 1) := by decide +kernel
theorem dX4_sort_149 : decode cX4_sort 149 = .ok (.getfield 54, 3) := by decide +kernel
theorem dX4_sort_152 : decode cX4_sort 152 = .ok (.iload 6, 2) := by decide +kernel
theorem dX4_sort_154 : decode cX4_sort 154 = .ok (.iconst 1, 1) := by decide +kernel
theorem dX4_sort_155 : decode cX4_sort 155 = .ok (.isub, 1) := by decide +kernel
theorem dX4_sort_156 : decode cX4_sort 156 = .ok (.iaload, 1) := by decide +kernel
theorem dX4_sort_157 : decode cX4_sort 157 = .ok (.iastore, 1) := by decide +kernel
theorem dX4_sort_158 : decode cX4_sort 158 = .ok (.iinc 6 (-1), 3) := by decide +kernel
theorem dX4_sort_161 : decode cX4_sort 161 = .ok (.goto (-48), 3) := by decide +kernel
theorem dX4_sort_164 : decode cX4_sort 164 = .ok (.aload_n 0, 1) := by decide +kernel
theorem dX4_sort_165 : decode cX4_sort 165 = .ok (.getfield 54, 3) := by decide +kernel
theorem dX4_sort_168 : decode cX4_sort 168 = .ok (.iload 6, 2) := by decide +kernel
theorem dX4_sort_170 : decode cX4_sort 170 = .ok (.iload 5, 2) := by decide +kernel
theorem dX4_sort_172 : decode cX4_sort 172 = .ok (.iastore, 1) := by decide +kernel
theorem dX4_sort_173 : decode cX4_sort 173 = .ok (.iinc 3 1, 3) := by decide +kernel
theorem dX4_sort_176 : decode cX4_sort 176 = .ok (.iinc 4 1, 3) := by decide +kernel
theorem dX4_sort_179 : decode cX4_sort 179 = .ok (.goto (-93), 3) := by decide +kernel
theorem dX4_sort_182 : decode cX4_sort 182 = .ok (.iconst 0, 1) := by decide +kernel
theorem dX4_sort_183 : decode cX4_sort 183 = .ok (.istore 4, 2) := by decide +kernel
theorem dX4_sort_185 : decode cX4_sort 185 = .ok (.iload 4, 2) := by decide +kernel
theorem dX4_sort_187 : decode cX4_sort 187 = .ok (.iload_n 2, 1) := by decide +kernel
theorem dX4_sort_188 : decode cX4_sort 188 = .ok (.if_icmp .ge 43, 3) := by decide +kernel
theorem dX4_sort_191 : decode cX4_sort 191 = .ok (.aload_n 0, 1) := by decide +kernel
theorem dX4_sort_192 : decode cX4_sort 192 = .ok (.getfield 23, 3) := by decide +kernel
theorem dX4_sort_195 : decode cX4_sort 195 = .ok (.aload_n 0, 1) := by decide +kernel
theorem dX4_sort_196 : decode cX4_sort 196 = .ok (.getfield 19, 3) := by decide +kernel
theorem dX4_sort_199 : decode cX4_sort 199 = .ok (.iload_n 1, 1) := by decide +kernel
theorem dX4_sort_200 : decode cX4_sort 200 = .ok (.iaload, 1) := by decide +kernel
theorem dX4_sort_201 : decode cX4_sort 201 = .ok (.iload 4, 2) := by decide +kernel
theorem dX4_sort_203 : decode cX4_sort 203 = .ok (.iadd, 1) := by decide +kernel
theorem dX4_sort_204 : decode cX4_sort 204 = .ok (.iload 4, 2) := by decide +kernel
theorem dX4_sort_206 : decode cX4_sort 206 = .ok (.iload_n 3, 1) := by decide +kernel
theorem dX4_sort_207 : decode cX4_sort 207 = .ok (.if_icmp .ge 14, 3) := by decide +kernel
theorem dX4_sort_210 : decode cX4_sort 210 = .ok (.aload_n 0, 1) := by decide +kernel
theorem dX4_sort_211 : decode cX4_sort 211 = .ok (.getfield 54, 3) := by decide +kernel
theorem dX4_sort_214 : decode cX4_sort 214 = .ok (.iload 4, 2) := by decide +kernel
theorem dX4_sort_216 : decode cX4_sort 216 = .ok (.iaload, 1) := by decide +kernel
theorem dX4_sort_217 : decode cX4_sort 217 = .ok (.i2l, 1) := by decide +kernel
theorem dX4_sort_218 : decode cX4_sort 218 = .ok (.goto 6, 3) := by decide +kernel
theorem dX4_sort_221 : decode cX4_sort 221 = .ok (.ldc2_w 72, 3) := by decide +kernel
theorem dX4_sort_224 : decode cX4_sort 224 = .ok (.lastore, 1) := by decide +kernel
theorem dX4_sort_225 : decode cX4_sort 225 = .ok (.iinc 4 1, 3) := by decide +kernel
theorem dX4_sort_228 : decode cX4_sort 228 = .ok (.goto (-43), 3) := by decide +kernel
theorem dX4_sort_231 : decode cX4_sort 231 = .ok (.iconst 0, 1) := by decide +kernel
theorem dX4_sort_232 : decode cX4_sort 232 = .ok (.ireturn, 1) := by decide +kernel
theorem dX4_copyOne_0 : decode cX4_copyOne 0 = .ok (.aload_n 0, 1) := by decide +kernel
theorem dX4_copyOne_1 : decode cX4_copyOne 1 = .ok (.aload_n 0, 1) := by decide +kernel
theorem dX4_copyOne_2 : decode cX4_copyOne 2 = .ok (.getfield 7, 3) := by decide +kernel
theorem dX4_copyOne_5 : decode cX4_copyOne 5 = .ok (.iload_n 1, 1) := by decide +kernel
theorem dX4_copyOne_6 : decode cX4_copyOne 6 = .ok (.iaload, 1) := by decide +kernel
theorem dX4_copyOne_7 : decode cX4_copyOne 7 = .ok (.aload_n 0, 1) := by decide +kernel
theorem dX4_copyOne_8 : decode cX4_copyOne 8 = .ok (.getfield 13, 3) := by decide +kernel
theorem dX4_copyOne_11 : decode cX4_copyOne 11 = .ok (.iload_n 1, 1) := by decide +kernel
theorem dX4_copyOne_12 : decode cX4_copyOne 12 = .ok (.iaload, 1) := by decide +kernel
theorem dX4_copyOne_13 : decode cX4_copyOne 13 = .ok (.aload_n 0, 1) := by decide +kernel
theorem dX4_copyOne_14 : decode cX4_copyOne 14 = .ok (.getfield 16, 3) := by decide +kernel
theorem dX4_copyOne_17 : decode cX4_copyOne 17 = .ok (.iload_n 1, 1) := by decide +kernel
theorem dX4_copyOne_18 : decode cX4_copyOne 18 = .ok (.iaload, 1) := by decide +kernel
theorem dX4_copyOne_19 : decode cX4_copyOne 19 = .ok (.invokevirtual 74, 3) := by decide +kernel
theorem dX4_copyOne_22 : decode cX4_copyOne 22 = .ok (.istore_n 2, 1) := by decide +kernel
theorem dX4_copyOne_23 : decode cX4_copyOne 23 = .ok (.iconst 0, 1) := by decide +kernel
theorem dX4_copyOne_24 : decode cX4_copyOne 24 = .ok (.istore_n 3, 1) := by decide +kernel
theorem dX4_copyOne_25 : decode cX4_copyOne 25 = .ok (.iload_n 3, 1) := by decide +kernel
theorem dX4_copyOne_26 : decode cX4_copyOne 26 = .ok (.aload_n 0, 1) := by decide +kernel
theorem dX4_copyOne_27 : decode cX4_copyOne 27 = .ok (.getfield 13, 3) := by decide +kernel
theorem dX4_copyOne_30 : decode cX4_copyOne 30 = .ok (.iload_n 1, 1) := by decide +kernel
theorem dX4_copyOne_31 : decode cX4_copyOne 31 = .ok (.iaload, 1) := by decide +kernel
theorem dX4_copyOne_32 : decode cX4_copyOne 32 = .ok (.if_icmp .ge 35, 3) := by decide +kernel
theorem dX4_copyOne_35 : decode cX4_copyOne 35 = .ok (.aload_n 0, 1) := by decide +kernel
theorem dX4_copyOne_36 : decode cX4_copyOne 36 = .ok (.getfield 23, 3) := by decide +kernel
theorem dX4_copyOne_39 : decode cX4_copyOne 39 = .ok (.aload_n 0, 1) := by decide +kernel
theorem dX4_copyOne_40 : decode cX4_copyOne 40 = .ok (.getfield 19, 3) := by decide +kernel
theorem dX4_copyOne_43 : decode cX4_copyOne 43 = .ok (.iload_n 2, 1) := by decide +kernel
theorem dX4_copyOne_44 : decode cX4_copyOne 44 = .ok (.iaload, 1) := by decide +kernel
theorem dX4_copyOne_45 : decode cX4_copyOne 45 = .ok (.iload_n 3, 1) := by decide +kernel
theorem dX4_copyOne_46 : decode cX4_copyOne 46 = .ok (.iadd, 1) := by decide +kernel
theorem dX4_copyOne_47 : decode cX4_copyOne 47 = .ok (.aload_n 0, 1) := by decide +kernel
theorem dX4_copyOne_48 : decode cX4_copyOne 48 = .ok (.getfield 23, 3) := by decide +kernel
theorem dX4_copyOne_51 : decode cX4_copyOne 51 = .ok (.aload_n 0, 1) := by decide +kernel
theorem dX4_copyOne_52 : decode cX4_copyOne 52 = .ok (.getfield 19, 3) := by decide +kernel
theorem dX4_copyOne_55 : decode cX4_copyOne 55 = .ok (.iload_n 1, 1) := by decide +kernel
theorem dX4_copyOne_56 : decode cX4_copyOne 56 = .ok (.iaload, 1) := by decide +kernel
theorem dX4_copyOne_57 : decode cX4_copyOne 57 = .ok (.iload_n 3, 1) := by decide +kernel
theorem dX4_copyOne_58 : decode cX4_copyOne 58 = .ok (.iadd, 1) := by decide +kernel
theorem dX4_copyOne_59 : decode cX4_copyOne 59 = .ok (.laload, 1) := by decide +kernel
theorem dX4_copyOne_60 : decode cX4_copyOne 60 = .ok (.lastore, 1) := by decide +kernel
theorem dX4_copyOne_61 : decode cX4_copyOne 61 = .ok (.iinc 3 1, 3) := by decide +kernel
theorem dX4_copyOne_64 : decode cX4_copyOne 64 = .ok (.goto (-39), 3) := by decide +kernel
theorem dX4_copyOne_67 : decode cX4_copyOne 67 = .ok (.iload_n 2, 1) := by decide +kernel
theorem dX4_copyOne_68 : decode cX4_copyOne 68 = .ok (.ireturn, 1) := by decide +kernel
theorem dX4_copy_0 : decode cX4_copy 0 = .ok (.aload_n 0, 1) := by decide +kernel
theorem dX4_copy_1 : decode cX4_copy 1 = .ok (.iload_n 2, 1) := by decide +kernel
theorem dX4_copy_2 : decode cX4_copy 2 = .ok (.ifCond .ne 19, 3) := by decide +kernel
theorem dX4_copy_5 : decode cX4_copy 5 = .ok (.aload_n 0, 1) := by decide +kernel
theorem dX4_copy_6 : decode cX4_copy 6 = .ok (.iload_n 1, 1) := by decide +kernel
theorem dX4_copy_7 : decode cX4_copy 7 = .ok (.invokevirtual 78, 3) := by decide +kernel
theorem dX4_copy_10 : decode cX4_copy 10 = .ok (.ifCond .eq 7, 3) := by decide +kernel
theorem dX4_copy_13 : decode cX4_copy 13 = .ok (.iconst 0, 1) := by decide +kernel
theorem dX4_copy_14 : decode cX4_copy 14 = .ok (.goto 12, 3) := by decide +kernel
theorem dX4_copy_17 : decode cX4_copy 17 = .ok (.iconst 1, 1) := by decide +kernel
theorem dX4_copy_18 : decode cX4_copy 18 = .ok (.goto 8, 3) := by decide +kernel
theorem dX4_copy_21 : decode cX4_copy 21 = .ok (.aload_n 0, 1) := by decide +kernel
theorem dX4_copy_22 : decode cX4_copy 22 = .ok (.iload_n 1, 1) := by decide +kernel
theorem dX4_copy_23 : decode cX4_copy 23 = .ok (.invokevirtual 123, 3) := by decide +kernel
theorem dX4_copy_26 : decode cX4_copy 26 = .ok (.putfield 93, 3) := by decide +kernel
theorem dX4_copy_29 : decode cX4_copy 29 = .ok (.iload_n 2, 1) := by decide +kernel
theorem dX4_copy_30 : decode cX4_copy 30 = .ok (.ifCond .ne 7, 3) := by decide +kernel
theorem dX4_copy_33 : decode cX4_copy 33 = .ok (.iconst 1, 1) := by decide +kernel
theorem dX4_copy_34 : decode cX4_copy 34 = .ok (.goto 7, 3) := by decide +kernel
theorem dX4_copy_37 : decode cX4_copy 37 = .ok (.aload_n 0, 1) := by decide +kernel
theorem dX4_copy_38 : decode cX4_copy 38 = .ok (.getfield 100, 3) := by decide +kernel
theorem dX4_copy_41 : decode cX4_copy 41 = .ok (.istore_n 3, 1) := by decide +kernel
theorem dX4_copy_42 : decode cX4_copy 42 = .ok (.aload_n 0, 1) := by decide +kernel
theorem dX4_copy_43 : decode cX4_copy 43 = .ok (.getfield 93, 3) := by decide +kernel
theorem dX4_copy_46 : decode cX4_copy 46 = .ok (.ifCond .ne 21, 3) := by decide +kernel
theorem dX4_copy_49 : decode cX4_copy 49 = .ok (.aload_n 0, 1) := by decide +kernel
theorem dX4_copy_50 : decode cX4_copy 50 = .ok (.getfield 57, 3) := by decide +kernel
theorem dX4_copy_53 : decode cX4_copy 53 = .ok (.iload_n 3, 1) := by decide +kernel
theorem dX4_copy_54 : decode cX4_copy 54 = .ok (.iadd, 1) := by decide +kernel
theorem dX4_copy_55 : decode cX4_copy 55 = .ok (.sipush 2000, 3) := by decide +kernel
theorem dX4_copy_58 : decode cX4_copy 58 = .ok (.if_icmp .le 9, 3) := by decide +kernel
theorem dX4_copy_61 : decode cX4_copy 61 = .ok (.aload_n 0, 1) := by decide +kernel
theorem dX4_copy_62 : decode cX4_copy 62 = .ok (.bipush 7, 2) := by decide +kernel
theorem dX4_copy_64 : decode cX4_copy 64 = .ok (.putfield 93, 3) := by decide +kernel
theorem dX4_copy_67 : decode cX4_copy 67 = .ok (.aload_n 0, 1) := by decide +kernel
theorem dX4_copy_68 : decode cX4_copy 68 = .ok (.getfield 93, 3) := by decide +kernel
theorem dX4_copy_71 : decode cX4_copy 71 = .ok (.ifCond .eq 5, 3) := by decide +kernel
theorem dX4_copy_74 : decode cX4_copy 74 = .ok (.iconst (-1), 1) := by decide +kernel
theorem dX4_copy_75 : decode cX4_copy 75 = .ok (.ireturn, 1) := by decide +kernel
theorem dX4_copy_76 : decode cX4_copy 76 = .ok (.aload_n 0, 1) := by decide +kernel
theorem dX4_copy_77 : decode cX4_copy 77 = .ok (.getfield 57, 3) := by decide +kernel
theorem dX4_copy_80 : decode cX4_copy 80 = .ok (.istore 4, 2) := by decide +kernel
theorem dX4_copy_82 : decode cX4_copy 82 = .ok (.iload_n 2, 1) := by decide +kernel
theorem dX4_copy_83 : decode cX4_copy 83 = .ok (.ifCond .ne 9, 3) := by decide +kernel
theorem dX4_copy_86 : decode cX4_copy 86 = .ok (.aload_n 0, 1) := by decide +kernel
theorem dX4_copy_87 : decode cX4_copy 87 = .ok (.iload_n 1, 1) := by decide +kernel
theorem dX4_copy_88 : decode cX4_copy 88 = .ok (.invokevirtual 143, 3) := by decide +kernel
theorem dX4_copy_91 : decode cX4_copy 91 = .ok (.ireturn, 1) := by decide +kernel
theorem dX4_copy_92 : decode cX4_copy 92 = .ok (.iconst 0, 1) := by decide +kernel
theorem dX4_copy_93 : decode cX4_copy 93 = .ok (.istore 5, 2) := by decide +kernel
theorem dX4_copy_95 : decode cX4_copy 95 = .ok (.iload 5, 2) := by decide +kernel
theorem dX4_copy_97 : decode cX4_copy 97 = .ok (.iload_n 3, 1) := by decide +kernel
theorem dX4_copy_98 : decode cX4_copy 98 = .ok (.if_icmp .ge 36, 3) := by decide +kernel
theorem dX4_copy_101 : decode cX4_copy 101 = .ok (.aload_n 0, 1) := by decide +kernel
theorem dX4_copy_102 : decode cX4_copy 102 = .ok (.aload_n 0, 1) := by decide +kernel
theorem dX4_copy_103 : decode cX4_copy 103 = .ok (.getfield 30, 3) := by decide +kernel
theorem dX4_copy_106 : decode cX4_copy 106 = .ok (.iload 5, 2) := by decide +kernel
theorem dX4_copy_108 : decode cX4_copy 108 = .ok (.iaload, 1) := by decide +kernel
theorem dX4_copy_109 : decode cX4_copy 109 = .ok (.invokevirtual 143, 3) := by decide +kernel
theorem dX4_copy_112 : decode cX4_copy 112 = .ok (.istore 6, 2) := by decide +kernel
theorem dX4_copy_114 : decode cX4_copy 114 = .ok (.aload_n 0, 1) := by decide +kernel
theorem dX4_copy_115 : decode cX4_copy 115 = .ok (.getfield 48, 3) := by decide +kernel
theorem dX4_copy_118 : decode cX4_copy 118 = .ok (.aload_n 0, 1) := by decide +kernel
theorem dX4_copy_119 : decode cX4_copy 119 = .ok (.getfield 30, 3) := by decide +kernel
theorem dX4_copy_122 : decode cX4_copy 122 = .ok (.iload 5, 2) := by decide +kernel
theorem dX4_copy_124 : decode cX4_copy 124 = .ok (.iaload, 1) := by decide +kernel
theorem dX4_copy_125 : decode cX4_copy 125 = .ok (.iload 6, 2) := by decide +kernel
theorem dX4_copy_127 : decode cX4_copy 127 = .ok (.iastore, 1) := by decide +kernel
theorem dX4_copy_128 : decode cX4_copy 128 = .ok (.iinc 5 1, 3) := by decide +kernel
theorem dX4_copy_131 : decode cX4_copy 131 = .ok (.goto (-36), 3) := by decide +kernel
theorem dX4_copy_134 : decode cX4_copy 134 = .ok (.iload 4, 2) := by decide +kernel
theorem dX4_copy_136 : decode cX4_copy 136 = .ok (.istore 5, 2) := by decide +kernel
theorem dX4_copy_138 : decode cX4_copy 138 = .ok (.iload 5, 2) := by decide +kernel
theorem dX4_copy_140 : decode cX4_copy 140 = .ok (.aload_n 0, 1) := by decide +kernel
theorem dX4_copy_141 : decode cX4_copy 141 = .ok (.getfield 57, 3) := by decide +kernel
theorem dX4_copy_144 : decode cX4_copy 144 = .ok (.if_icmp .ge 74, 3) := by decide +kernel
theorem dX4_copy_147 : decode cX4_copy 147 = .ok (.iconst 0, 1) := by decide +kernel
theorem dX4_copy_148 : decode cX4_copy 148 = .ok (.istore 6, 2) := by decide +kernel
theorem dX4_copy_150 : decode cX4_copy 150 = .ok (.iload 6, 2) := by decide +kernel
theorem dX4_copy_152 : decode cX4_copy 152 = .ok (.aload_n 0, 1) := by decide +kernel
theorem dX4_copy_153 : decode cX4_copy 153 = .ok (.iload 5, 2) := by decide +kernel
theorem dX4_copy_155 : decode cX4_copy 155 = .ok (.invokevirtual 110, 3) := by decide +kernel
theorem dX4_copy_158 : decode cX4_copy 158 = .ok (.if_icmp .ge 54, 3) := by decide +kernel
theorem dX4_copy_161 : decode cX4_copy 161 = .ok (.aload_n 0, 1) := by decide +kernel
theorem dX4_copy_162 : decode cX4_copy 162 = .ok (.iload 5, 2) := by decide +kernel
theorem dX4_copy_164 : decode cX4_copy 164 = .ok (.iload 6, 2) := by decide +kernel
theorem dX4_copy_166 : decode cX4_copy 166 = .ok (.invokevirtual 96, 3) := by decide +kernel
theorem dX4_copy_169 : decode cX4_copy 169 = .ok (.istore 7, 2) := by decide +kernel
theorem dX4_copy_171 : decode cX4_copy 171 = .ok (.aload_n 0, 1) := by decide +kernel
theorem dX4_copy_172 : decode cX4_copy 172 = .ok (.getfield 23, 3) := by decide +kernel
theorem dX4_copy_175 : decode cX4_copy 175 = .ok (.aload_n 0, 1) := by decide +kernel
theorem dX4_copy_176 : decode cX4_copy 176 = .ok (.getfield 19, 3) := by decide +kernel
theorem dX4_copy_179 : decode cX4_copy 179 = .ok (.iload 5, 2) := by decide +kernel
theorem dX4_copy_181 : decode cX4_copy 181 = .ok (.iaload, 1) := by decide +kernel
theorem dX4_copy_182 : decode cX4_copy 182 = .ok (.iload 6, 2) := by decide +kernel
theorem dX4_copy_184 : decode cX4_copy 184 = .ok (.iadd, 1) := by decide +kernel
theorem dX4_copy_185 : decode cX4_copy 185 = .ok (.iload 7, 2) := by decide +kernel
theorem dX4_copy_187 : decode cX4_copy 187 = .ok (.iconst (-1), 1) := by decide +kernel
theorem dX4_copy_188 : decode cX4_copy 188 = .ok (.if_icmp .ne 9, 3) := by decide +kernel
theorem dX4_copy_191 : decode cX4_copy 191 = .ok (.ldc2_w 72, 3) := by decide +kernel
theorem dX4_copy_194 : decode cX4_copy 194 = .ok (.goto 11, 3) := by decide +kernel
theorem dX4_copy_197 : decode cX4_copy 197 = .ok (.aload_n 0, 1) := by decide +kernel
theorem dX4_copy_198 : decode cX4_copy 198 = .ok (.getfield 48, 3) := by decide +kernel
theorem dX4_copy_201 : decode cX4_copy 201 = .ok (.iload 7, 2) := by decide +kernel
theorem dX4_copy_203 : decode cX4_copy 203 = .ok (.iaload, 1) := by decide +kernel
theorem dX4_copy_204 : decode cX4_copy 204 = .ok (.i2l, 1) := by decide +kernel
theorem dX4_copy_205 : decode cX4_copy 205 = .ok (.lastore, 1) := by decide +kernel
theorem dX4_copy_206 : decode cX4_copy 206 = .ok (.iinc 6 1, 3) := by decide +kernel
theorem dX4_copy_209 : decode cX4_copy 209 = .ok (.goto (-59), 3) := by decide +kernel
theorem dX4_copy_212 : decode cX4_copy 212 = .ok (.iinc 5 1, 3) := by decide +kernel
theorem dX4_copy_215 : decode cX4_copy 215 = .ok (.goto (-77), 3) := by decide +kernel
theorem dX4_copy_218 : decode cX4_copy 218 = .ok (.iload 4, 2) := by decide +kernel
theorem dX4_copy_220 : decode cX4_copy 220 = .ok (.ireturn, 1) := by decide +kernel
theorem dX4_status_0 : decode cX4_status 0 = .ok (.aload_n 0, 1) := by decide +kernel
theorem dX4_status_1 : decode cX4_status 1 = .ok (.getfield 93, 3) := by decide +kernel
theorem dX4_status_4 : decode cX4_status 4 = .ok (.ireturn, 1) := by decide +kernel
theorem dX4_count_0 : decode cX4_count 0 = .ok (.aload_n 0, 1) := by decide +kernel
theorem dX4_count_1 : decode cX4_count 1 = .ok (.getfield 57, 3) := by decide +kernel
theorem dX4_count_4 : decode cX4_count 4 = .ok (.ireturn, 1) := by decide +kernel
end
section
/-! ===== the pool as functions, and a small machine over it ===== -/
abbrev ns_St : Type := (Nat × Nat) × (Nat → Nat) × (Nat → Nat) × (Nat → Nat → Int32) × (Nat → Nat → Int64) × (Nat → Nat → Option Nat) × (Nat → Nat → Int32) × (Nat → Nat → Int64) × (Nat → Nat → Option Nat)
/-- cells so far -/
def ns_z (S : ns_St) : Nat := S.1.1
/-- slots so far -/
def ns_s (S : ns_St) : Nat := S.1.2
/-- kind of a cell: 0 none, 1..5 an object of class 0..4, 6 int[], 7 long[], 8 Thing[] -/
def ns_k (S : ns_St) (a : Nat) : Nat := if a < S.1.1 then S.2.1 a else 0
def ns_n (S : ns_St) (a : Nat) : Nat := S.2.2.1 a
def fI (S : ns_St) : Nat → Nat → Int32 := S.2.2.2.1
def fJ (S : ns_St) : Nat → Nat → Int64 := S.2.2.2.2.1
def fR (S : ns_St) : Nat → Nat → Option Nat := S.2.2.2.2.2.1
def aI (S : ns_St) : Nat → Nat → Int32 := S.2.2.2.2.2.2.1
def aJ (S : ns_St) : Nat → Nat → Int64 := S.2.2.2.2.2.2.2.1
def aR (S : ns_St) : Nat → Nat → Option Nat := S.2.2.2.2.2.2.2.2
def up2 {α : Type} (f : Nat → Nat → α) (k a : Nat) (v : α) : Nat → Nat → α := fun k' a' => if k' = k ∧ a' = a then v else f k' a'
def pI (S : ns_St) (k a : Nat) (v : Int32) : ns_St := (S.1, S.2.1, S.2.2.1, up2 (fI S) k a v, fJ S, fR S, aI S, aJ S, aR S)
def pJ (S : ns_St) (k a : Nat) (v : Int64) : ns_St := (S.1, S.2.1, S.2.2.1, fI S, up2 (fJ S) k a v, fR S, aI S, aJ S, aR S)
def pR (S : ns_St) (k a : Nat) (v : Option Nat) : ns_St := (S.1, S.2.1, S.2.2.1, fI S, fJ S, up2 (fR S) k a v, aI S, aJ S, aR S)
def qI (S : ns_St) (a i : Nat) (v : Int32) : ns_St := (S.1, S.2.1, S.2.2.1, fI S, fJ S, fR S, up2 (aI S) a i v, aJ S, aR S)
def qJ (S : ns_St) (a i : Nat) (v : Int64) : ns_St := (S.1, S.2.1, S.2.2.1, fI S, fJ S, fR S, aI S, up2 (aJ S) a i v, aR S)
def qR (S : ns_St) (a i : Nat) (v : Option Nat) : ns_St := (S.1, S.2.1, S.2.2.1, fI S, fJ S, fR S, aI S, aJ S, up2 (aR S) a i v)
/-- a new object of class ci with n fields -/
def nO (S : ns_St) (ci n : Nat) : ns_St := ((S.1.1 + 1, S.1.2 + n), va_up S.2.1 S.1.1 (ci + 1), S.2.2.1, fun k a => if a = S.1.1 then 0 else fI S k a, fun k a => if a = S.1.1 then 0 else fJ S k a, fun k a => if a = S.1.1 then none else fR S k a, aI S, aJ S, aR S)
/-- a new array of kind kd and length n -/
def nA (S : ns_St) (kd n : Nat) : ns_St := ((S.1.1 + 1, S.1.2 + n), va_up S.2.1 S.1.1 kd, va_up S.2.2.1 S.1.1 n, fI S, fJ S, fR S, fun a i => if a = S.1.1 then 0 else aI S a i, fun a i => if a = S.1.1 then 0 else aJ S a i, fun a i => if a = S.1.1 then none else aR S a i)
/-- a copy of the array b -/
def nC (S : ns_St) (b : Nat) : ns_St := ((S.1.1 + 1, S.1.2 + ns_n S b), va_up S.2.1 S.1.1 (ns_k S b), va_up S.2.2.1 S.1.1 (ns_n S b), fI S, fJ S, fR S, fun a i => if a = S.1.1 then aI S b i else aI S a i, fun a i => if a = S.1.1 then aJ S b i else aJ S a i, fun a i => if a = S.1.1 then aR S b i else aR S a i)
-- the classes
def ns_R (ci : Nat) : String := match ci with
  | 0 => RX0
  | 1 => RX1
  | 2 => RX2
  | 3 => RX3
  | _ => RX4
def ns_T (ci : Nat) : u_T := match ci with
  | 0 => TX0
  | 1 => TX1
  | 2 => TX2
  | 3 => TX3
  | _ => TX4
def ns_ty (ci : Nat) : Nat → FieldType := match ci with
  | 0 => tyX0
  | 1 => tyX1
  | 2 => tyX2
  | 3 => tyX3
  | _ => tyX4
def ns_N (ci : Nat) : Nat := match ci with
  | 0 => 1
  | 1 => 17
  | 2 => 6
  | 3 => 4
  | _ => 20
/-- what a field holds: 0 int, 1 boolean, 2 long, 3 a reference -/
def ns_fk (t : FieldType) : Nat := match t with
  | .int => 0
  | .boolean => 1
  | .long => 2
  | _ => 3
def ns_fv (S : ns_St) (ci k a : Nat) : Value := match ns_fk (ns_ty ci k) with
  | 0 => .int (fI S (100 * ci + k) a)
  | 1 => .int (fI S (100 * ci + k) a)
  | 2 => .long (fJ S (100 * ci + k) a)
  | _ => va_rf (fR S (100 * ci + k) a)
def ns_fl (S : ns_St) (ci a : Nat) : List Value := (List.range (ns_N ci)).map (fun k => ns_fv S ci k a)
def ns_ce (cI cJ cT : ClassId) (S : ns_St) (a : Nat) : va_E :=
  if ns_k S a = 6 then .inl (cI, ns_n S a, .inl (aI S a)) else if ns_k S a = 7 then .inl (cJ, ns_n S a, .inr (.inl (aJ S a))) else if ns_k S a = 8 then .inl (cT, ns_n S a, .inr (.inr (.inr (.inr (aR S a))))) else .inr (ns_k S a - 1, ns_fl S (ns_k S a - 1) a)
def ns_dom (S : ns_St) : List Nat := (List.range (ns_z S)).filter (fun a => ns_k S a != 0)
def ns_pool (cI cJ cT : ClassId) (S : ns_St) : va_W := va_pl (ns_dom S) (ns_ce cI cJ cT S)
-- reading behind writing
theorem up2_at {α : Type} (f : Nat → Nat → α) (k a : Nat) (v : α) (k' a' : Nat) : up2 f k a v k' a' = if k' = k ∧ a' = a then v else f k' a' := rfl
theorem pI_ns_z (S : ns_St) (k a : Nat) (v : Int32) : ns_z (pI S k a v) = ns_z S := rfl
theorem pI_ns_s (S : ns_St) (k a : Nat) (v : Int32) : ns_s (pI S k a v) = ns_s S := rfl
theorem pI_ns_k (S : ns_St) (k a : Nat) (v : Int32) : ns_k (pI S k a v) = ns_k S := rfl
theorem pI_ns_n (S : ns_St) (k a : Nat) (v : Int32) : ns_n (pI S k a v) = ns_n S := rfl
theorem pI_fI (S : ns_St) (k a : Nat) (v : Int32) (k' a' : Nat) : fI (pI S k a v) k' a' = if k' = k ∧ a' = a then v else fI S k' a' := rfl
theorem pI_fJ (S : ns_St) (k a : Nat) (v : Int32) : fJ (pI S k a v) = fJ S := rfl
theorem pI_fR (S : ns_St) (k a : Nat) (v : Int32) : fR (pI S k a v) = fR S := rfl
theorem pI_aI (S : ns_St) (k a : Nat) (v : Int32) : aI (pI S k a v) = aI S := rfl
theorem pI_aJ (S : ns_St) (k a : Nat) (v : Int32) : aJ (pI S k a v) = aJ S := rfl
theorem pI_aR (S : ns_St) (k a : Nat) (v : Int32) : aR (pI S k a v) = aR S := rfl
theorem pJ_ns_z (S : ns_St) (k a : Nat) (v : Int64) : ns_z (pJ S k a v) = ns_z S := rfl
theorem pJ_ns_s (S : ns_St) (k a : Nat) (v : Int64) : ns_s (pJ S k a v) = ns_s S := rfl
theorem pJ_ns_k (S : ns_St) (k a : Nat) (v : Int64) : ns_k (pJ S k a v) = ns_k S := rfl
theorem pJ_ns_n (S : ns_St) (k a : Nat) (v : Int64) : ns_n (pJ S k a v) = ns_n S := rfl
theorem pJ_fI (S : ns_St) (k a : Nat) (v : Int64) : fI (pJ S k a v) = fI S := rfl
theorem pJ_fJ (S : ns_St) (k a : Nat) (v : Int64) (k' a' : Nat) : fJ (pJ S k a v) k' a' = if k' = k ∧ a' = a then v else fJ S k' a' := rfl
theorem pJ_fR (S : ns_St) (k a : Nat) (v : Int64) : fR (pJ S k a v) = fR S := rfl
theorem pJ_aI (S : ns_St) (k a : Nat) (v : Int64) : aI (pJ S k a v) = aI S := rfl
theorem pJ_aJ (S : ns_St) (k a : Nat) (v : Int64) : aJ (pJ S k a v) = aJ S := rfl
theorem pJ_aR (S : ns_St) (k a : Nat) (v : Int64) : aR (pJ S k a v) = aR S := rfl
theorem pR_ns_z (S : ns_St) (k a : Nat) (v : Option Nat) : ns_z (pR S k a v) = ns_z S := rfl
theorem pR_ns_s (S : ns_St) (k a : Nat) (v : Option Nat) : ns_s (pR S k a v) = ns_s S := rfl
theorem pR_ns_k (S : ns_St) (k a : Nat) (v : Option Nat) : ns_k (pR S k a v) = ns_k S := rfl
theorem pR_ns_n (S : ns_St) (k a : Nat) (v : Option Nat) : ns_n (pR S k a v) = ns_n S := rfl
theorem pR_fI (S : ns_St) (k a : Nat) (v : Option Nat) : fI (pR S k a v) = fI S := rfl
theorem pR_fJ (S : ns_St) (k a : Nat) (v : Option Nat) : fJ (pR S k a v) = fJ S := rfl
theorem pR_fR (S : ns_St) (k a : Nat) (v : Option Nat) (k' a' : Nat) : fR (pR S k a v) k' a' = if k' = k ∧ a' = a then v else fR S k' a' := rfl
theorem pR_aI (S : ns_St) (k a : Nat) (v : Option Nat) : aI (pR S k a v) = aI S := rfl
theorem pR_aJ (S : ns_St) (k a : Nat) (v : Option Nat) : aJ (pR S k a v) = aJ S := rfl
theorem pR_aR (S : ns_St) (k a : Nat) (v : Option Nat) : aR (pR S k a v) = aR S := rfl
theorem qI_ns_z (S : ns_St) (k a : Nat) (v : Int32) : ns_z (qI S k a v) = ns_z S := rfl
theorem qI_ns_s (S : ns_St) (k a : Nat) (v : Int32) : ns_s (qI S k a v) = ns_s S := rfl
theorem qI_ns_k (S : ns_St) (k a : Nat) (v : Int32) : ns_k (qI S k a v) = ns_k S := rfl
theorem qI_ns_n (S : ns_St) (k a : Nat) (v : Int32) : ns_n (qI S k a v) = ns_n S := rfl
theorem qI_fI (S : ns_St) (k a : Nat) (v : Int32) : fI (qI S k a v) = fI S := rfl
theorem qI_fJ (S : ns_St) (k a : Nat) (v : Int32) : fJ (qI S k a v) = fJ S := rfl
theorem qI_fR (S : ns_St) (k a : Nat) (v : Int32) : fR (qI S k a v) = fR S := rfl
theorem qI_aI (S : ns_St) (k a : Nat) (v : Int32) (k' a' : Nat) : aI (qI S k a v) k' a' = if k' = k ∧ a' = a then v else aI S k' a' := rfl
theorem qI_aJ (S : ns_St) (k a : Nat) (v : Int32) : aJ (qI S k a v) = aJ S := rfl
theorem qI_aR (S : ns_St) (k a : Nat) (v : Int32) : aR (qI S k a v) = aR S := rfl
theorem qJ_ns_z (S : ns_St) (k a : Nat) (v : Int64) : ns_z (qJ S k a v) = ns_z S := rfl
theorem qJ_ns_s (S : ns_St) (k a : Nat) (v : Int64) : ns_s (qJ S k a v) = ns_s S := rfl
theorem qJ_ns_k (S : ns_St) (k a : Nat) (v : Int64) : ns_k (qJ S k a v) = ns_k S := rfl
theorem qJ_ns_n (S : ns_St) (k a : Nat) (v : Int64) : ns_n (qJ S k a v) = ns_n S := rfl
theorem qJ_fI (S : ns_St) (k a : Nat) (v : Int64) : fI (qJ S k a v) = fI S := rfl
theorem qJ_fJ (S : ns_St) (k a : Nat) (v : Int64) : fJ (qJ S k a v) = fJ S := rfl
theorem qJ_fR (S : ns_St) (k a : Nat) (v : Int64) : fR (qJ S k a v) = fR S := rfl
theorem qJ_aI (S : ns_St) (k a : Nat) (v : Int64) : aI (qJ S k a v) = aI S := rfl
theorem qJ_aJ (S : ns_St) (k a : Nat) (v : Int64) (k' a' : Nat) : aJ (qJ S k a v) k' a' = if k' = k ∧ a' = a then v else aJ S k' a' := rfl
theorem qJ_aR (S : ns_St) (k a : Nat) (v : Int64) : aR (qJ S k a v) = aR S := rfl
theorem qR_ns_z (S : ns_St) (k a : Nat) (v : Option Nat) : ns_z (qR S k a v) = ns_z S := rfl
theorem qR_ns_s (S : ns_St) (k a : Nat) (v : Option Nat) : ns_s (qR S k a v) = ns_s S := rfl
theorem qR_ns_k (S : ns_St) (k a : Nat) (v : Option Nat) : ns_k (qR S k a v) = ns_k S := rfl
theorem qR_ns_n (S : ns_St) (k a : Nat) (v : Option Nat) : ns_n (qR S k a v) = ns_n S := rfl
theorem qR_fI (S : ns_St) (k a : Nat) (v : Option Nat) : fI (qR S k a v) = fI S := rfl
theorem qR_fJ (S : ns_St) (k a : Nat) (v : Option Nat) : fJ (qR S k a v) = fJ S := rfl
theorem qR_fR (S : ns_St) (k a : Nat) (v : Option Nat) : fR (qR S k a v) = fR S := rfl
theorem qR_aI (S : ns_St) (k a : Nat) (v : Option Nat) : aI (qR S k a v) = aI S := rfl
theorem qR_aJ (S : ns_St) (k a : Nat) (v : Option Nat) : aJ (qR S k a v) = aJ S := rfl
theorem qR_aR (S : ns_St) (k a : Nat) (v : Option Nat) (k' a' : Nat) : aR (qR S k a v) k' a' = if k' = k ∧ a' = a then v else aR S k' a' := rfl
theorem nO_ns_z (S : ns_St) (ci n : Nat) : ns_z (nO S ci n) = ns_z S + 1 := rfl
theorem nO_ns_s (S : ns_St) (ci n : Nat) : ns_s (nO S ci n) = ns_s S + n := rfl
theorem nO_ns_k (S : ns_St) (ci n a : Nat) : ns_k (nO S ci n) a = if a = ns_z S then ci + 1 else ns_k S a := by
  simp only [ns_k, nO, ns_z, va_up]
  by_cases h : a = S.1.1
  · simp [h]
  · by_cases h2 : a < S.1.1
    · simp [h, h2, Nat.lt_succ_of_lt h2]
    · have h3 : ¬ a < S.1.1 + 1 := by omega
      simp [h, h2, h3]
theorem nO_ns_n (S : ns_St) (ci n : Nat) : ns_n (nO S ci n) = ns_n S := rfl
theorem nO_fI (S : ns_St) (ci n k a : Nat) : fI (nO S ci n) k a = if a = ns_z S then 0 else fI S k a := rfl
theorem nO_fJ (S : ns_St) (ci n k a : Nat) : fJ (nO S ci n) k a = if a = ns_z S then 0 else fJ S k a := rfl
theorem nO_fR (S : ns_St) (ci n k a : Nat) : fR (nO S ci n) k a = if a = ns_z S then none else fR S k a := rfl
theorem nO_aI (S : ns_St) (ci n : Nat) : aI (nO S ci n) = aI S := rfl
theorem nO_aJ (S : ns_St) (ci n : Nat) : aJ (nO S ci n) = aJ S := rfl
theorem nO_aR (S : ns_St) (ci n : Nat) : aR (nO S ci n) = aR S := rfl
theorem nA_ns_z (S : ns_St) (kd n : Nat) : ns_z (nA S kd n) = ns_z S + 1 := rfl
theorem nA_ns_s (S : ns_St) (kd n : Nat) : ns_s (nA S kd n) = ns_s S + n := rfl
theorem nA_ns_k (S : ns_St) (kd n : Nat) (a : Nat) : ns_k (nA S kd n) a = if a = ns_z S then kd else ns_k S a := by
  simp only [ns_k, nA, ns_z, va_up]
  by_cases h : a = S.1.1
  · simp [h]
  · by_cases h2 : a < S.1.1
    · simp [h, h2, Nat.lt_succ_of_lt h2]
    · have h3 : ¬ a < S.1.1 + 1 := by omega
      simp [h, h2, h3]
theorem nA_ns_n (S : ns_St) (kd n : Nat) (a : Nat) : ns_n (nA S kd n) a = if a = ns_z S then n else ns_n S a := rfl
theorem nA_fI (S : ns_St) (kd n : Nat) : fI (nA S kd n) = fI S := rfl
theorem nA_fJ (S : ns_St) (kd n : Nat) : fJ (nA S kd n) = fJ S := rfl
theorem nA_fR (S : ns_St) (kd n : Nat) : fR (nA S kd n) = fR S := rfl
theorem nA_aI (S : ns_St) (kd n : Nat) (a i : Nat) : aI (nA S kd n) a i = if a = ns_z S then 0 else aI S a i := rfl
theorem nA_aJ (S : ns_St) (kd n : Nat) (a i : Nat) : aJ (nA S kd n) a i = if a = ns_z S then 0 else aJ S a i := rfl
theorem nA_aR (S : ns_St) (kd n : Nat) (a i : Nat) : aR (nA S kd n) a i = if a = ns_z S then none else aR S a i := rfl
theorem nC_ns_z (S : ns_St) (b : Nat) : ns_z (nC S b) = ns_z S + 1 := rfl
theorem nC_ns_s (S : ns_St) (b : Nat) : ns_s (nC S b) = ns_s S + ns_n S b := rfl
theorem nC_ns_k (S : ns_St) (b : Nat) (a : Nat) : ns_k (nC S b) a = if a = ns_z S then ns_k S b else ns_k S a := by
  simp only [ns_k, nC, ns_z, va_up]
  by_cases h : a = S.1.1
  · simp [h]
  · by_cases h2 : a < S.1.1
    · simp [h, h2, Nat.lt_succ_of_lt h2]
    · have h3 : ¬ a < S.1.1 + 1 := by omega
      simp [h, h2, h3]
theorem nC_ns_n (S : ns_St) (b : Nat) (a : Nat) : ns_n (nC S b) a = if a = ns_z S then ns_n S b else ns_n S a := rfl
theorem nC_fI (S : ns_St) (b : Nat) : fI (nC S b) = fI S := rfl
theorem nC_fJ (S : ns_St) (b : Nat) : fJ (nC S b) = fJ S := rfl
theorem nC_fR (S : ns_St) (b : Nat) : fR (nC S b) = fR S := rfl
theorem nC_aI (S : ns_St) (b : Nat) (a i : Nat) : aI (nC S b) a i = if a = ns_z S then aI S b i else aI S a i := rfl
theorem nC_aJ (S : ns_St) (b : Nat) (a i : Nat) : aJ (nC S b) a i = if a = ns_z S then aJ S b i else aJ S a i := rfl
theorem nC_aR (S : ns_St) (b : Nat) (a i : Nat) : aR (nC S b) a i = if a = ns_z S then aR S b i else aR S a i := rfl
end
section
def ns_y (k : Nat) : MethodName := match k with
  | 0 => yX0_init
  | 1 => yX0_matches
  | 2 => yX0_joinPlaces
  | 3 => yX0_join
  | 4 => yX0_topOf
  | 5 => yX1_init
  | 6 => yX1_duplicate
  | 7 => yX1_beginNotes
  | 8 => yX1_addNotesOf
  | 9 => yX1_looksLike
  | 10 => yX1_hasNumbersOf
  | 11 => yX2_init
  | 12 => yX2_goFrom
  | 13 => yX2_meet
  | 14 => yX2_arrive
  | 15 => yX2_leave
  | 16 => yX3_init
  | 17 => yX3_make
  | 18 => yX3_token
  | 19 => yX3_put
  | 20 => yX3_hang
  | 21 => yX3_kind
  | 22 => yX3_length
  | 23 => yX3_number
  | 24 => yX3_below
  | 25 => yX3_is
  | 26 => yX3_as
  | 27 => yX3_weight
  | 28 => yX3_depth
  | 29 => yX3_equal
  | 30 => yX3_order
  | 31 => yX3_sort
  | 32 => yX3_copy
  | 33 => yX3_ring
  | 34 => yX3_status
  | 35 => yX3_count
  | 36 => yX3_thingAt
  | 37 => yX3_hasRoomFor
  | 38 => yX3_shelve
  | 39 => yX3_holdsNumbers
  | 40 => yX3_holdsThings
  | 41 => yX3_isToken
  | 42 => yX3_fitted
  | 43 => yX3_passes
  | 44 => yX3_mayHang
  | 45 => yX3_isUnknownQuestion
  | 46 => yX3_numberRefusal
  | 47 => yX3_belowRefusal
  | 48 => yX3_walkRefusal
  | 49 => yX3_firstReason
  | 50 => yX3_copyRefusal
  | 51 => yX3_shelveTwins
  | 52 => yX3_hangTwins
  | 53 => yX3_holdsPlainToken
  | 54 => yX3_putInOrder
  | 55 => yX3_belongsBehind
  | 56 => yX4_init
  | 57 => yX4_in
  | 58 => yX4_isThere
  | 59 => yX4_isNumbers
  | 60 => yX4_isHook
  | 61 => yX4_hung
  | 62 => yX4_hooks
  | 63 => yX4_add
  | 64 => yX4_make
  | 65 => yX4_token
  | 66 => yX4_put
  | 67 => yX4_passes
  | 68 => yX4_mayHang
  | 69 => yX4_hang
  | 70 => yX4_kind
  | 71 => yX4_length
  | 72 => yX4_number
  | 73 => yX4_below
  | 74 => yX4_is
  | 75 => yX4_as
  | 76 => yX4_beginWalk
  | 77 => yX4_walk
  | 78 => yX4_comeTo
  | 79 => yX4_workDepths
  | 80 => yX4_goThrough
  | 81 => yX4_own
  | 82 => yX4_weight
  | 83 => yX4_depth
  | 84 => yX4_ring
  | 85 => yX4_mix
  | 86 => yX4_isLike
  | 87 => yX4_workLikes
  | 88 => yX4_equal
  | 89 => yX4_order
  | 90 => yX4_sort
  | 91 => yX4_copyOne
  | 92 => yX4_copy
  | 93 => yX4_status
  | _ => yX4_count
def ns_c (k : Nat) : ByteArray := match k with
  | 0 => cX0_init
  | 1 => cX0_matches
  | 2 => cX0_joinPlaces
  | 3 => cX0_join
  | 4 => cX0_topOf
  | 5 => cX1_init
  | 6 => cX1_duplicate
  | 7 => cX1_beginNotes
  | 8 => cX1_addNotesOf
  | 9 => cX1_looksLike
  | 10 => cX1_hasNumbersOf
  | 11 => cX2_init
  | 12 => cX2_goFrom
  | 13 => cX2_meet
  | 14 => cX2_arrive
  | 15 => cX2_leave
  | 16 => cX3_init
  | 17 => cX3_make
  | 18 => cX3_token
  | 19 => cX3_put
  | 20 => cX3_hang
  | 21 => cX3_kind
  | 22 => cX3_length
  | 23 => cX3_number
  | 24 => cX3_below
  | 25 => cX3_is
  | 26 => cX3_as
  | 27 => cX3_weight
  | 28 => cX3_depth
  | 29 => cX3_equal
  | 30 => cX3_order
  | 31 => cX3_sort
  | 32 => cX3_copy
  | 33 => cX3_ring
  | 34 => cX3_status
  | 35 => cX3_count
  | 36 => cX3_thingAt
  | 37 => cX3_hasRoomFor
  | 38 => cX3_shelve
  | 39 => cX3_holdsNumbers
  | 40 => cX3_holdsThings
  | 41 => cX3_isToken
  | 42 => cX3_fitted
  | 43 => cX3_passes
  | 44 => cX3_mayHang
  | 45 => cX3_isUnknownQuestion
  | 46 => cX3_numberRefusal
  | 47 => cX3_belowRefusal
  | 48 => cX3_walkRefusal
  | 49 => cX3_firstReason
  | 50 => cX3_copyRefusal
  | 51 => cX3_shelveTwins
  | 52 => cX3_hangTwins
  | 53 => cX3_holdsPlainToken
  | 54 => cX3_putInOrder
  | 55 => cX3_belongsBehind
  | 56 => cX4_init
  | 57 => cX4_in
  | 58 => cX4_isThere
  | 59 => cX4_isNumbers
  | 60 => cX4_isHook
  | 61 => cX4_hung
  | 62 => cX4_hooks
  | 63 => cX4_add
  | 64 => cX4_make
  | 65 => cX4_token
  | 66 => cX4_put
  | 67 => cX4_passes
  | 68 => cX4_mayHang
  | 69 => cX4_hang
  | 70 => cX4_kind
  | 71 => cX4_length
  | 72 => cX4_number
  | 73 => cX4_below
  | 74 => cX4_is
  | 75 => cX4_as
  | 76 => cX4_beginWalk
  | 77 => cX4_walk
  | 78 => cX4_comeTo
  | 79 => cX4_workDepths
  | 80 => cX4_goThrough
  | 81 => cX4_own
  | 82 => cX4_weight
  | 83 => cX4_depth
  | 84 => cX4_ring
  | 85 => cX4_mix
  | 86 => cX4_isLike
  | 87 => cX4_workLikes
  | 88 => cX4_equal
  | 89 => cX4_order
  | 90 => cX4_sort
  | 91 => cX4_copyOne
  | 92 => cX4_copy
  | 93 => cX4_status
  | _ => cX4_count
def ns_m (k : Nat) : Nat := match k with
  | 0 => 1
  | 1 => 6
  | 2 => 6
  | 3 => 8
  | 4 => 3
  | 5 => 6
  | 6 => 3
  | 7 => 3
  | 8 => 2
  | 9 => 2
  | 10 => 3
  | 11 => 1
  | 12 => 5
  | 13 => 3
  | 14 => 3
  | 15 => 3
  | 16 => 1
  | 17 => 6
  | 18 => 5
  | 19 => 8
  | 20 => 6
  | 21 => 3
  | 22 => 3
  | 23 => 4
  | 24 => 5
  | 25 => 4
  | 26 => 4
  | 27 => 3
  | 28 => 3
  | 29 => 6
  | 30 => 5
  | 31 => 3
  | 32 => 4
  | 33 => 3
  | 34 => 1
  | 35 => 1
  | 36 => 2
  | 37 => 2
  | 38 => 2
  | 39 => 1
  | 40 => 1
  | 41 => 1
  | 42 => 3
  | 43 => 2
  | 44 => 2
  | 45 => 3
  | 46 => 3
  | 47 => 2
  | 48 => 2
  | 49 => 2
  | 50 => 5
  | 51 => 5
  | 52 => 4
  | 53 => 3
  | 54 => 4
  | 55 => 2
  | 56 => 2
  | 57 => 3
  | 58 => 2
  | 59 => 1
  | 60 => 1
  | 61 => 3
  | 62 => 2
  | 63 => 5
  | 64 => 3
  | 65 => 3
  | 66 => 6
  | 67 => 4
  | 68 => 3
  | 69 => 4
  | 70 => 2
  | 71 => 2
  | 72 => 4
  | 73 => 3
  | 74 => 3
  | 75 => 3
  | 76 => 2
  | 77 => 5
  | 78 => 3
  | 79 => 6
  | 80 => 2
  | 81 => 5
  | 82 => 5
  | 83 => 2
  | 84 => 8
  | 85 => 8
  | 86 => 10
  | 87 => 6
  | 88 => 3
  | 89 => 3
  | 90 => 7
  | 91 => 4
  | 92 => 8
  | 93 => 1
  | _ => 1
def ns_r (k : Nat) : Option FieldType := match k with
  | 0 => none
  | 1 => (some .boolean)
  | 2 => (some .boolean)
  | 3 => (some (.object "NestShelf$Thing"))
  | 4 => (some (.object "NestShelf$Thing"))
  | 5 => none
  | 6 => (some (.object "NestShelf$Thing"))
  | 7 => none
  | 8 => none
  | 9 => (some .boolean)
  | 10 => (some .boolean)
  | 11 => none
  | 12 => none
  | 13 => (some (.object "NestShelf$Thing"))
  | 14 => (some (.object "NestShelf$Thing"))
  | 15 => (some (.object "NestShelf$Thing"))
  | 16 => none
  | 17 => (some .int)
  | 18 => (some .int)
  | 19 => (some .int)
  | 20 => (some .int)
  | 21 => (some .int)
  | 22 => (some .int)
  | 23 => (some .long)
  | 24 => (some .int)
  | 25 => (some .int)
  | 26 => (some .int)
  | 27 => (some .long)
  | 28 => (some .int)
  | 29 => (some .int)
  | 30 => (some .int)
  | 31 => (some .int)
  | 32 => (some .int)
  | 33 => (some .int)
  | 34 => (some .int)
  | 35 => (some .int)
  | 36 => (some (.object "NestShelf$Thing"))
  | 37 => (some .boolean)
  | 38 => (some .int)
  | 39 => (some .boolean)
  | 40 => (some .boolean)
  | 41 => (some .boolean)
  | 42 => (some .long)
  | 43 => (some .boolean)
  | 44 => (some .boolean)
  | 45 => (some .boolean)
  | 46 => (some .int)
  | 47 => (some .int)
  | 48 => (some .int)
  | 49 => (some .int)
  | 50 => (some .int)
  | 51 => (some .int)
  | 52 => none
  | 53 => (some .boolean)
  | 54 => none
  | 55 => (some .boolean)
  | 56 => none
  | 57 => (some .boolean)
  | 58 => (some .boolean)
  | 59 => (some .boolean)
  | 60 => (some .boolean)
  | 61 => (some .int)
  | 62 => (some .int)
  | 63 => (some .int)
  | 64 => (some .int)
  | 65 => (some .int)
  | 66 => (some .int)
  | 67 => (some .boolean)
  | 68 => (some .boolean)
  | 69 => (some .int)
  | 70 => (some .int)
  | 71 => (some .int)
  | 72 => (some .long)
  | 73 => (some .int)
  | 74 => (some .int)
  | 75 => (some .int)
  | 76 => none
  | 77 => (some .boolean)
  | 78 => none
  | 79 => none
  | 80 => (some .int)
  | 81 => (some .long)
  | 82 => (some .long)
  | 83 => (some .int)
  | 84 => (some .int)
  | 85 => (some .long)
  | 86 => (some .boolean)
  | 87 => none
  | 88 => (some .int)
  | 89 => (some .int)
  | 90 => (some .int)
  | 91 => (some .int)
  | 92 => (some .int)
  | 93 => (some .int)
  | _ => (some .int)
/-- the class of a method -/
def ns_o (k : Nat) : Nat := if k < 5 then 0 else if k < 11 then 1 else if k < 16 then 2 else if k < 56 then 3 else 4
/-- how deep the calls below a method go, and one -/
def ns_h (k : Nat) : Nat := [1, 4, 3, 2, 1, 1, 2, 1, 1, 2, 1, 1, 4, 3, 2, 2, 2, 2, 2, 2, 4, 2, 2, 3, 3, 3, 3, 6, 6, 6, 2, 3, 7, 5, 1, 1, 1, 1, 1, 1, 1, 1, 1, 2, 3, 1, 2, 2, 5, 1, 6, 3, 1, 1, 2, 1, 1, 1, 2, 1, 2, 1, 3, 3, 4, 4, 3, 1, 2, 3, 3, 3, 3, 3, 3, 3, 1, 4, 1, 4, 5, 2, 6, 6, 4, 3, 3, 4, 5, 3, 3, 4, 6, 1, 1].getD k 0
def ns_pn (k : Nat) : Nat := [0, 2, 2, 2, 1, 5, 1, 2, 1, 1, 1, 0, 1, 2, 2, 1, 0, 2, 2, 3, 3, 1, 1, 2, 2, 2, 2, 1, 1, 2, 2, 1, 2, 1, 0, 0, 1, 1, 1, 1, 1, 1, 2, 2, 2, 3, 2, 2, 1, 2, 2, 1, 1, 1, 1, 2, 0, 3, 1, 1, 1, 2, 1, 3, 2, 2, 3, 2, 2, 3, 1, 1, 2, 2, 2, 2, 0, 1, 2, 0, 1, 1, 1, 1, 1, 1, 2, 0, 2, 2, 1, 1, 2, 0, 0].getD k 0
def ns_ini (k : Nat) : Bool := [0, 5, 11, 16, 56].contains k
def ns_stt (k : Nat) : Bool := [4, 39, 40, 41, 42, 43, 44, 45, 46, 47, 49, 52, 53, 54, 55, 57, 59, 60].contains k
def ns_ft : List (Nat × Nat × (Nat × Nat)) := [(0, 15, (1, 14)), (0, 29, (1, 16)), (0, 32, (1, 4)), (0, 40, (1, 15)), (0, 44, (0, 0)), (1, 7, (1, 0)), (1, 13, (1, 1)), (1, 16, (1, 2)), (1, 19, (1, 3)), (1, 23, (1, 4)), (1, 27, (1, 5)), (1, 41, (1, 6)), (1, 44, (1, 7)), (1, 48, (1, 8)), (1, 51, (1, 9)), (1, 55, (1, 10)), (1, 58, (1, 11)), (1, 61, (1, 12)), (1, 64, (1, 13)), (1, 67, (1, 14)), (1, 70, (1, 15)), (1, 73, (1, 16)), (2, 9, (2, 0)), (2, 15, (2, 1)), (2, 19, (2, 2)), (2, 22, (2, 3)), (2, 25, (2, 4)), (2, 29, (2, 5)), (2, 37, (1, 8)), (2, 42, (1, 4)), (2, 53, (1, 6)), (2, 56, (1, 7)), (2, 67, (1, 10)), (2, 70, (1, 9)), (3, 11, (3, 0)), (3, 18, (3, 1)), (3, 22, (3, 2)), (3, 26, (3, 3)), (3, 47, (1, 1)), (3, 50, (1, 3)), (3, 58, (1, 5)), (3, 65, (1, 4)), (3, 76, (1, 2)), (3, 82, (1, 0)), (3, 97, (1, 12)), (3, 100, (1, 11)), (3, 135, (2, 5)), (3, 142, (2, 4)), (3, 150, (2, 3)), (3, 153, (1, 13)), (3, 157, (1, 10)), (4, 7, (4, 1)), (4, 13, (4, 2)), (4, 16, (4, 3)), (4, 19, (4, 4)), (4, 23, (4, 5)), (4, 27, (4, 8)), (4, 30, (4, 9)), (4, 33, (4, 10)), (4, 36, (4, 13)), (4, 39, (4, 14)), (4, 42, (4, 15)), (4, 45, (4, 16)), (4, 48, (4, 17)), (4, 51, (4, 18)), (4, 54, (4, 19)), (4, 57, (4, 0)), (4, 69, (4, 6)), (4, 93, (4, 7)), (4, 100, (4, 11)), (4, 103, (4, 12))]
def ns_mt : List (Nat × Nat × Nat) := [(0, 9, 3), (0, 21, 9), (0, 25, 2), (0, 36, 4), (1, 38, 5), (1, 76, 10), (2, 32, 14), (2, 46, 15), (2, 50, 13), (2, 59, 8), (2, 63, 7), (3, 29, 37), (3, 33, 39), (3, 36, 5), (3, 39, 38), (3, 43, 36), (3, 54, 42), (3, 62, 40), (3, 68, 44), (3, 72, 46), (3, 79, 47), (3, 85, 45), (3, 89, 43), (3, 92, 48), (3, 103, 49), (3, 110, 1), (3, 114, 53), (3, 118, 54), (3, 122, 50), (3, 125, 6), (3, 128, 51), (3, 131, 12), (3, 139, 41), (3, 160, 52), (3, 163, 55), (4, 61, 57), (4, 65, 60), (4, 74, 63), (4, 78, 58), (4, 81, 59), (4, 86, 67), (4, 90, 68), (4, 96, 61), (4, 106, 78), (4, 110, 62), (4, 114, 76), (4, 117, 77), (4, 120, 79), (4, 123, 80), (4, 126, 81), (4, 134, 85), (4, 137, 86), (4, 140, 87), (4, 143, 91)]
def ns_nt : List (Nat × Nat × Nat) := [(3, 17, 11), (3, 109, 0)]
def ns_ct : List (Nat × Nat × Nat) := [(1, 8, 1), (3, 9, 1), (3, 15, 2), (3, 107, 0)]
def ns_ot : List (Nat × Nat × Nat) := [(0, 3, 0), (1, 1, 0), (2, 3, 0), (3, 3, 0), (4, 1, 0)]
def ns_k1 : List (Nat × Nat × Int32) := [(2, 36, 1002000), (4, 22, 1000000)]
def ns_k2 : List (Nat × Nat × Int64) := [(3, 95, -1), (4, 130, 31), (4, 132, 1000003), (4, 72, -1), (4, 84, 65535)]
end
section
/-! ===== the words that every method takes along ===== -/
def ns_Gt : List Cond := lw_tbl.filter goodWord
abbrev ns_w (k : Nat) : List Cond := Cond.code (ns_y k) (ns_c k) (ns_m k) (ns_r k) :: ns_Gt
theorem ns_Gt_good : ∀ w ∈ ns_Gt, w ∈ lw_tbl ∧ goodWord w = true := fun _ h => ⟨(List.mem_filter.mp h).1, (List.mem_filter.mp h).2⟩
theorem ns_in_Gt {w : Cond} (h : w ∈ lw_tbl) (hg : goodWord w = true) : w ∈ ns_Gt := List.mem_filter.mpr ⟨h, hg⟩
set_option maxRecDepth 100000 in
theorem ns_cw_0 : Cond.code (ns_y 0) (ns_c 0) (ns_m 0) (ns_r 0) ∈ ns_Gt := ns_in_Gt (List.mem_append_right _ (List.mem_of_getElem? (i := 267) rfl)) rfl
set_option maxRecDepth 100000 in
theorem ns_cw_1 : Cond.code (ns_y 1) (ns_c 1) (ns_m 1) (ns_r 1) ∈ ns_Gt := ns_in_Gt (List.mem_append_right _ (List.mem_of_getElem? (i := 276) rfl)) rfl
set_option maxRecDepth 100000 in
theorem ns_cw_2 : Cond.code (ns_y 2) (ns_c 2) (ns_m 2) (ns_r 2) ∈ ns_Gt := ns_in_Gt (List.mem_append_right _ (List.mem_of_getElem? (i := 295) rfl)) rfl
set_option maxRecDepth 100000 in
theorem ns_cw_3 : Cond.code (ns_y 3) (ns_c 3) (ns_m 3) (ns_r 3) ∈ ns_Gt := ns_in_Gt (List.mem_append_right _ (List.mem_of_getElem? (i := 280) rfl)) rfl
set_option maxRecDepth 100000 in
theorem ns_cw_4 : Cond.code (ns_y 4) (ns_c 4) (ns_m 4) (ns_r 4) ∈ ns_Gt := ns_in_Gt (List.mem_append_right _ (List.mem_of_getElem? (i := 283) rfl)) rfl
set_option maxRecDepth 100000 in
theorem ns_cw_5 : Cond.code (ns_y 5) (ns_c 5) (ns_m 5) (ns_r 5) ∈ ns_Gt := ns_in_Gt (List.mem_append_right _ (List.mem_of_getElem? (i := 72) rfl)) rfl
set_option maxRecDepth 100000 in
theorem ns_cw_6 : Cond.code (ns_y 6) (ns_c 6) (ns_m 6) (ns_r 6) ∈ ns_Gt := ns_in_Gt (List.mem_append_right _ (List.mem_of_getElem? (i := 324) rfl)) rfl
set_option maxRecDepth 100000 in
theorem ns_cw_7 : Cond.code (ns_y 7) (ns_c 7) (ns_m 7) (ns_r 7) ∈ ns_Gt := ns_in_Gt (List.mem_append_right _ (List.mem_of_getElem? (i := 234) rfl)) rfl
set_option maxRecDepth 100000 in
theorem ns_cw_8 : Cond.code (ns_y 8) (ns_c 8) (ns_m 8) (ns_r 8) ∈ ns_Gt := ns_in_Gt (List.mem_append_right _ (List.mem_of_getElem? (i := 243) rfl)) rfl
set_option maxRecDepth 100000 in
theorem ns_cw_9 : Cond.code (ns_y 9) (ns_c 9) (ns_m 9) (ns_r 9) ∈ ns_Gt := ns_in_Gt (List.mem_append_right _ (List.mem_of_getElem? (i := 287) rfl)) rfl
set_option maxRecDepth 100000 in
theorem ns_cw_10 : Cond.code (ns_y 10) (ns_c 10) (ns_m 10) (ns_r 10) ∈ ns_Gt := ns_in_Gt (List.mem_append_right _ (List.mem_of_getElem? (i := 291) rfl)) rfl
set_option maxRecDepth 100000 in
theorem ns_cw_11 : Cond.code (ns_y 11) (ns_c 11) (ns_m 11) (ns_r 11) ∈ ns_Gt := ns_in_Gt (List.mem_append_right _ (List.mem_of_getElem? (i := 21) rfl)) rfl
set_option maxRecDepth 100000 in
theorem ns_cw_12 : Cond.code (ns_y 12) (ns_c 12) (ns_m 12) (ns_r 12) ∈ ns_Gt := ns_in_Gt (List.mem_append_right _ (List.mem_of_getElem? (i := 226) rfl)) rfl
set_option maxRecDepth 100000 in
theorem ns_cw_13 : Cond.code (ns_y 13) (ns_c 13) (ns_m 13) (ns_r 13) ∈ ns_Gt := ns_in_Gt (List.mem_append_right _ (List.mem_of_getElem? (i := 247) rfl)) rfl
set_option maxRecDepth 100000 in
theorem ns_cw_14 : Cond.code (ns_y 14) (ns_c 14) (ns_m 14) (ns_r 14) ∈ ns_Gt := ns_in_Gt (List.mem_append_right _ (List.mem_of_getElem? (i := 230) rfl)) rfl
set_option maxRecDepth 100000 in
theorem ns_cw_15 : Cond.code (ns_y 15) (ns_c 15) (ns_m 15) (ns_r 15) ∈ ns_Gt := ns_in_Gt (List.mem_append_right _ (List.mem_of_getElem? (i := 239) rfl)) rfl
set_option maxRecDepth 100000 in
theorem ns_cw_16 : Cond.code (ns_y 16) (ns_c 16) (ns_m 16) (ns_r 16) ∈ ns_Gt := ns_in_Gt (List.mem_append_right _ (List.mem_of_getElem? (i := 11) rfl)) rfl
set_option maxRecDepth 100000 in
theorem ns_cw_17 : Cond.code (ns_y 17) (ns_c 17) (ns_m 17) (ns_r 17) ∈ ns_Gt := ns_in_Gt (List.mem_append_right _ (List.mem_of_getElem? (i := 61) rfl)) rfl
set_option maxRecDepth 100000 in
theorem ns_cw_18 : Cond.code (ns_y 18) (ns_c 18) (ns_m 18) (ns_r 18) ∈ ns_Gt := ns_in_Gt (List.mem_append_right _ (List.mem_of_getElem? (i := 154) rfl)) rfl
set_option maxRecDepth 100000 in
theorem ns_cw_19 : Cond.code (ns_y 19) (ns_c 19) (ns_m 19) (ns_r 19) ∈ ns_Gt := ns_in_Gt (List.mem_append_right _ (List.mem_of_getElem? (i := 158) rfl)) rfl
set_option maxRecDepth 100000 in
theorem ns_cw_20 : Cond.code (ns_y 20) (ns_c 20) (ns_m 20) (ns_r 20) ∈ ns_Gt := ns_in_Gt (List.mem_append_right _ (List.mem_of_getElem? (i := 169) rfl)) rfl
set_option maxRecDepth 100000 in
theorem ns_cw_21 : Cond.code (ns_y 21) (ns_c 21) (ns_m 21) (ns_r 21) ∈ ns_Gt := ns_in_Gt (List.mem_append_right _ (List.mem_of_getElem? (i := 185) rfl)) rfl
set_option maxRecDepth 100000 in
theorem ns_cw_22 : Cond.code (ns_y 22) (ns_c 22) (ns_m 22) (ns_r 22) ∈ ns_Gt := ns_in_Gt (List.mem_append_right _ (List.mem_of_getElem? (i := 189) rfl)) rfl
set_option maxRecDepth 100000 in
theorem ns_cw_23 : Cond.code (ns_y 23) (ns_c 23) (ns_m 23) (ns_r 23) ∈ ns_Gt := ns_in_Gt (List.mem_append_right _ (List.mem_of_getElem? (i := 193) rfl)) rfl
set_option maxRecDepth 100000 in
theorem ns_cw_24 : Cond.code (ns_y 24) (ns_c 24) (ns_m 24) (ns_r 24) ∈ ns_Gt := ns_in_Gt (List.mem_append_right _ (List.mem_of_getElem? (i := 200) rfl)) rfl
set_option maxRecDepth 100000 in
theorem ns_cw_25 : Cond.code (ns_y 25) (ns_c 25) (ns_m 25) (ns_r 25) ∈ ns_Gt := ns_in_Gt (List.mem_append_right _ (List.mem_of_getElem? (i := 207) rfl)) rfl
set_option maxRecDepth 100000 in
theorem ns_cw_26 : Cond.code (ns_y 26) (ns_c 26) (ns_m 26) (ns_r 26) ∈ ns_Gt := ns_in_Gt (List.mem_append_right _ (List.mem_of_getElem? (i := 214) rfl)) rfl
set_option maxRecDepth 100000 in
theorem ns_cw_27 : Cond.code (ns_y 27) (ns_c 27) (ns_m 27) (ns_r 27) ∈ ns_Gt := ns_in_Gt (List.mem_append_right _ (List.mem_of_getElem? (i := 218) rfl)) rfl
set_option maxRecDepth 100000 in
theorem ns_cw_28 : Cond.code (ns_y 28) (ns_c 28) (ns_m 28) (ns_r 28) ∈ ns_Gt := ns_in_Gt (List.mem_append_right _ (List.mem_of_getElem? (i := 252) rfl)) rfl
set_option maxRecDepth 100000 in
theorem ns_cw_29 : Cond.code (ns_y 29) (ns_c 29) (ns_m 29) (ns_r 29) ∈ ns_Gt := ns_in_Gt (List.mem_append_right _ (List.mem_of_getElem? (i := 256) rfl)) rfl
set_option maxRecDepth 100000 in
theorem ns_cw_30 : Cond.code (ns_y 30) (ns_c 30) (ns_m 30) (ns_r 30) ∈ ns_Gt := ns_in_Gt (List.mem_append_right _ (List.mem_of_getElem? (i := 299) rfl)) rfl
set_option maxRecDepth 100000 in
theorem ns_cw_31 : Cond.code (ns_y 31) (ns_c 31) (ns_m 31) (ns_r 31) ∈ ns_Gt := ns_in_Gt (List.mem_append_right _ (List.mem_of_getElem? (i := 303) rfl)) rfl
set_option maxRecDepth 100000 in
theorem ns_cw_32 : Cond.code (ns_y 32) (ns_c 32) (ns_m 32) (ns_r 32) ∈ ns_Gt := ns_in_Gt (List.mem_append_right _ (List.mem_of_getElem? (i := 316) rfl)) rfl
set_option maxRecDepth 100000 in
theorem ns_cw_33 : Cond.code (ns_y 33) (ns_c 33) (ns_m 33) (ns_r 33) ∈ ns_Gt := ns_in_Gt (List.mem_append_right _ (List.mem_of_getElem? (i := 349) rfl)) rfl
set_option maxRecDepth 100000 in
theorem ns_cw_34 : Cond.code (ns_y 34) (ns_c 34) (ns_m 34) (ns_r 34) ∈ ns_Gt := ns_in_Gt (List.mem_append_right _ (List.mem_of_getElem? (i := 353) rfl)) rfl
set_option maxRecDepth 100000 in
theorem ns_cw_35 : Cond.code (ns_y 35) (ns_c 35) (ns_m 35) (ns_r 35) ∈ ns_Gt := ns_in_Gt (List.mem_append_right _ (List.mem_of_getElem? (i := 357) rfl)) rfl
set_option maxRecDepth 100000 in
theorem ns_cw_36 : Cond.code (ns_y 36) (ns_c 36) (ns_m 36) (ns_r 36) ∈ ns_Gt := ns_in_Gt (List.mem_append_right _ (List.mem_of_getElem? (i := 162) rfl)) rfl
set_option maxRecDepth 100000 in
theorem ns_cw_37 : Cond.code (ns_y 37) (ns_c 37) (ns_m 37) (ns_r 37) ∈ ns_Gt := ns_in_Gt (List.mem_append_right _ (List.mem_of_getElem? (i := 65) rfl)) rfl
set_option maxRecDepth 100000 in
theorem ns_cw_38 : Cond.code (ns_y 38) (ns_c 38) (ns_m 38) (ns_r 38) ∈ ns_Gt := ns_in_Gt (List.mem_append_right _ (List.mem_of_getElem? (i := 150) rfl)) rfl
set_option maxRecDepth 100000 in
theorem ns_cw_39 : Cond.code (ns_y 39) (ns_c 39) (ns_m 39) (ns_r 39) ∈ ns_Gt := ns_in_Gt (List.mem_append_right _ (List.mem_of_getElem? (i := 68) rfl)) rfl
set_option maxRecDepth 100000 in
theorem ns_cw_40 : Cond.code (ns_y 40) (ns_c 40) (ns_m 40) (ns_r 40) ∈ ns_Gt := ns_in_Gt (List.mem_append_right _ (List.mem_of_getElem? (i := 172) rfl)) rfl
set_option maxRecDepth 100000 in
theorem ns_cw_41 : Cond.code (ns_y 41) (ns_c 41) (ns_m 41) (ns_r 41) ∈ ns_Gt := ns_in_Gt (List.mem_append_right _ (List.mem_of_getElem? (i := 181) rfl)) rfl
set_option maxRecDepth 100000 in
theorem ns_cw_42 : Cond.code (ns_y 42) (ns_c 42) (ns_m 42) (ns_r 42) ∈ ns_Gt := ns_in_Gt (List.mem_append_right _ (List.mem_of_getElem? (i := 165) rfl)) rfl
set_option maxRecDepth 100000 in
theorem ns_cw_43 : Cond.code (ns_y 43) (ns_c 43) (ns_m 43) (ns_r 43) ∈ ns_Gt := ns_in_Gt (List.mem_append_right _ (List.mem_of_getElem? (i := 178) rfl)) rfl
set_option maxRecDepth 100000 in
theorem ns_cw_44 : Cond.code (ns_y 44) (ns_c 44) (ns_m 44) (ns_r 44) ∈ ns_Gt := ns_in_Gt (List.mem_append_right _ (List.mem_of_getElem? (i := 175) rfl)) rfl
set_option maxRecDepth 100000 in
theorem ns_cw_45 : Cond.code (ns_y 45) (ns_c 45) (ns_m 45) (ns_r 45) ∈ ns_Gt := ns_in_Gt (List.mem_append_right _ (List.mem_of_getElem? (i := 210) rfl)) rfl
set_option maxRecDepth 100000 in
theorem ns_cw_46 : Cond.code (ns_y 46) (ns_c 46) (ns_m 46) (ns_r 46) ∈ ns_Gt := ns_in_Gt (List.mem_append_right _ (List.mem_of_getElem? (i := 196) rfl)) rfl
set_option maxRecDepth 100000 in
theorem ns_cw_47 : Cond.code (ns_y 47) (ns_c 47) (ns_m 47) (ns_r 47) ∈ ns_Gt := ns_in_Gt (List.mem_append_right _ (List.mem_of_getElem? (i := 203) rfl)) rfl
set_option maxRecDepth 100000 in
theorem ns_cw_48 : Cond.code (ns_y 48) (ns_c 48) (ns_m 48) (ns_r 48) ∈ ns_Gt := ns_in_Gt (List.mem_append_right _ (List.mem_of_getElem? (i := 222) rfl)) rfl
set_option maxRecDepth 100000 in
theorem ns_cw_49 : Cond.code (ns_y 49) (ns_c 49) (ns_m 49) (ns_r 49) ∈ ns_Gt := ns_in_Gt (List.mem_append_right _ (List.mem_of_getElem? (i := 259) rfl)) rfl
set_option maxRecDepth 100000 in
theorem ns_cw_50 : Cond.code (ns_y 50) (ns_c 50) (ns_m 50) (ns_r 50) ∈ ns_Gt := ns_in_Gt (List.mem_append_right _ (List.mem_of_getElem? (i := 320) rfl)) rfl
set_option maxRecDepth 100000 in
theorem ns_cw_51 : Cond.code (ns_y 51) (ns_c 51) (ns_m 51) (ns_r 51) ∈ ns_Gt := ns_in_Gt (List.mem_append_right _ (List.mem_of_getElem? (i := 342) rfl)) rfl
set_option maxRecDepth 100000 in
theorem ns_cw_52 : Cond.code (ns_y 52) (ns_c 52) (ns_m 52) (ns_r 52) ∈ ns_Gt := ns_in_Gt (List.mem_append_right _ (List.mem_of_getElem? (i := 345) rfl)) rfl
set_option maxRecDepth 100000 in
theorem ns_cw_53 : Cond.code (ns_y 53) (ns_c 53) (ns_m 53) (ns_r 53) ∈ ns_Gt := ns_in_Gt (List.mem_append_right _ (List.mem_of_getElem? (i := 306) rfl)) rfl
set_option maxRecDepth 100000 in
theorem ns_cw_54 : Cond.code (ns_y 54) (ns_c 54) (ns_m 54) (ns_r 54) ∈ ns_Gt := ns_in_Gt (List.mem_append_right _ (List.mem_of_getElem? (i := 309) rfl)) rfl
set_option maxRecDepth 100000 in
theorem ns_cw_55 : Cond.code (ns_y 55) (ns_c 55) (ns_m 55) (ns_r 55) ∈ ns_Gt := ns_in_Gt (List.mem_append_right _ (List.mem_of_getElem? (i := 312) rfl)) rfl
set_option maxRecDepth 100000 in
theorem ns_cw_56 : Cond.code (ns_y 56) (ns_c 56) (ns_m 56) (ns_r 56) ∈ ns_Gt := ns_in_Gt (List.mem_append_right _ (List.mem_of_getElem? (i := 362) rfl)) rfl
set_option maxRecDepth 100000 in
theorem ns_cw_57 : Cond.code (ns_y 57) (ns_c 57) (ns_m 57) (ns_r 57) ∈ ns_Gt := ns_in_Gt (List.mem_append_right _ (List.mem_of_getElem? (i := 433) rfl)) rfl
set_option maxRecDepth 100000 in
theorem ns_cw_58 : Cond.code (ns_y 58) (ns_c 58) (ns_m 58) (ns_r 58) ∈ ns_Gt := ns_in_Gt (List.mem_append_right _ (List.mem_of_getElem? (i := 453) rfl)) rfl
set_option maxRecDepth 100000 in
theorem ns_cw_59 : Cond.code (ns_y 59) (ns_c 59) (ns_m 59) (ns_r 59) ∈ ns_Gt := ns_in_Gt (List.mem_append_right _ (List.mem_of_getElem? (i := 456) rfl)) rfl
set_option maxRecDepth 100000 in
theorem ns_cw_60 : Cond.code (ns_y 60) (ns_c 60) (ns_m 60) (ns_r 60) ∈ ns_Gt := ns_in_Gt (List.mem_append_right _ (List.mem_of_getElem? (i := 440) rfl)) rfl
set_option maxRecDepth 100000 in
theorem ns_cw_61 : Cond.code (ns_y 61) (ns_c 61) (ns_m 61) (ns_r 61) ∈ ns_Gt := ns_in_Gt (List.mem_append_right _ (List.mem_of_getElem? (i := 489) rfl)) rfl
set_option maxRecDepth 100000 in
theorem ns_cw_62 : Cond.code (ns_y 62) (ns_c 62) (ns_m 62) (ns_r 62) ∈ ns_Gt := ns_in_Gt (List.mem_append_right _ (List.mem_of_getElem? (i := 521) rfl)) rfl
set_option maxRecDepth 100000 in
theorem ns_cw_63 : Cond.code (ns_y 63) (ns_c 63) (ns_m 63) (ns_r 63) ∈ ns_Gt := ns_in_Gt (List.mem_append_right _ (List.mem_of_getElem? (i := 437) rfl)) rfl
set_option maxRecDepth 100000 in
theorem ns_cw_64 : Cond.code (ns_y 64) (ns_c 64) (ns_m 64) (ns_r 64) ∈ ns_Gt := ns_in_Gt (List.mem_append_right _ (List.mem_of_getElem? (i := 430) rfl)) rfl
set_option maxRecDepth 100000 in
theorem ns_cw_65 : Cond.code (ns_y 65) (ns_c 65) (ns_m 65) (ns_r 65) ∈ ns_Gt := ns_in_Gt (List.mem_append_right _ (List.mem_of_getElem? (i := 445) rfl)) rfl
set_option maxRecDepth 100000 in
theorem ns_cw_66 : Cond.code (ns_y 66) (ns_c 66) (ns_m 66) (ns_r 66) ∈ ns_Gt := ns_in_Gt (List.mem_append_right _ (List.mem_of_getElem? (i := 449) rfl)) rfl
set_option maxRecDepth 100000 in
theorem ns_cw_67 : Cond.code (ns_y 67) (ns_c 67) (ns_m 67) (ns_r 67) ∈ ns_Gt := ns_in_Gt (List.mem_append_right _ (List.mem_of_getElem? (i := 469) rfl)) rfl
set_option maxRecDepth 100000 in
theorem ns_cw_68 : Cond.code (ns_y 68) (ns_c 68) (ns_m 68) (ns_r 68) ∈ ns_Gt := ns_in_Gt (List.mem_append_right _ (List.mem_of_getElem? (i := 465) rfl)) rfl
set_option maxRecDepth 100000 in
theorem ns_cw_69 : Cond.code (ns_y 69) (ns_c 69) (ns_m 69) (ns_r 69) ∈ ns_Gt := ns_in_Gt (List.mem_append_right _ (List.mem_of_getElem? (i := 461) rfl)) rfl
set_option maxRecDepth 100000 in
theorem ns_cw_70 : Cond.code (ns_y 70) (ns_c 70) (ns_m 70) (ns_r 70) ∈ ns_Gt := ns_in_Gt (List.mem_append_right _ (List.mem_of_getElem? (i := 473) rfl)) rfl
set_option maxRecDepth 100000 in
theorem ns_cw_71 : Cond.code (ns_y 71) (ns_c 71) (ns_m 71) (ns_r 71) ∈ ns_Gt := ns_in_Gt (List.mem_append_right _ (List.mem_of_getElem? (i := 477) rfl)) rfl
set_option maxRecDepth 100000 in
theorem ns_cw_72 : Cond.code (ns_y 72) (ns_c 72) (ns_m 72) (ns_r 72) ∈ ns_Gt := ns_in_Gt (List.mem_append_right _ (List.mem_of_getElem? (i := 481) rfl)) rfl
set_option maxRecDepth 100000 in
theorem ns_cw_73 : Cond.code (ns_y 73) (ns_c 73) (ns_m 73) (ns_r 73) ∈ ns_Gt := ns_in_Gt (List.mem_append_right _ (List.mem_of_getElem? (i := 485) rfl)) rfl
set_option maxRecDepth 100000 in
theorem ns_cw_74 : Cond.code (ns_y 74) (ns_c 74) (ns_m 74) (ns_r 74) ∈ ns_Gt := ns_in_Gt (List.mem_append_right _ (List.mem_of_getElem? (i := 493) rfl)) rfl
set_option maxRecDepth 100000 in
theorem ns_cw_75 : Cond.code (ns_y 75) (ns_c 75) (ns_m 75) (ns_r 75) ∈ ns_Gt := ns_in_Gt (List.mem_append_right _ (List.mem_of_getElem? (i := 497) rfl)) rfl
set_option maxRecDepth 100000 in
theorem ns_cw_76 : Cond.code (ns_y 76) (ns_c 76) (ns_m 76) (ns_r 76) ∈ ns_Gt := ns_in_Gt (List.mem_append_right _ (List.mem_of_getElem? (i := 509) rfl)) rfl
set_option maxRecDepth 100000 in
theorem ns_cw_77 : Cond.code (ns_y 77) (ns_c 77) (ns_m 77) (ns_r 77) ∈ ns_Gt := ns_in_Gt (List.mem_append_right _ (List.mem_of_getElem? (i := 513) rfl)) rfl
set_option maxRecDepth 100000 in
theorem ns_cw_78 : Cond.code (ns_y 78) (ns_c 78) (ns_m 78) (ns_r 78) ∈ ns_Gt := ns_in_Gt (List.mem_append_right _ (List.mem_of_getElem? (i := 517) rfl)) rfl
set_option maxRecDepth 100000 in
theorem ns_cw_79 : Cond.code (ns_y 79) (ns_c 79) (ns_m 79) (ns_r 79) ∈ ns_Gt := ns_in_Gt (List.mem_append_right _ (List.mem_of_getElem? (i := 525) rfl)) rfl
set_option maxRecDepth 100000 in
theorem ns_cw_80 : Cond.code (ns_y 80) (ns_c 80) (ns_m 80) (ns_r 80) ∈ ns_Gt := ns_in_Gt (List.mem_append_right _ (List.mem_of_getElem? (i := 505) rfl)) rfl
set_option maxRecDepth 100000 in
theorem ns_cw_81 : Cond.code (ns_y 81) (ns_c 81) (ns_m 81) (ns_r 81) ∈ ns_Gt := ns_in_Gt (List.mem_append_right _ (List.mem_of_getElem? (i := 529) rfl)) rfl
set_option maxRecDepth 100000 in
theorem ns_cw_82 : Cond.code (ns_y 82) (ns_c 82) (ns_m 82) (ns_r 82) ∈ ns_Gt := ns_in_Gt (List.mem_append_right _ (List.mem_of_getElem? (i := 501) rfl)) rfl
set_option maxRecDepth 100000 in
theorem ns_cw_83 : Cond.code (ns_y 83) (ns_c 83) (ns_m 83) (ns_r 83) ∈ ns_Gt := ns_in_Gt (List.mem_append_right _ (List.mem_of_getElem? (i := 533) rfl)) rfl
set_option maxRecDepth 100000 in
theorem ns_cw_84 : Cond.code (ns_y 84) (ns_c 84) (ns_m 84) (ns_r 84) ∈ ns_Gt := ns_in_Gt (List.mem_append_right _ (List.mem_of_getElem? (i := 537) rfl)) rfl
set_option maxRecDepth 100000 in
theorem ns_cw_85 : Cond.code (ns_y 85) (ns_c 85) (ns_m 85) (ns_r 85) ∈ ns_Gt := ns_in_Gt (List.mem_append_right _ (List.mem_of_getElem? (i := 549) rfl)) rfl
set_option maxRecDepth 100000 in
theorem ns_cw_86 : Cond.code (ns_y 86) (ns_c 86) (ns_m 86) (ns_r 86) ∈ ns_Gt := ns_in_Gt (List.mem_append_right _ (List.mem_of_getElem? (i := 555) rfl)) rfl
set_option maxRecDepth 100000 in
theorem ns_cw_87 : Cond.code (ns_y 87) (ns_c 87) (ns_m 87) (ns_r 87) ∈ ns_Gt := ns_in_Gt (List.mem_append_right _ (List.mem_of_getElem? (i := 545) rfl)) rfl
set_option maxRecDepth 100000 in
theorem ns_cw_88 : Cond.code (ns_y 88) (ns_c 88) (ns_m 88) (ns_r 88) ∈ ns_Gt := ns_in_Gt (List.mem_append_right _ (List.mem_of_getElem? (i := 541) rfl)) rfl
set_option maxRecDepth 100000 in
theorem ns_cw_89 : Cond.code (ns_y 89) (ns_c 89) (ns_m 89) (ns_r 89) ∈ ns_Gt := ns_in_Gt (List.mem_append_right _ (List.mem_of_getElem? (i := 559) rfl)) rfl
set_option maxRecDepth 100000 in
theorem ns_cw_90 : Cond.code (ns_y 90) (ns_c 90) (ns_m 90) (ns_r 90) ∈ ns_Gt := ns_in_Gt (List.mem_append_right _ (List.mem_of_getElem? (i := 563) rfl)) rfl
set_option maxRecDepth 100000 in
theorem ns_cw_91 : Cond.code (ns_y 91) (ns_c 91) (ns_m 91) (ns_r 91) ∈ ns_Gt := ns_in_Gt (List.mem_append_right _ (List.mem_of_getElem? (i := 571) rfl)) rfl
set_option maxRecDepth 100000 in
theorem ns_cw_92 : Cond.code (ns_y 92) (ns_c 92) (ns_m 92) (ns_r 92) ∈ ns_Gt := ns_in_Gt (List.mem_append_right _ (List.mem_of_getElem? (i := 567) rfl)) rfl
set_option maxRecDepth 100000 in
theorem ns_cw_93 : Cond.code (ns_y 93) (ns_c 93) (ns_m 93) (ns_r 93) ∈ ns_Gt := ns_in_Gt (List.mem_append_right _ (List.mem_of_getElem? (i := 575) rfl)) rfl
set_option maxRecDepth 100000 in
theorem ns_cw_94 : Cond.code (ns_y 94) (ns_c 94) (ns_m 94) (ns_r 94) ∈ ns_Gt := ns_in_Gt (List.mem_append_right _ (List.mem_of_getElem? (i := 579) rfl)) rfl
theorem ns_cw : ∀ k, k < 95 → Cond.code (ns_y k) (ns_c k) (ns_m k) (ns_r k) ∈ ns_Gt := fun k h => by
  match k, h with
  | 0, _ => exact ns_cw_0
  | 1, _ => exact ns_cw_1
  | 2, _ => exact ns_cw_2
  | 3, _ => exact ns_cw_3
  | 4, _ => exact ns_cw_4
  | 5, _ => exact ns_cw_5
  | 6, _ => exact ns_cw_6
  | 7, _ => exact ns_cw_7
  | 8, _ => exact ns_cw_8
  | 9, _ => exact ns_cw_9
  | 10, _ => exact ns_cw_10
  | 11, _ => exact ns_cw_11
  | 12, _ => exact ns_cw_12
  | 13, _ => exact ns_cw_13
  | 14, _ => exact ns_cw_14
  | 15, _ => exact ns_cw_15
  | 16, _ => exact ns_cw_16
  | 17, _ => exact ns_cw_17
  | 18, _ => exact ns_cw_18
  | 19, _ => exact ns_cw_19
  | 20, _ => exact ns_cw_20
  | 21, _ => exact ns_cw_21
  | 22, _ => exact ns_cw_22
  | 23, _ => exact ns_cw_23
  | 24, _ => exact ns_cw_24
  | 25, _ => exact ns_cw_25
  | 26, _ => exact ns_cw_26
  | 27, _ => exact ns_cw_27
  | 28, _ => exact ns_cw_28
  | 29, _ => exact ns_cw_29
  | 30, _ => exact ns_cw_30
  | 31, _ => exact ns_cw_31
  | 32, _ => exact ns_cw_32
  | 33, _ => exact ns_cw_33
  | 34, _ => exact ns_cw_34
  | 35, _ => exact ns_cw_35
  | 36, _ => exact ns_cw_36
  | 37, _ => exact ns_cw_37
  | 38, _ => exact ns_cw_38
  | 39, _ => exact ns_cw_39
  | 40, _ => exact ns_cw_40
  | 41, _ => exact ns_cw_41
  | 42, _ => exact ns_cw_42
  | 43, _ => exact ns_cw_43
  | 44, _ => exact ns_cw_44
  | 45, _ => exact ns_cw_45
  | 46, _ => exact ns_cw_46
  | 47, _ => exact ns_cw_47
  | 48, _ => exact ns_cw_48
  | 49, _ => exact ns_cw_49
  | 50, _ => exact ns_cw_50
  | 51, _ => exact ns_cw_51
  | 52, _ => exact ns_cw_52
  | 53, _ => exact ns_cw_53
  | 54, _ => exact ns_cw_54
  | 55, _ => exact ns_cw_55
  | 56, _ => exact ns_cw_56
  | 57, _ => exact ns_cw_57
  | 58, _ => exact ns_cw_58
  | 59, _ => exact ns_cw_59
  | 60, _ => exact ns_cw_60
  | 61, _ => exact ns_cw_61
  | 62, _ => exact ns_cw_62
  | 63, _ => exact ns_cw_63
  | 64, _ => exact ns_cw_64
  | 65, _ => exact ns_cw_65
  | 66, _ => exact ns_cw_66
  | 67, _ => exact ns_cw_67
  | 68, _ => exact ns_cw_68
  | 69, _ => exact ns_cw_69
  | 70, _ => exact ns_cw_70
  | 71, _ => exact ns_cw_71
  | 72, _ => exact ns_cw_72
  | 73, _ => exact ns_cw_73
  | 74, _ => exact ns_cw_74
  | 75, _ => exact ns_cw_75
  | 76, _ => exact ns_cw_76
  | 77, _ => exact ns_cw_77
  | 78, _ => exact ns_cw_78
  | 79, _ => exact ns_cw_79
  | 80, _ => exact ns_cw_80
  | 81, _ => exact ns_cw_81
  | 82, _ => exact ns_cw_82
  | 83, _ => exact ns_cw_83
  | 84, _ => exact ns_cw_84
  | 85, _ => exact ns_cw_85
  | 86, _ => exact ns_cw_86
  | 87, _ => exact ns_cw_87
  | 88, _ => exact ns_cw_88
  | 89, _ => exact ns_cw_89
  | 90, _ => exact ns_cw_90
  | 91, _ => exact ns_cw_91
  | 92, _ => exact ns_cw_92
  | 93, _ => exact ns_cw_93
  | 94, _ => exact ns_cw_94
  | _ + 95, h => exact absurd h (by omega)
set_option maxRecDepth 100000 in
theorem ns_ws : ∀ ci, ci < 5 → ∀ w ∈ u_ws (ns_R ci) (ns_T ci) (ns_N ci), w ∈ ns_Gt := by decide +kernel
set_option maxRecDepth 100000 in
theorem ns_ft_ok : ∀ e ∈ ns_ft, Cond.fieldLink (ns_R e.1) e.2.1 (ns_T e.2.2.1 e.2.2.2).1 (ns_T e.2.2.1 e.2.2.2).2.1 (ns_T e.2.2.1 e.2.2.2).2.2.1 ∈ ns_Gt ∧ e.2.2.2 < ns_N e.2.2.1 ∧ e.2.2.1 < 5 := by decide +kernel
set_option maxRecDepth 100000 in
theorem ns_ct_ok : ∀ e ∈ ns_ct, Cond.classLink (ns_R e.1) e.2.1 (ns_R e.2.2) ∈ ns_Gt ∧ Cond.instantiable (ns_R e.2.2) (ns_N e.2.2) ∈ ns_Gt ∧ Cond.initialized (ns_R e.2.2) ∈ ns_Gt ∧ e.2.2 < 5 := by decide +kernel
set_option maxRecDepth 100000 in
theorem ns_ot_ok : ∀ e ∈ ns_ot, Cond.methodLink (ns_R e.1) e.2.1 objectInit ∈ ns_Gt := by decide +kernel
set_option maxRecDepth 100000 in
theorem ns_oi_ok : Cond.instanceMethod objectInit ∈ ns_Gt := by decide +kernel
theorem ns_oc_ok : Cond.code objectInit ⟨#[0xb1]⟩ 1 none ∈ ns_Gt := ns_in_Gt (List.mem_append_right _ (List.mem_of_getElem? (i := 14) rfl)) rfl
set_option maxRecDepth 100000 in
theorem ns_mt_ok : ∀ e ∈ ns_mt, Cond.methodLink (ns_R e.1) e.2.1 (ns_y e.2.2) ∈ ns_Gt ∧ e.2.2 < 95 := by decide +kernel
set_option maxRecDepth 100000 in
theorem ns_kind_ok : ∀ k, k < 95 → Cond.initialized (ns_y k).cls ∈ ns_Gt ∧ (ns_y k).cls = ns_R (ns_o k) ∧ ((ns_y k).cls ≠ "java/lang/invoke/MethodHandle" ∧ (ns_y k).cls ≠ "java/lang/invoke/VarHandle" ∧ (parseMethodDescriptor (ns_y k).desc).map (fun d => d.parameters.length) = some (ns_pn k)) ∧ plainName (ns_y k).cls = true := by decide +kernel
set_option maxRecDepth 100000 in
theorem ns_sel_ok : ∀ k, k < 95 → (ns_stt k = true → Cond.static (ns_y k) ∈ ns_Gt) ∧ (ns_stt k = false → Cond.instanceMethod (ns_y k) ∈ ns_Gt) ∧ (ns_stt k = false → ns_ini k = false → Cond.selects (ns_R (ns_o k)) (ns_y k) (ns_y k) ∈ ns_Gt) ∧ (ns_ini k = true → ns_stt k = false ∧ (ns_y k).name = "<init>" ∧ ns_r k = none) := by decide +kernel
set_option maxRecDepth 100000 in
theorem ns_k1_ok : ∀ e ∈ ns_k1, Cond.constant (ns_R e.1) e.2.1 e.2.2 ∈ ns_Gt := by decide +kernel
set_option maxRecDepth 100000 in
theorem ns_k2_ok : ∀ e ∈ ns_k2, Cond.constantLong (ns_R e.1) e.2.1 e.2.2 ∈ ns_Gt := by decide +kernel
set_option maxRecDepth 100000 in
theorem ns_ar_ok : Cond.arrayClass .int ∈ ns_Gt ∧ Cond.arrayClass .long ∈ ns_Gt ∧ Cond.classLink RX3 9 RX1 ∈ ns_Gt := by decide +kernel
set_option maxRecDepth 100000 in
theorem ns_cl_ok : (Cond.methodLink RX1 31 ⟨"[J", "clone", "()Ljava/lang/Object;"⟩ ∈ ns_Gt ∧ Cond.sameMethod "[J" "java/lang/Object" "clone" "()Ljava/lang/Object;" ∈ ns_Gt ∧ Cond.native ⟨"java/lang/Object", "clone", "()Ljava/lang/Object;"⟩ ∈ ns_Gt ∧ Cond.instanceMethod ⟨"java/lang/Object", "clone", "()Ljava/lang/Object;"⟩ ∈ ns_Gt ∧ Cond.selects "[J" ⟨"[J", "clone", "()Ljava/lang/Object;"⟩ ⟨"java/lang/Object", "clone", "()Ljava/lang/Object;"⟩ ∈ ns_Gt ∧ Cond.classLink RX1 32 "[J" ∈ ns_Gt) ∧ (Cond.methodLink RX1 36 ⟨"[LNestShelf$Thing;", "clone", "()Ljava/lang/Object;"⟩ ∈ ns_Gt ∧ Cond.sameMethod "[LNestShelf$Thing;" "java/lang/Object" "clone" "()Ljava/lang/Object;" ∈ ns_Gt ∧ Cond.selects "[LNestShelf$Thing;" ⟨"[LNestShelf$Thing;", "clone", "()Ljava/lang/Object;"⟩ ⟨"java/lang/Object", "clone", "()Ljava/lang/Object;"⟩ ∈ ns_Gt ∧ Cond.classLink RX1 37 "[LNestShelf$Thing;" ∈ ns_Gt) := by decide +kernel
set_option maxRecDepth 100000 in
theorem ns_min_ok : Cond.methodLink RX3 145 Lib.Math.min.name ∈ ns_Gt ∧ Cond.static Lib.Math.min.name ∈ ns_Gt ∧ Cond.initialized "java/lang/Math" ∈ ns_Gt := by decide +kernel
theorem ns_minc_ok : Cond.code Lib.Math.min.name Lib.Math.min.code 2 (some .int) ∈ ns_Gt := ns_in_Gt (List.mem_append_right _ (List.mem_of_getElem? (i := 262) rfl)) rfl
theorem ns_ty_ok : ∀ ci, ci < 5 → ∀ k, k < ns_N ci → parseFieldDescriptor (ns_T ci k).2.2.1 = some (ns_ty ci k) := by decide +kernel
theorem ns_nm_ok : ∀ ci, ci < 5 → ∀ a, a < ns_N ci → ∀ b, b < ns_N ci → a ≠ b → (ns_T ci a).2.1 ≠ (ns_T ci b).2.1 := by decide +kernel
theorem ns_own_ok : ∀ ci, ci < 5 → ∀ k, k < ns_N ci → (ns_T ci k).1 = ns_R ci := by decide +kernel
theorem ns_vw_ok : ∀ ci, ci < 5 → vwCl[ci]? = some (ns_R ci, ns_T ci, ns_N ci) := fun ci h => by
  match ci, h with
  | 0, _ => rfl
  | 1, _ => rfl
  | 2, _ => rfl
  | 3, _ => rfl
  | 4, _ => rfl
theorem ns_good {w : Cond} (h : w ∈ ns_Gt) : (w.onTables && w.keeps) = true ∨ ∃ ty, w = .arrayClass ty := good_of_word (ns_Gt_good w h).2
theorem ns_goodIn {big : List Cond} (hb : ∀ w ∈ ns_Gt, w ∈ big) {k : Nat} (hk : k < 95) : GoodIn big (ns_w k) := fun w hw => by
  rcases List.mem_cons.mp hw with h | h
  · subst h
    exact ⟨hb _ (ns_cw k hk), ns_good (ns_cw k hk)⟩
  · exact ⟨hb _ h, ns_good h⟩
/-- words that are no good words -/
def ns_E (U : State) : Prop := va_AO "NestShelf$Thing" U ∧ va_Nw (.methodLinkNest RX3 17 yX2_init "NestShelf") U ∧ va_Nw (.methodLinkNest RX3 109 yX0_init "NestShelf") U ∧ va_Nw (.castable "[J" "java/lang/Cloneable") U ∧ va_Nw (.castable "[LNestShelf$Thing;" "java/lang/Cloneable") U
theorem ns_E.warm {s U : State} (hW : s.WarmedH U.vm) (h : ns_E s) : ns_E U := ⟨h.1.moved hW.alike, h.2.1.warmM hW, h.2.2.1.warmM hW, h.2.2.2.1.warmC hW, h.2.2.2.2.warmC hW⟩
theorem ns_E.same {u U : State} (e : u.vm = U.vm) (h : ns_E u) : ns_E U := ⟨h.1.moved (e ▸ Vm.Alike.refl u.vm), h.2.1.same rfl e, h.2.2.1.same rfl e, h.2.2.2.1.same rfl e, h.2.2.2.2.same rfl e⟩
theorem ns_nt_ok {o i k : Nat} (h : (o, i, k) ∈ ns_nt) {s : State} (hE : ns_E s) : k < 95 ∧ va_Nw (.methodLinkNest (ns_R o) i (ns_y k) "NestShelf") s := by
  rcases List.mem_cons.mp h with e | e
  · cases e; exact ⟨by decide, hE.2.1⟩
  · rcases List.mem_cons.mp e with e | e
    · cases e; exact ⟨by decide, hE.2.2.1⟩
    · cases e
end
section
/-! ===== one step of the small machine ===== -/
abbrev ns_Cf : Type := Nat × Nat × List (Option Value) × List Value × ns_St
abbrev ns_Rs : Type := Option Value × ns_St
abbrev ns_Act : Type := ns_Cf ⊕ (ns_Rs ⊕ (ns_Cf × (Option Value → ns_St → ns_Cf)))
def ns_lk {α : Type} (o i : Nat) : List (Nat × Nat × α) → Option α
  | [] => none
  | (a, b, c) :: t => if a = o ∧ b = i then some c else ns_lk o i t
theorem ns_lk_mem {α : Type} {o i : Nat} {c : α} : ∀ {t : List (Nat × Nat × α)}, ns_lk o i t = some c → (o, i, c) ∈ t
  | [], h => by cases h
  | (a, b, d) :: t, h => by
    unfold ns_lk at h
    by_cases e : a = o ∧ b = i
    · rw [if_pos e] at h
      cases h
      rw [e.1, e.2]
      exact List.mem_cons_self
    · rw [if_neg e] at h
      exact List.mem_cons_of_mem _ (ns_lk_mem h)
def ns_rfok (v : Value) : Bool := match v with
  | .ref _ => true
  | .null => true
  | _ => false
def ns_rfo (v : Value) : Option Nat := match v with
  | .ref a => some a
  | _ => none
def ns_isI (v : Value) : Bool := match v with
  | .int _ => true
  | _ => false
def ns_isJ (v : Value) : Bool := match v with
  | .long _ => true
  | _ => false
/-- the place ahead holds no value of two places -/
def ns_c1 (o : Option Value) : Bool := match o with
  | some (.long _) => false
  | some (.double _) => false
  | _ => true
def ns_ahead (L : List (Option Value)) (i : Nat) : Bool := match i with
  | 0 => true
  | j + 1 => ns_c1 (L.getD j none)
def ns_cat (st : List Value) : Nat := (st.map fun v => v.category).sum
def ns_el : List Value → List (Option Value)
  | [] => []
  | v :: r => if v.category = 2 then some v :: none :: ns_el r else some v :: ns_el r
def ns_entry (k : Nat) (vs : List Value) : List (Option Value) := ns_el vs ++ List.replicate (ns_m k - (ns_el vs).length) none
abbrev ns_in (i : Int32) (n : Nat) : Prop := ¬ i < 0 ∧ i.toNatClampNeg < n
theorem ns_in_vp {i : Int32} {n : Nat} (h : ns_in i n) : vp_in i n := fun q => q.elim h.1 (fun q => absurd h.2 (Nat.not_lt.mpr q))
def ns_okT (S : ns_St) (o : Option Nat) : Bool := match o with
  | some b => ns_k S b == 2
  | none => true
def ns_retok (t : Option FieldType) (v : Value) (k : Nat) : Bool := match t, v with
  | some .int, .int _ => k == 0
  | some .boolean, .int x => k == 0 && (x == 0 || x == 1)
  | some .long, .long _ => k == 1
  | some (.object _), .ref _ => k == 2
  | some (.object _), .null => k == 2
  | _, _ => false
section NSI
variable (m pc : Nat) (L : List (Option Value)) (st : List Value) (S : ns_St)
def ns_push (n : Nat) (v : Value) : Option ns_Act := some (.inl (m, pc + n, L, v :: st, S))
def ns_ld (p : Value → Bool) (i n : Nat) : Option ns_Act := match L.getD i none with
  | some v => if p v = true then some (.inl (m, pc + n, L, v :: st, S)) else none
  | none => none
def ns_sto (p : Value → Bool) (i n : Nat) : Option ns_Act := match st with
  | v :: r => if p v = true ∧ i < L.length ∧ ns_ahead L i = true then some (.inl (m, pc + n, L.set i (some v), r, S)) else none
  | [] => none
def ns_sto2 (i n : Nat) : Option ns_Act := match st with
  | v :: r => if ns_isJ v = true ∧ i + 1 < L.length ∧ ns_ahead L i = true then some (.inl (m, pc + n, (L.set i (some v)).set (i + 1) none, r, S)) else none
  | [] => none
def ns_iinc (i : Nat) (n : Int) : Option ns_Act := match L.getD i none with
  | some (.int x) => if i < L.length ∧ ns_ahead L i = true then some (.inl (m, pc + 3, L.set i (some (.int (x + Int32.ofInt n))), st, S)) else none
  | _ => none
def ns_ii (f : Int32 → Int32 → Int32) : Option ns_Act := match st with
  | .int y :: .int x :: r => some (.inl (m, pc + 1, L, .int (f x y) :: r, S))
  | _ => none
def ns_jj (f : Int64 → Int64 → Int64) : Option ns_Act := match st with
  | .long y :: .long x :: r => some (.inl (m, pc + 1, L, .long (f x y) :: r, S))
  | _ => none
def ns_lcmp : Option ns_Act := match st with
  | .long y :: .long x :: r => some (.inl (m, pc + 1, L, .int (lg_cmp x y) :: r, S))
  | _ => none
def ns_i2l : Option ns_Act := match st with
  | .int x :: r => some (.inl (m, pc + 1, L, .long x.toInt64 :: r, S))
  | _ => none
def ns_l2i : Option ns_Act := match st with
  | .long x :: r => some (.inl (m, pc + 1, L, .int x.toInt32 :: r, S))
  | _ => none
def ns_i2c : Option ns_Act := match st with
  | .int x :: r => some (.inl (m, pc + 1, L, .int (x.toUInt32 % 65536).toInt32 :: r, S))
  | _ => none
def ns_dup : Option ns_Act := match st with
  | v :: r => if v.category = 1 then some (.inl (m, pc + 1, L, v :: v :: r, S)) else none
  | [] => none
def ns_pop : Option ns_Act := match st with
  | v :: r => if v.category = 1 then some (.inl (m, pc + 1, L, r, S)) else none
  | [] => none
def ns_dup2 : Option ns_Act := match st with
  | v :: w :: r => if v.category = 1 ∧ w.category = 1 then some (.inl (m, pc + 1, L, v :: w :: v :: w :: r, S)) else none
  | _ => none
def ns_to (off : Int) (r : List Value) : Option ns_Act := if 0 ≤ (pc : Int) + off then some (.inl (m, ((pc : Int) + off).toNat, L, r, S)) else none
def ns_if1 (c : ClassFile.Cond) (off : Int) : Option ns_Act := match st with
  | .int x :: r => match c with
    | .eq => if x = 0 then ns_to m pc L S off r else some (.inl (m, pc + 3, L, r, S))
    | .ne => if x = 0 then some (.inl (m, pc + 3, L, r, S)) else ns_to m pc L S off r
    | .lt => if x < 0 then ns_to m pc L S off r else some (.inl (m, pc + 3, L, r, S))
    | .ge => if 0 ≤ x then ns_to m pc L S off r else some (.inl (m, pc + 3, L, r, S))
    | .gt => if 0 < x then ns_to m pc L S off r else some (.inl (m, pc + 3, L, r, S))
    | .le => if x ≤ 0 then ns_to m pc L S off r else some (.inl (m, pc + 3, L, r, S))
  | _ => none
def ns_if2 (c : ClassFile.Cond) (off : Int) : Option ns_Act := match st with
  | .int y :: .int x :: r => match c with
    | .eq => if x = y then ns_to m pc L S off r else some (.inl (m, pc + 3, L, r, S))
    | .ne => if x = y then some (.inl (m, pc + 3, L, r, S)) else ns_to m pc L S off r
    | .lt => if x < y then ns_to m pc L S off r else some (.inl (m, pc + 3, L, r, S))
    | .ge => if y ≤ x then ns_to m pc L S off r else some (.inl (m, pc + 3, L, r, S))
    | .gt => if y < x then ns_to m pc L S off r else some (.inl (m, pc + 3, L, r, S))
    | .le => if x ≤ y then ns_to m pc L S off r else some (.inl (m, pc + 3, L, r, S))
  | _ => none
def ns_nul (b : Bool) (off : Int) : Option ns_Act := match st with
  | v :: r => if ns_rfok v = true then (if (ns_rfo v).isNone = b then ns_to m pc L S off r else some (.inl (m, pc + 3, L, r, S))) else none
  | [] => none
def ns_acmp (c : ACond) (off : Int) : Option ns_Act := match st with
  | w :: v :: r => if ns_rfok v = true ∧ ns_rfok w = true then (match c with
    | .eq => if ns_rfo v = ns_rfo w then ns_to m pc L S off r else some (.inl (m, pc + 3, L, r, S))
    | .ne => if ns_rfo v = ns_rfo w then some (.inl (m, pc + 3, L, r, S)) else ns_to m pc L S off r) else none
  | _ => none
def ns_sw (dflt lo hi : Int) (offs : Array Int) : Option ns_Act := match st with
  | .int x :: r => if x.toInt < lo ∨ hi < x.toInt then ns_to m pc L S dflt r else match offs[(x.toInt - lo).toNat]? with
    | some off => ns_to m pc L S off r
    | none => none
  | _ => none
def ns_get (i : Nat) : Option ns_Act := match st with
  | .ref a :: r => match ns_lk (ns_o m) i ns_ft with
    | some (ci, k) => if ns_k S a = ci + 1 then some (.inl (m, pc + 3, L, ns_fv S ci k a :: r, S)) else none
    | none => none
  | _ => none
def ns_putv (ci k a : Nat) (v : Value) : Option ns_St := match ns_fk (ns_ty ci k), v with
  | 0, .int x => some (pI S (100 * ci + k) a x)
  | 1, .int x => if x = 0 ∨ x = 1 then some (pI S (100 * ci + k) a x) else none
  | 2, .long x => some (pJ S (100 * ci + k) a x)
  | 3, w => if ns_rfok w = true then some (pR S (100 * ci + k) a (ns_rfo w)) else none
  | _, _ => none
def ns_put (i : Nat) : Option ns_Act := match st with
  | v :: .ref a :: r => match ns_lk (ns_o m) i ns_ft with
    | some (ci, k) => if ns_k S a = ci + 1 ∧ ((ns_T ci k).2.2.2 = false ∨ (ns_ini m = true ∧ ci = ns_o m)) then (match ns_putv S ci k a v with
      | some S' => some (.inl (m, pc + 3, L, r, S'))
      | none => none) else none
    | none => none
  | _ => none
def ns_ldI : Option ns_Act := match st with
  | .int i :: .ref a :: r => if ns_k S a = 6 ∧ ns_in i (ns_n S a) then some (.inl (m, pc + 1, L, .int (aI S a i.toNatClampNeg) :: r, S)) else none
  | _ => none
def ns_ldJ : Option ns_Act := match st with
  | .int i :: .ref a :: r => if ns_k S a = 7 ∧ ns_in i (ns_n S a) then some (.inl (m, pc + 1, L, .long (aJ S a i.toNatClampNeg) :: r, S)) else none
  | _ => none
def ns_ldR : Option ns_Act := match st with
  | .int i :: .ref a :: r => if ns_k S a = 8 ∧ ns_in i (ns_n S a) then some (.inl (m, pc + 1, L, va_rf (aR S a i.toNatClampNeg) :: r, S)) else none
  | _ => none
def ns_stI : Option ns_Act := match st with
  | .int x :: .int i :: .ref a :: r => if ns_k S a = 6 ∧ ns_in i (ns_n S a) then some (.inl (m, pc + 1, L, r, qI S a i.toNatClampNeg x)) else none
  | _ => none
def ns_stJ : Option ns_Act := match st with
  | .long x :: .int i :: .ref a :: r => if ns_k S a = 7 ∧ ns_in i (ns_n S a) then some (.inl (m, pc + 1, L, r, qJ S a i.toNatClampNeg x)) else none
  | _ => none
def ns_stR : Option ns_Act := match st with
  | w :: .int i :: .ref a :: r => if ns_k S a = 8 ∧ ns_in i (ns_n S a) ∧ ns_rfok w = true ∧ ns_okT S (ns_rfo w) = true then some (.inl (m, pc + 1, L, r, qR S a i.toNatClampNeg (ns_rfo w))) else none
  | _ => none
def ns_len : Option ns_Act := match st with
  | .ref a :: r => if 6 ≤ ns_k S a ∧ ns_k S a ≤ 8 then some (.inl (m, pc + 1, L, .int (nI (ns_n S a)) :: r, S)) else none
  | _ => none
def ns_new (i : Nat) : Option ns_Act := match ns_lk (ns_o m) i ns_ct with
  | some ci => some (.inl (m, pc + 3, L, .ref (ns_z S) :: st, nO S ci (ns_N ci)))
  | none => none
def ns_newa (kd n : Nat) : Option ns_Act := match st with
  | .int x :: r => if ¬ x < 0 ∧ x.toNatClampNeg ≤ 1000000 then some (.inl (m, pc + n, L, .ref (ns_z S) :: r, nA S kd x.toNatClampNeg)) else none
  | _ => none
def ns_cast (i : Nat) : Option ns_Act := match st with
  | .ref a :: r => if ns_o m = 1 ∧ ((i = 32 ∧ ns_k S a = 7) ∨ (i = 37 ∧ ns_k S a = 8)) then some (.inl (m, pc + 3, L, .ref a :: r, S)) else none
  | _ => none
def ns_go (k : Nat) (vs r : List Value) : Option ns_Act := if ns_h k + 1 ≤ ns_h m ∧ ns_m k ≤ 16 ∧ (ns_el vs).length ≤ ns_m k ∧ ns_cat r ≤ 8 then some (.inr (.inr ((k, 0, ns_entry k vs, [], S), fun v S' => (m, pc + 3, L, v.toList ++ r, S')))) else none
def ns_virt (i : Nat) : Option ns_Act :=
  if ns_o m = 1 ∧ i = 31 then (match st with
    | .ref a :: r => if ns_k S a = 7 ∧ ns_cat r ≤ 8 then some (.inl (m, pc + 3, L, .ref (ns_z S) :: r, nC S a)) else none
    | _ => none)
  else if ns_o m = 1 ∧ i = 36 then (match st with
    | .ref a :: r => if ns_k S a = 8 ∧ ns_cat r ≤ 8 then some (.inl (m, pc + 3, L, .ref (ns_z S) :: r, nC S a)) else none
    | _ => none)
  else match ns_lk (ns_o m) i ns_mt with
  | some k => match st.drop (ns_pn k) with
    | .ref b :: r => if ns_k S b = ns_o k + 1 ∧ ns_stt k = false ∧ ns_ini k = false then ns_go m pc L S k (.ref b :: (st.take (ns_pn k)).reverse) r else none
    | _ => none
  | none => none
def ns_stat (i : Nat) : Option ns_Act :=
  if ns_o m = 3 ∧ i = 145 then (match st with
    | .int y :: .int x :: r => if ns_cat r ≤ 8 then some (.inl (m, pc + 3, L, .int (if y < x then y else x) :: r, S)) else none
    | _ => none)
  else match ns_lk (ns_o m) i ns_mt with
  | some k => if ns_pn k ≤ st.length ∧ ns_stt k = true then ns_go m pc L S k ((st.take (ns_pn k)).reverse) (st.drop (ns_pn k)) else none
  | none => none
def ns_spec (i : Nat) : Option ns_Act := match ns_lk (ns_o m) i ns_ot with
  | some _ => (match st with
    | .ref a :: r => if ns_cat r ≤ 8 then some (.inl (m, pc + 3, L, r, S)) else none
    | _ => none)
  | none => match ns_lk (ns_o m) i (ns_mt ++ ns_nt) with
    | some k => match st.drop (ns_pn k) with
      | .ref b :: r => if ns_ini k = true then ns_go m pc L S k (.ref b :: (st.take (ns_pn k)).reverse) r else none
      | _ => none
    | none => none
def ns_ret (k : Nat) : Option ns_Act := match st with
  | [v] => if ns_retok (ns_r m) v k = true then some (.inr (.inl (some v, S))) else none
  | _ => none
def ns_retv : Option ns_Act := match st with
  | [] => if ns_r m = none then some (.inr (.inl (none, S))) else none
  | _ => none
def ns_I (i : Instr) : Option ns_Act := match i with
  | .iconst n => ns_push m pc L st S 1 (.int (Int32.ofInt n))
  | .bipush n => ns_push m pc L st S 2 (.int (Int8.ofInt n).toInt32)
  | .sipush n => ns_push m pc L st S 3 (.int (Int16.ofInt n).toInt32)
  | .lconst n => ns_push m pc L st S 1 (.long (Int64.ofNat (n : Nat)))
  | .aconst_null => ns_push m pc L st S 1 .null
  | .ldc j => (match ns_lk (ns_o m) j ns_k1 with
    | some v => ns_push m pc L st S 2 (.int v)
    | none => none)
  | .ldc2_w j => (match ns_lk (ns_o m) j ns_k2 with
    | some v => ns_push m pc L st S 3 (.long v)
    | none => none)
  | .iload_n j => ns_ld m pc L st S ns_isI j 1
  | .iload j => ns_ld m pc L st S ns_isI j 2
  | .lload_n j => ns_ld m pc L st S ns_isJ j 1
  | .lload j => ns_ld m pc L st S ns_isJ j 2
  | .aload_n j => ns_ld m pc L st S ns_rfok j 1
  | .aload j => ns_ld m pc L st S ns_rfok j 2
  | .istore_n j => ns_sto m pc L st S ns_isI j 1
  | .istore j => ns_sto m pc L st S ns_isI j 2
  | .astore_n j => ns_sto m pc L st S ns_rfok j 1
  | .astore j => ns_sto m pc L st S ns_rfok j 2
  | .lstore_n j => ns_sto2 m pc L st S j 1
  | .lstore j => ns_sto2 m pc L st S j 2
  | .iinc j n => ns_iinc m pc L st S j n
  | .iadd => ns_ii m pc L st S (fun x y => x + y)
  | .isub => ns_ii m pc L st S (fun x y => x - y)
  | .ladd => ns_jj m pc L st S (fun x y => x + y)
  | .lsub => ns_jj m pc L st S (fun x y => x - y)
  | .lmul => ns_jj m pc L st S (fun x y => x * y)
  | .land => ns_jj m pc L st S (fun x y => x &&& y)
  | .lcmp => ns_lcmp m pc L st S
  | .i2l => ns_i2l m pc L st S
  | .l2i => ns_l2i m pc L st S
  | .i2c => ns_i2c m pc L st S
  | .dup => ns_dup m pc L st S
  | .dup2 => ns_dup2 m pc L st S
  | .pop => ns_pop m pc L st S
  | .goto off => ns_to m pc L S off st
  | .ifCond c off => if 0 ≤ (pc : Int) + off then ns_if1 m pc L st S c off else none
  | .if_icmp c off => if 0 ≤ (pc : Int) + off then ns_if2 m pc L st S c off else none
  | .ifnull off => if 0 ≤ (pc : Int) + off then ns_nul m pc L st S true off else none
  | .ifnonnull off => if 0 ≤ (pc : Int) + off then ns_nul m pc L st S false off else none
  | .if_acmp c off => if 0 ≤ (pc : Int) + off then ns_acmp m pc L st S c off else none
  | .tableswitch d lo hi offs => ns_sw m pc L st S d lo hi offs
  | .getfield j => ns_get m pc L st S j
  | .putfield j => ns_put m pc L st S j
  | .iaload => ns_ldI m pc L st S
  | .laload => ns_ldJ m pc L st S
  | .aaload => ns_ldR m pc L st S
  | .iastore => ns_stI m pc L st S
  | .lastore => ns_stJ m pc L st S
  | .aastore => ns_stR m pc L st S
  | .arraylength => ns_len m pc L st S
  | .new j => ns_new m pc L st S j
  | .newarray .int => ns_newa m pc L st S 6 2
  | .newarray .long => ns_newa m pc L st S 7 2
  | .anewarray j => if ns_o m = 3 ∧ j = 9 then ns_newa m pc L st S 8 3 else none
  | .checkcast j => ns_cast m pc L st S j
  | .invokevirtual j => ns_virt m pc L st S j
  | .invokestatic j => ns_stat m pc L st S j
  | .invokespecial j => ns_spec m pc L st S j
  | .ireturn => ns_ret m st S 0
  | .lreturn => ns_ret m st S 1
  | .areturn => ns_ret m st S 2
  | .return_ => ns_retv m st S
  | _ => none
end NSI
/-- how long an instruction is; of a switch any length -/
def ns_ln (i : Instr) (n : Nat) : Bool := match i with
  | .tableswitch _ _ _ _ => true
  | .bipush _ => n == 2
  | .ldc _ => n == 2
  | .iload _ => n == 2
  | .lload _ => n == 2
  | .aload _ => n == 2
  | .istore _ => n == 2
  | .lstore _ => n == 2
  | .astore _ => n == 2
  | .newarray _ => n == 2
  | .sipush _ => n == 3
  | .ldc2_w _ => n == 3
  | .iinc _ _ => n == 3
  | .goto _ => n == 3
  | .ifCond _ _ => n == 3
  | .if_icmp _ _ => n == 3
  | .if_acmp _ _ => n == 3
  | .ifnull _ => n == 3
  | .ifnonnull _ => n == 3
  | .getfield _ => n == 3
  | .putfield _ => n == 3
  | .new _ => n == 3
  | .anewarray _ => n == 3
  | .checkcast _ => n == 3
  | .invokevirtual _ => n == 3
  | .invokestatic _ => n == 3
  | .invokespecial _ => n == 3
  | _ => n == 1
def ns_act (x : ns_Cf) : Option ns_Act := match decode (ns_c x.1) x.2.1 with
  | .ok (i, n) => if x.1 < 95 ∧ ns_ln i n = true then ns_I x.1 x.2.1 x.2.2.1 x.2.2.2.1 x.2.2.2.2 i else none
  | .error _ => none
def ns_exe : Nat → ns_Cf → Option ns_Rs
  | 0, _ => none
  | n + 1, x => match ns_act x with
    | none => none
    | some (.inl y) => ns_exe n y
    | some (.inr (.inl r)) => some r
    | some (.inr (.inr (y, k))) => match ns_exe n y with
      | none => none
      | some r => ns_exe n (k r.1 r.2)
/-- from x the machine comes to its end with r -/
def Ev (x : ns_Cf) (r : ns_Rs) : Prop := ∃ n, ns_exe n x = some r
theorem ns_mono1 : ∀ (n : Nat) (x : ns_Cf) (r : ns_Rs), ns_exe n x = some r → ns_exe (n + 1) x = some r := by
  intro n
  induction n with
  | zero => intro x r h; cases h
  | succ n ih =>
    intro x r h
    unfold ns_exe at h ⊢
    cases ha : ns_act x with
    | none => rw [ha] at h; cases h
    | some a =>
      rw [ha] at h
      match a, h with
      | .inl y, h => exact ih y r h
      | .inr (.inl r'), h => exact h
      | .inr (.inr (y, k)), h =>
        simp only at h ⊢
        cases hy : ns_exe n y with
        | none => rw [hy] at h; cases h
        | some r' =>
          rw [hy] at h
          rw [ih y r' hy]
          exact ih _ r h
theorem ns_mono {n n' : Nat} (hn : n ≤ n') {x : ns_Cf} {r : ns_Rs} (h : ns_exe n x = some r) : ns_exe n' x = some r := by
  induction hn with
  | refl => exact h
  | step _ ih => exact ns_mono1 _ _ _ ih
theorem Ev_det {x : ns_Cf} {r r' : ns_Rs} (h : Ev x r) (h' : Ev x r') : r = r' := by
  obtain ⟨n, h⟩ := h
  obtain ⟨n', h'⟩ := h'
  have a := ns_mono (Nat.le_max_left n n') h
  have b := ns_mono (Nat.le_max_right n n') h'
  rw [a] at b
  exact Option.some.inj b
theorem Ev_is {x : ns_Cf} {r0 : ns_Rs} (h : Ev x r0) (r : ns_Rs) : Ev x r ↔ r = r0 := ⟨fun q => Ev_det q h, fun q => q ▸ h⟩
theorem Ev_next {x y : ns_Cf} (h : ns_act x = some (.inl y)) (r : ns_Rs) : Ev x r ↔ Ev y r := by
  constructor
  · intro ⟨n, q⟩
    cases n with
    | zero => cases q
    | succ n => unfold ns_exe at q; rw [h] at q; exact ⟨n, q⟩
  · intro ⟨n, q⟩
    exact ⟨n + 1, by unfold ns_exe; rw [h]; exact q⟩
theorem Ev_ret {x : ns_Cf} {r0 : ns_Rs} (h : ns_act x = some (.inr (.inl r0))) (r : ns_Rs) : Ev x r ↔ r = r0 := by
  constructor
  · intro ⟨n, q⟩
    cases n with
    | zero => cases q
    | succ n => unfold ns_exe at q; rw [h] at q; exact (Option.some.inj q).symm
  · intro q
    exact ⟨1, by unfold ns_exe; rw [h, q]⟩
theorem Ev_call {x y : ns_Cf} {k : Option Value → ns_St → ns_Cf} (h : ns_act x = some (.inr (.inr (y, k)))) (r : ns_Rs) : Ev x r ↔ ∃ r1, Ev y r1 ∧ Ev (k r1.1 r1.2) r := by
  constructor
  · intro ⟨n, q⟩
    cases n with
    | zero => cases q
    | succ n =>
      unfold ns_exe at q; rw [h] at q
      simp only at q
      cases hy : ns_exe n y with
      | none => rw [hy] at q; cases q
      | some r1 => rw [hy] at q; exact ⟨r1, ⟨n, hy⟩, ⟨n, q⟩⟩
  · intro ⟨r1, ⟨n1, q1⟩, ⟨n2, q2⟩⟩
    refine ⟨max n1 n2 + 1, ?_⟩
    unfold ns_exe; rw [h]
    simp only [ns_mono (Nat.le_max_left n1 n2) q1]
    exact ns_mono (Nat.le_max_right n1 n2) q2
theorem Ev_bad {x : ns_Cf} (h : ns_act x = none) (r : ns_Rs) : Ev x r ↔ False := by
  constructor
  · intro ⟨n, q⟩
    cases n with
    | zero => cases q
    | succ n => unfold ns_exe at q; rw [h] at q; cases q
  · intro q; exact q.elim
end
section
/-! ===== the machine beside the heap ===== -/
def ns_lp (L : List (Option Value)) : List (Nat × Value) := (List.range L.length).filterMap (fun i => (L.getD i none).map (fun v => (i, v)))
theorem ns_lp_mem {L : List (Option Value)} {q : Nat × Value} : q ∈ ns_lp L ↔ L.getD q.1 none = some q.2 := by
  unfold ns_lp
  rw [List.mem_filterMap]
  constructor
  · rintro ⟨i, -, h⟩
    cases hi : L.getD i none with
    | none => rw [hi] at h; cases h
    | some v => rw [hi] at h; cases h; exact hi
  · intro h
    refine ⟨q.1, ?_, by rw [h]; rfl⟩
    rw [List.mem_range]
    rcases Nat.lt_or_ge q.1 L.length with g | g
    · exact g
    · rw [List.getD_eq_getElem?_getD, List.getElem?_eq_none g] at h
      cases h
def ns_L (ls : Array Slot) (n : Nat) (L : List (Option Value)) : Prop := L.length = n ∧ lv_has ls n (ns_lp L)
theorem ns_L.at {ls : Array Slot} {n : Nat} {L : List (Option Value)} (h : ns_L ls n L) {i : Nat} {v : Value} (hi : L.getD i none = some v) : ls[i]? = some (.val v) := h.2.2.2 (i, v) (ns_lp_mem.mpr hi)
theorem ns_getD_set {α : Type} (L : List α) (i j : Nat) (v d : α) : (L.set i v).getD j d = if j = i ∧ i < L.length then v else L.getD j d := by
  rw [List.getD_eq_getElem?_getD, List.getD_eq_getElem?_getD, List.getElem?_set]
  by_cases h : i = j
  · subst h
    by_cases g : i < L.length
    · simp [g]
    · simp [g]
  · have h' : ¬ (j = i) := fun q => h q.symm
    simp [h, h']
theorem ns_ahead_ok {L : List (Option Value)} {i : Nat} (h : ns_ahead L i = true) {j : Nat} {w : Value} (hj : j + 1 = i) (hw : L.getD j none = some w) : ¬ w.category = 2 := by
  subst hj
  have h : ns_c1 (L.getD j none) = true := h
  rw [hw] at h
  cases w <;> simp_all [ns_c1, Value.category]
theorem ns_L.set {ls : Array Slot} {n : Nat} {L : List (Option Value)} {i : Nat} {v : Value} (hl : L.length = n) (ha : ns_ahead L i = true) (h : lv_has ls n ((i, v) :: (ns_lp L).filter (fun q => !(q.1 == i) && !(q.1 + 1 == i && q.2.category == 2)))) : ns_L ls n (L.set i (some v)) := by
  refine ⟨by rw [List.length_set]; exact hl, h.1, h.2.1, fun q hq => h.2.2 q ?_⟩
  have hq := ns_lp_mem.mp hq
  rw [ns_getD_set] at hq
  by_cases g : q.1 = i ∧ i < L.length
  · rw [if_pos g] at hq
    cases hq
    exact List.mem_cons.mpr (Or.inl (Prod.ext g.1 rfl))
  · rw [if_neg g] at hq
    have hlt : q.1 < L.length := by
      rcases Nat.lt_or_ge q.1 L.length with z | z
      · exact z
      · rw [List.getD_eq_getElem?_getD, List.getElem?_eq_none z] at hq
        cases hq
    have hne : ¬ q.1 = i := fun z => g ⟨z, by rw [← z]; exact hlt⟩
    refine List.mem_cons_of_mem _ (List.mem_filter.mpr ⟨ns_lp_mem.mpr hq, ?_⟩)
    by_cases z : q.1 + 1 = i
    · have hc := ns_ahead_ok ha z hq
      simp [hne, hc]
    · simp [hne, z]
theorem ns_L.set2 {ls : Array Slot} {n : Nat} {L : List (Option Value)} {i : Nat} {v : Value} (hl : L.length = n) (ha : ns_ahead L i = true) (hi : i + 1 < L.length) (h : lv_has ls n ((i, v) :: (ns_lp L).filter (fun q => !(q.1 == i) && (!(q.1 == i + 1) && !(q.1 + 1 == i && q.2.category == 2))))) : ns_L ls n ((L.set i (some v)).set (i + 1) none) := by
  refine ⟨by rw [List.length_set, List.length_set]; exact hl, h.1, h.2.1, fun q hq => h.2.2 q ?_⟩
  have hq := ns_lp_mem.mp hq
  rw [ns_getD_set] at hq
  by_cases g1 : q.1 = i + 1 ∧ i + 1 < (L.set i (some v)).length
  · rw [if_pos g1] at hq
    cases hq
  · rw [if_neg g1, ns_getD_set] at hq
    rw [List.length_set] at g1
    by_cases g : q.1 = i ∧ i < L.length
    · rw [if_pos g] at hq
      cases hq
      exact List.mem_cons.mpr (Or.inl (Prod.ext g.1 rfl))
    · rw [if_neg g] at hq
      have hlt : q.1 < L.length := by
        rcases Nat.lt_or_ge q.1 L.length with z | z
        · exact z
        · rw [List.getD_eq_getElem?_getD, List.getElem?_eq_none z] at hq
          cases hq
      have hne : ¬ q.1 = i := fun z => g ⟨z, by rw [← z]; exact hlt⟩
      have hne2 : ¬ q.1 = i + 1 := fun z => g1 ⟨z, hi⟩
      refine List.mem_cons_of_mem _ (List.mem_filter.mpr ⟨ns_lp_mem.mpr hq, ?_⟩)
      by_cases z : q.1 + 1 = i
      · have hc := ns_ahead_ok ha z hq
        simp [hne, hne2, hc]
      · simp [hne, hne2, z]
theorem ns_el_len (vs : List Value) : (ns_el vs).length = (lg_sl vs).length := by
  induction vs with
  | nil => rfl
  | cons v t ih =>
    unfold ns_el
    rw [show lg_sl (v :: t) = (if v.category = 2 then [Slot.val v, .second] else [.val v]) ++ lg_sl t from rfl]
    split <;> simp [ih] <;> omega
theorem ns_el_at : ∀ (vs : List Value) (j : Nat) (v : Value), (ns_el vs).getD j none = some v → ∀ b, (b + j, v) ∈ lv_args b vs
  | [], j, v, h => by simp [ns_el] at h
  | w :: t, j, v, h => by
    intro b
    unfold ns_el at h
    unfold lv_args
    by_cases c : w.category = 2
    · rw [if_pos c] at h
      rw [if_pos c]
      match j, h with
      | 0, h => simp at h; subst h; exact List.mem_cons_self
      | 1, h => simp at h
      | j + 2, h =>
        have := ns_el_at t j v (by simpa using h) (b + 2)
        exact List.mem_cons_of_mem _ (by rw [show b + (j + 2) = b + 2 + j by omega]; exact this)
    · rw [if_neg c] at h
      rw [if_neg c]
      match j, h with
      | 0, h => simp at h; subst h; exact List.mem_cons_self
      | j + 1, h =>
        have := ns_el_at t j v (by simpa using h) (b + 1)
        exact List.mem_cons_of_mem _ (by rw [show b + (j + 1) = b + 1 + j by omega]; exact this)
theorem ns_entry_ok {k : Nat} {vs : List Value} (h : (ns_el vs).length ≤ ns_m k) : ns_L ((lg_sl vs ++ List.replicate (ns_m k - (lg_sl vs).length) Slot.unset).toArray) (ns_m k) (ns_entry k vs) := by
  have hv := lv_entry vs (n := ns_m k) (by rw [← ns_el_len]; exact h)
  refine ⟨by unfold ns_entry; rw [List.length_append, List.length_replicate]; omega, hv.1, hv.2.1, fun q hq => hv.2.2 q ?_⟩
  have hq := ns_lp_mem.mp hq
  unfold ns_entry at hq
  have g : (ns_el vs).getD q.1 none = some q.2 := by
    rw [List.getD_eq_getElem?_getD] at hq ⊢
    by_cases z : q.1 < (ns_el vs).length
    · rw [List.getElem?_append_left z] at hq
      exact hq
    · rw [List.getElem?_append_right (by omega), List.getElem?_replicate] at hq
      split at hq <;> simp at hq
  have := ns_el_at vs q.1 q.2 g 0
  rw [Nat.zero_add] at this
  exact this
-- the pool
theorem ns_k_lt {S : ns_St} {a : Nat} (h : ns_k S a ≠ 0) : a < ns_z S := by
  unfold ns_k at h
  by_cases g : a < S.1.1
  · exact g
  · rw [if_neg g] at h
    exact absurd rfl h
theorem ns_dom_mem {S : ns_St} {a : Nat} : a ∈ ns_dom S ↔ ns_k S a ≠ 0 := by
  unfold ns_dom
  rw [List.mem_filter, List.mem_range]
  constructor
  · intro h; simpa using h.2
  · intro h; exact ⟨ns_k_lt h, by simpa using h⟩
theorem ns_dom_nodup (S : ns_St) : (ns_dom S).Nodup := List.Pairwise.filter _ List.nodup_range
section NSP
variable {cI cJ cT : ClassId}
theorem ns_D {A : Nat → Prop} {S : ns_St} (h : ∀ a, ns_k S a ≠ 0 → A a) : va_D A (ns_pool cI cJ cT S) := by
  have key : ∀ (i : Nat) (q : Nat × va_E), (ns_pool cI cJ cT S)[i]? = some q → (ns_dom S)[i]? = some q.1 := by
    intro i q hq
    unfold ns_pool va_pl at hq
    rw [List.getElem?_map] at hq
    cases hd : (ns_dom S)[i]? with
    | none => rw [hd] at hq; cases hq
    | some b => rw [hd] at hq; cases hq; rfl
  refine ⟨fun i j x y hx hy e => ?_, fun i q hq => h _ (ns_dom_mem.mp (List.mem_of_getElem? (key i q hq)))⟩
  have h1 := key i x hx
  have h2 := key j y hy
  rw [← e, ← h1] at h2
  exact (List.getElem?_inj (List.getElem?_eq_some_iff.mp h1).1 (ns_dom_nodup S)).mp h2.symm
theorem ns_at {S : ns_St} {a : Nat} (h : ns_k S a ≠ 0) : ∃ i : Nat, (ns_pool cI cJ cT S)[i]? = some (a, ns_ce cI cJ cT S a) := va_pl_get (X := []) (ns_dom_mem.mpr h)
theorem ns_pool_set {A : Nat → Prop} {S S' : ns_St} {a i : Nat} {e : va_E} (hD : va_D A (ns_pool cI cJ cT S)) (ha : ns_k S a ≠ 0) (hi : (ns_pool cI cJ cT S)[i]? = some (a, ns_ce cI cJ cT S a)) (hd : ns_dom S' = ns_dom S) (hc : ∀ b, va_up (ns_ce cI cJ cT S) a e b = ns_ce cI cJ cT S' b) : (ns_pool cI cJ cT S).set i (a, e) = ns_pool cI cJ cT S' := by
  have h1 := va_pl_set (X := []) (e := e) hD (ns_dom_mem.mpr ha) hi
  refine Eq.trans h1 ?_
  unfold ns_pool
  rw [hd]
  exact va_pl_congr hc
theorem ns_pool_add {S S' : ns_St} {e : va_E} (hd : ns_dom S' = ns_dom S ++ [ns_z S]) (hc : ∀ b, va_up (ns_ce cI cJ cT S) (ns_z S) e b = ns_ce cI cJ cT S' b) : ns_pool cI cJ cT S ++ [(ns_z S, e)] = ns_pool cI cJ cT S' := by
  unfold ns_pool
  rw [hd, va_pl_push (fun h => absurd (ns_k_lt (ns_dom_mem.mp h)) (Nat.lt_irrefl _))]
  exact va_pl_congr hc
theorem ns_dom_add {S S' : ns_St} {kd : Nat} (hz : ns_z S' = ns_z S + 1) (hk : ∀ a, ns_k S' a = if a = ns_z S then kd else ns_k S a) (h0 : kd ≠ 0) : ns_dom S' = ns_dom S ++ [ns_z S] := by
  unfold ns_dom
  rw [hz, List.range_succ, List.filter_append]
  congr 1
  · refine List.filter_congr (fun a ha => ?_)
    rw [List.mem_range] at ha
    rw [hk, if_neg (by omega)]
  · simp [hk, h0]
theorem ns_fl_len (S : ns_St) (ci a : Nat) : (ns_fl S ci a).length = ns_N ci := by simp [ns_fl]
theorem ns_fl_at (S : ns_St) (ci a : Nat) {j : Nat} (h : j < ns_N ci) : (ns_fl S ci a)[j]? = some (ns_fv S ci j a) := by simp [ns_fl, h]
theorem ns_fl_set {S S' : ns_St} {ci a j : Nat} {v : Value} (hj : j < ns_N ci) (h1 : ns_fv S' ci j a = v) (h2 : ∀ i, i ≠ j → ns_fv S' ci i a = ns_fv S ci i a) : (ns_fl S ci a).set j v = ns_fl S' ci a := by
  apply List.ext_getElem?
  intro i
  rw [List.getElem?_set]
  by_cases g : i < ns_N ci
  · rw [ns_fl_at S' ci a g]
    by_cases e : j = i
    · subst e
      rw [if_pos rfl, ns_fl_len, if_pos g, h1]
    · rw [if_neg e, ns_fl_at S ci a g, h2 i (fun q => e q.symm)]
  · have e : j ≠ i := fun q => g (q ▸ hj)
    rw [if_neg e, List.getElem?_eq_none (by rw [ns_fl_len]; omega), List.getElem?_eq_none (by rw [ns_fl_len]; omega)]
theorem ns_ce_O {S : ns_St} {a ci : Nat} (h : ns_k S a = ci + 1) (hc : ci < 5) : ns_ce cI cJ cT S a = .inr (ci, ns_fl S ci a) := by
  unfold ns_ce
  rw [h, if_neg (by omega), if_neg (by omega), if_neg (by omega)]
  rfl
/-- cells are the same where what they are made of is the same -/
theorem ns_ce_congr {S S' : ns_St} {b : Nat} (hk : ns_k S' b = ns_k S b) (hn : ns_n S' b = ns_n S b) (h1 : ∀ j, fI S' j b = fI S j b) (h2 : ∀ j, fJ S' j b = fJ S j b) (h3 : ∀ j, fR S' j b = fR S j b) (h4 : aI S' b = aI S b) (h5 : aJ S' b = aJ S b) (h6 : aR S' b = aR S b) : ns_ce cI cJ cT S b = ns_ce cI cJ cT S' b := by
  have hf : ∀ ci, ns_fl S ci b = ns_fl S' ci b := by
    intro ci
    unfold ns_fl
    refine List.map_congr_left (fun j _ => ?_)
    unfold ns_fv
    rw [h1, h2, h3]
  unfold ns_ce
  rw [hk, hn, h4, h5, h6, hf]
end NSP
end
section
/-! ===== the machine's steps are the JVM's: what never touches the heap ===== -/
def ns_A (S : ns_St) : Nat → Prop := fun q => ns_k S q ≠ 0 ∨ ns_z S ≤ q
abbrev ns_tys (cI cJ cT : ClassId) : List (ClassId × FieldType) := [(cI, .int), (cJ, .long), (cT, .object "NestShelf$Thing")]
def ns_H (D : va_G) (cI cJ cT : ClassId) (S : ns_St) (U : State) : Prop := U.heap.size = ns_z S ∧ va_P D vwCl (ns_pool cI cJ cT S) U.heap ∧ va_K D vwCl (ns_tys cI cJ cT) U ∧ ns_E U
def ns_rm (k cn sn : Nat) : Room := { frames := ns_h k, cells := cn, slots := sn, locals := 35 * ns_h k }
def ns_Q (D : va_G) (cI cJ cT : ClassId) (S0 : ns_St) (r : ns_Rs) : Array Value → State → Outcome → State → Prop := fun _ st o t => (o = .returned r.1 ∧ ns_H D cI cJ cT r.2 t) ∧ va_F (ns_A S0) st t
/-- a method's contract: from the pool S with these arguments it comes to r -/
def ns_Met (l : Launch) (D : va_G) (cI cJ cT : ClassId) (k : Nat) (vs : List Value) (S : ns_St) (r : ns_Rs) : Prop := Met l (ns_y k) (ns_w k) (ns_rm k (ns_z r.2 - ns_z S) (ns_s r.2 - ns_s S)) (va_Pc vs (ns_H D cI cJ cT S)) (ns_Q D cI cJ cT S r) (ns_z r.2 - ns_z S) (ns_s r.2 - ns_s S) (ns_A S)
def ns_C (p : Program) (s : State) (m : MethodId) (args : Array Value) (meth : Method) (c : Code) (D : va_G) (cI cJ cT : ClassId) (k : Nat) (S0 : ns_St) : Prop :=
  k < 95 ∧ p.tables.exec = Jvm.exec ∧ c.code = ns_c k ∧ c.maxLocals = ns_m k ∧ meth.sig.returnType = ns_r k ∧ meth.locks = false ∧ (ns_ini k = true → meth.name = "<init>") ∧ s.vm.findClass (ns_R (ns_o k)) = some m.cls ∧ (∀ w ∈ ns_Gt, w.before args s = true) ∧ va_K D vwCl (ns_tys cI cJ cT) s ∧ ns_E s ∧ s.heap.size = ns_z S0
def ns_J (s : State) (D : va_G) (cI cJ cT : ClassId) (S0 S : ns_St) (H : Heap) (locs : List Loc) : Prop :=
  H.size = ns_z S ∧ va_P D vwCl (ns_pool cI cJ cT S) H ∧ (∀ a, ns_k S a ≠ 0 → ns_A S0 a) ∧ va_S (ns_A S0) s.heap H locs ∧ ns_z S0 ≤ ns_z S ∧ ns_s S0 ≤ ns_s S
def ns_G (p : Program) (l : Launch) (e : Env) (s : State) (m : MethodId) (args : Array Value) (below : List Frame) (meth : Method) (c : Code) (D : va_G) (cI cJ cT : ClassId) (k : Nat) (S0 : ns_St) (r : ns_Rs) (pc : Nat) (L : List (Option Value)) (st : List Value) (S : ns_St) : Prop :=
  ∀ (ls : Array Slot) (H : Heap) (locs : List Loc), ns_L ls (ns_m k) L → ns_J s D cI cJ cT S0 S H locs → W p l e (ns_rm k (ns_z r.2 - ns_z S0) (ns_s r.2 - ns_s S0)) s m args below meth c H locs (ns_z S - ns_z S0) (ns_s S - ns_s S0) (MQ below (ns_Q D cI cJ cT S0 r) args s (ns_z r.2 - ns_z S0) (ns_s r.2 - ns_s S0) (ns_A S0)) (F0 m pc ls st)
def ns_Sim (p : Program) (l : Launch) (e : Env) (s : State) (m : MethodId) (args : Array Value) (below : List Frame) (meth : Method) (c : Code) (D : va_G) (cI cJ cT : ClassId) (k : Nat) (S0 : ns_St) (r : ns_Rs) (a : ns_Act) : Prop := match a with
  | .inl y => ns_G p l e s m args below meth c D cI cJ cT k S0 r y.2.1 y.2.2.1 y.2.2.2.1 y.2.2.2.2 ∧ ns_z y.2.2.2.2 ≤ ns_z r.2 ∧ ns_s y.2.2.2.2 ≤ ns_s r.2
  | .inr (.inl r') => r' = r
  | .inr (.inr (y, kk)) => ∃ r1 : ns_Rs, (∀ vs, y.2.2.1 = ns_entry y.1 vs → (ns_el vs).length ≤ ns_m y.1 → ns_Met l D cI cJ cT y.1 vs y.2.2.2.2 r1) ∧ ns_G p l e s m args below meth c D cI cJ cT k S0 r (kk r1.1 r1.2).2.1 (kk r1.1 r1.2).2.2.1 (kk r1.1 r1.2).2.2.2.1 (kk r1.1 r1.2).2.2.2.2 ∧ (∀ b, ns_k r1.2 b ≠ 0 → ns_A y.2.2.2.2 b) ∧ ns_z y.2.2.2.2 ≤ ns_z r1.2 ∧ ns_s y.2.2.2.2 ≤ ns_s r1.2 ∧ ns_z r1.2 ≤ ns_z r.2 ∧ ns_s r1.2 ≤ ns_s r.2
section NSS
variable {p : Program} {l : Launch} {e : Env} {s : State} {m : MethodId} {args : Array Value} {below : List Frame} {meth : Method} {c : Code} {D : va_G} {cI cJ cT : ClassId} {k : Nat} {S0 : ns_St} {r : ns_Rs} {pc : Nat} {L : List (Option Value)} {st : List Value} {S : ns_St} {a : ns_Act}

theorem so_iconst {n : Int} (C0 : ns_C p s m args meth c D cI cJ cT k S0) (hd : decode (ns_c k) pc = .ok (.iconst n, 1)) (h : ns_I k pc L st S (.iconst n) = some a) (hs : ns_Sim p l e s m args below meth c D cI cJ cT k S0 r a) : ns_G p l e s m args below meth c D cI cJ cT k S0 r pc L st S := by
  obtain ⟨hk, hx, hb, hml, hr, hlk, hni, hown, hts, hK, hE, hsz⟩ := C0
  have h : ns_push k pc L st S 1 (.int (Int32.ofInt n)) = some a := h
  cases h
  intro ls H locs hL hJ
  exact lv_iconst hx hb hd rfl (hs.1 ls H locs hL hJ)
theorem so_bipush {n : Int} (C0 : ns_C p s m args meth c D cI cJ cT k S0) (hd : decode (ns_c k) pc = .ok (.bipush n, 2)) (h : ns_I k pc L st S (.bipush n) = some a) (hs : ns_Sim p l e s m args below meth c D cI cJ cT k S0 r a) : ns_G p l e s m args below meth c D cI cJ cT k S0 r pc L st S := by
  obtain ⟨hk, hx, hb, hml, hr, hlk, hni, hown, hts, hK, hE, hsz⟩ := C0
  have h : ns_push k pc L st S 2 (.int (Int8.ofInt n).toInt32) = some a := h
  cases h
  intro ls H locs hL hJ
  exact lv_bipush hx hb hd rfl (hs.1 ls H locs hL hJ)
theorem so_sipush {n : Int} (C0 : ns_C p s m args meth c D cI cJ cT k S0) (hd : decode (ns_c k) pc = .ok (.sipush n, 3)) (h : ns_I k pc L st S (.sipush n) = some a) (hs : ns_Sim p l e s m args below meth c D cI cJ cT k S0 r a) : ns_G p l e s m args below meth c D cI cJ cT k S0 r pc L st S := by
  obtain ⟨hk, hx, hb, hml, hr, hlk, hni, hown, hts, hK, hE, hsz⟩ := C0
  have h : ns_push k pc L st S 3 (.int (Int16.ofInt n).toInt32) = some a := h
  cases h
  intro ls H locs hL hJ
  exact lv_sipush hx hb hd rfl (hs.1 ls H locs hL hJ)
theorem so_lconst {n : Fin 2} (C0 : ns_C p s m args meth c D cI cJ cT k S0) (hd : decode (ns_c k) pc = .ok (.lconst n, 1)) (h : ns_I k pc L st S (.lconst n) = some a) (hs : ns_Sim p l e s m args below meth c D cI cJ cT k S0 r a) : ns_G p l e s m args below meth c D cI cJ cT k S0 r pc L st S := by
  obtain ⟨hk, hx, hb, hml, hr, hlk, hni, hown, hts, hK, hE, hsz⟩ := C0
  have h : ns_push k pc L st S 1 (.long (Int64.ofNat (n : Nat))) = some a := h
  cases h
  intro ls H locs hL hJ
  exact lv_lconst hx hb hd rfl (hs.1 ls H locs hL hJ)
theorem so_null (C0 : ns_C p s m args meth c D cI cJ cT k S0) (hd : decode (ns_c k) pc = .ok (.aconst_null, 1)) (h : ns_I k pc L st S (.aconst_null) = some a) (hs : ns_Sim p l e s m args below meth c D cI cJ cT k S0 r a) : ns_G p l e s m args below meth c D cI cJ cT k S0 r pc L st S := by
  obtain ⟨hk, hx, hb, hml, hr, hlk, hni, hown, hts, hK, hE, hsz⟩ := C0
  have h : ns_push k pc L st S 1 .null = some a := h
  cases h
  intro ls H locs hL hJ
  exact lv_null hx hb hd (hs.1 ls H locs hL hJ)
theorem so_ldc {j : Nat} (C0 : ns_C p s m args meth c D cI cJ cT k S0) (hd : decode (ns_c k) pc = .ok (.ldc j, 2)) (h : ns_I k pc L st S (.ldc j) = some a) (hs : ns_Sim p l e s m args below meth c D cI cJ cT k S0 r a) : ns_G p l e s m args below meth c D cI cJ cT k S0 r pc L st S := by
  obtain ⟨hk, hx, hb, hml, hr, hlk, hni, hown, hts, hK, hE, hsz⟩ := C0
  have h : (match ns_lk (ns_o k) j ns_k1 with
    | some v => ns_push k pc L st S 2 (.int v)
    | none => none) = some a := h
  cases hv : ns_lk (ns_o k) j ns_k1 with
  | none => rw [hv] at h; cases h
  | some v =>
    rw [hv] at h
    cases h
    intro ls H locs hL hJ
    exact lv_ldc hx hb hown (hts _ (ns_k1_ok _ (ns_lk_mem hv))) hd (hs.1 ls H locs hL hJ)
theorem so_ldc2 {j : Nat} (C0 : ns_C p s m args meth c D cI cJ cT k S0) (hd : decode (ns_c k) pc = .ok (.ldc2_w j, 3)) (h : ns_I k pc L st S (.ldc2_w j) = some a) (hs : ns_Sim p l e s m args below meth c D cI cJ cT k S0 r a) : ns_G p l e s m args below meth c D cI cJ cT k S0 r pc L st S := by
  obtain ⟨hk, hx, hb, hml, hr, hlk, hni, hown, hts, hK, hE, hsz⟩ := C0
  have h : (match ns_lk (ns_o k) j ns_k2 with
    | some v => ns_push k pc L st S 3 (.long v)
    | none => none) = some a := h
  cases hv : ns_lk (ns_o k) j ns_k2 with
  | none => rw [hv] at h; cases h
  | some v =>
    rw [hv] at h
    cases h
    intro ls H locs hL hJ
    exact lv_ldc2 hx hb hown (hts _ (ns_k2_ok _ (ns_lk_mem hv))) hd (hs.1 ls H locs hL hJ)
theorem so_iload_n {j : Fin 4} (C0 : ns_C p s m args meth c D cI cJ cT k S0) (hd : decode (ns_c k) pc = .ok (.iload_n j, 1)) (h : ns_I k pc L st S (.iload_n j) = some a) (hs : ns_Sim p l e s m args below meth c D cI cJ cT k S0 r a) : ns_G p l e s m args below meth c D cI cJ cT k S0 r pc L st S := by
  obtain ⟨hk, hx, hb, hml, hr, hlk, hni, hown, hts, hK, hE, hsz⟩ := C0
  have h : ns_ld k pc L st S ns_isI (j : Nat) 1 = some a := h
  unfold ns_ld at h
  cases hv : L.getD (j : Nat) none with
  | none => rw [hv] at h; cases h
  | some v =>
    rw [hv] at h
    by_cases q : ns_isI v = true
    · simp only [if_pos q] at h
      cases h
      intro ls H locs hL hJ
      have hat := hL.at hv
      have hg := hs.1 ls H locs hL hJ
      cases v with
      | int x => exact lv_iload_n hx hb hd rfl hat hg
      | _ => cases q
    · simp only [if_neg q] at h
      cases h
theorem so_iload {j : Nat} (C0 : ns_C p s m args meth c D cI cJ cT k S0) (hd : decode (ns_c k) pc = .ok (.iload j, 2)) (h : ns_I k pc L st S (.iload j) = some a) (hs : ns_Sim p l e s m args below meth c D cI cJ cT k S0 r a) : ns_G p l e s m args below meth c D cI cJ cT k S0 r pc L st S := by
  obtain ⟨hk, hx, hb, hml, hr, hlk, hni, hown, hts, hK, hE, hsz⟩ := C0
  have h : ns_ld k pc L st S ns_isI j 2 = some a := h
  unfold ns_ld at h
  cases hv : L.getD j none with
  | none => rw [hv] at h; cases h
  | some v =>
    rw [hv] at h
    by_cases q : ns_isI v = true
    · simp only [if_pos q] at h
      cases h
      intro ls H locs hL hJ
      have hat := hL.at hv
      have hg := hs.1 ls H locs hL hJ
      cases v with
      | int x => exact lv_iload hx hb hd hat hg
      | _ => cases q
    · simp only [if_neg q] at h
      cases h
theorem so_lload_n {j : Fin 4} (C0 : ns_C p s m args meth c D cI cJ cT k S0) (hd : decode (ns_c k) pc = .ok (.lload_n j, 1)) (h : ns_I k pc L st S (.lload_n j) = some a) (hs : ns_Sim p l e s m args below meth c D cI cJ cT k S0 r a) : ns_G p l e s m args below meth c D cI cJ cT k S0 r pc L st S := by
  obtain ⟨hk, hx, hb, hml, hr, hlk, hni, hown, hts, hK, hE, hsz⟩ := C0
  have h : ns_ld k pc L st S ns_isJ (j : Nat) 1 = some a := h
  unfold ns_ld at h
  cases hv : L.getD (j : Nat) none with
  | none => rw [hv] at h; cases h
  | some v =>
    rw [hv] at h
    by_cases q : ns_isJ v = true
    · simp only [if_pos q] at h
      cases h
      intro ls H locs hL hJ
      have hat := hL.at hv
      have hg := hs.1 ls H locs hL hJ
      cases v with
      | long x => exact lv_lload_n hx hb hd rfl hat hg
      | _ => cases q
    · simp only [if_neg q] at h
      cases h
theorem so_lload {j : Nat} (C0 : ns_C p s m args meth c D cI cJ cT k S0) (hd : decode (ns_c k) pc = .ok (.lload j, 2)) (h : ns_I k pc L st S (.lload j) = some a) (hs : ns_Sim p l e s m args below meth c D cI cJ cT k S0 r a) : ns_G p l e s m args below meth c D cI cJ cT k S0 r pc L st S := by
  obtain ⟨hk, hx, hb, hml, hr, hlk, hni, hown, hts, hK, hE, hsz⟩ := C0
  have h : ns_ld k pc L st S ns_isJ j 2 = some a := h
  unfold ns_ld at h
  cases hv : L.getD j none with
  | none => rw [hv] at h; cases h
  | some v =>
    rw [hv] at h
    by_cases q : ns_isJ v = true
    · simp only [if_pos q] at h
      cases h
      intro ls H locs hL hJ
      have hat := hL.at hv
      have hg := hs.1 ls H locs hL hJ
      cases v with
      | long x => exact lv_lload hx hb hd hat hg
      | _ => cases q
    · simp only [if_neg q] at h
      cases h
theorem so_aload_n {j : Fin 4} (C0 : ns_C p s m args meth c D cI cJ cT k S0) (hd : decode (ns_c k) pc = .ok (.aload_n j, 1)) (h : ns_I k pc L st S (.aload_n j) = some a) (hs : ns_Sim p l e s m args below meth c D cI cJ cT k S0 r a) : ns_G p l e s m args below meth c D cI cJ cT k S0 r pc L st S := by
  obtain ⟨hk, hx, hb, hml, hr, hlk, hni, hown, hts, hK, hE, hsz⟩ := C0
  have h : ns_ld k pc L st S ns_rfok (j : Nat) 1 = some a := h
  unfold ns_ld at h
  cases hv : L.getD (j : Nat) none with
  | none => rw [hv] at h; cases h
  | some v =>
    rw [hv] at h
    by_cases q : ns_rfok v = true
    · simp only [if_pos q] at h
      cases h
      intro ls H locs hL hJ
      have hat := hL.at hv
      have hg := hs.1 ls H locs hL hJ
      cases v with
      | ref x => exact lv_aload_n hx hb hd rfl hat hg
      | null => exact lv_aload_nN hx hb hd rfl hat hg
      | _ => cases q
    · simp only [if_neg q] at h
      cases h
theorem so_aload {j : Nat} (C0 : ns_C p s m args meth c D cI cJ cT k S0) (hd : decode (ns_c k) pc = .ok (.aload j, 2)) (h : ns_I k pc L st S (.aload j) = some a) (hs : ns_Sim p l e s m args below meth c D cI cJ cT k S0 r a) : ns_G p l e s m args below meth c D cI cJ cT k S0 r pc L st S := by
  obtain ⟨hk, hx, hb, hml, hr, hlk, hni, hown, hts, hK, hE, hsz⟩ := C0
  have h : ns_ld k pc L st S ns_rfok j 2 = some a := h
  unfold ns_ld at h
  cases hv : L.getD j none with
  | none => rw [hv] at h; cases h
  | some v =>
    rw [hv] at h
    by_cases q : ns_rfok v = true
    · simp only [if_pos q] at h
      cases h
      intro ls H locs hL hJ
      have hat := hL.at hv
      have hg := hs.1 ls H locs hL hJ
      cases v with
      | ref x => exact lv_aload hx hb hd hat hg
      | null => exact lv_aloadN hx hb hd hat hg
      | _ => cases q
    · simp only [if_neg q] at h
      cases h
theorem so_istore_n {j : Fin 4} (C0 : ns_C p s m args meth c D cI cJ cT k S0) (hd : decode (ns_c k) pc = .ok (.istore_n j, 1)) (h : ns_I k pc L st S (.istore_n j) = some a) (hs : ns_Sim p l e s m args below meth c D cI cJ cT k S0 r a) : ns_G p l e s m args below meth c D cI cJ cT k S0 r pc L st S := by
  obtain ⟨hk, hx, hb, hml, hr, hlk, hni, hown, hts, hK, hE, hsz⟩ := C0
  have h : ns_sto k pc L st S ns_isI (j : Nat) 1 = some a := h
  unfold ns_sto at h
  match st, h with
  | [], h => cases h
  | v :: t, h =>
    by_cases q : ns_isI v = true ∧ (j : Nat) < L.length ∧ ns_ahead L (j : Nat) = true
    · simp only [if_pos q] at h
      cases h
      intro ls H locs hL hJ
      have hn : (j : Nat) < ns_m k := hL.1 ▸ q.2.1
      have hg : ∀ ls', lv_has ls' (ns_m k) (((j : Nat), v) :: (ns_lp L).filter (fun q => !(q.1 == (j : Nat)) && !(q.1 + 1 == (j : Nat) && q.2.category == 2))) → _ := fun ls' hl' => hs.1 ls' H locs (ns_L.set hL.1 q.2.2 hl') hJ
      cases v with
      | int x => exact lv_istore_n hx hb hd rfl hL.2 hn rfl hg
      | _ => cases q.1
    · simp only [if_neg q] at h
      cases h
theorem so_astore_n {j : Fin 4} (C0 : ns_C p s m args meth c D cI cJ cT k S0) (hd : decode (ns_c k) pc = .ok (.astore_n j, 1)) (h : ns_I k pc L st S (.astore_n j) = some a) (hs : ns_Sim p l e s m args below meth c D cI cJ cT k S0 r a) : ns_G p l e s m args below meth c D cI cJ cT k S0 r pc L st S := by
  obtain ⟨hk, hx, hb, hml, hr, hlk, hni, hown, hts, hK, hE, hsz⟩ := C0
  have h : ns_sto k pc L st S ns_rfok (j : Nat) 1 = some a := h
  unfold ns_sto at h
  match st, h with
  | [], h => cases h
  | v :: t, h =>
    by_cases q : ns_rfok v = true ∧ (j : Nat) < L.length ∧ ns_ahead L (j : Nat) = true
    · simp only [if_pos q] at h
      cases h
      intro ls H locs hL hJ
      have hn : (j : Nat) < ns_m k := hL.1 ▸ q.2.1
      have hg : ∀ ls', lv_has ls' (ns_m k) (((j : Nat), v) :: (ns_lp L).filter (fun q => !(q.1 == (j : Nat)) && !(q.1 + 1 == (j : Nat) && q.2.category == 2))) → _ := fun ls' hl' => hs.1 ls' H locs (ns_L.set hL.1 q.2.2 hl') hJ
      cases v with
      | ref x => exact lv_astore_n hx hb hd rfl hL.2 hn rfl hg
      | null => exact lv_astore_nN hx hb hd rfl hL.2 hn rfl hg
      | _ => cases q.1
    · simp only [if_neg q] at h
      cases h
theorem so_lstore_n {j : Fin 4} (C0 : ns_C p s m args meth c D cI cJ cT k S0) (hd : decode (ns_c k) pc = .ok (.lstore_n j, 1)) (h : ns_I k pc L st S (.lstore_n j) = some a) (hs : ns_Sim p l e s m args below meth c D cI cJ cT k S0 r a) : ns_G p l e s m args below meth c D cI cJ cT k S0 r pc L st S := by
  obtain ⟨hk, hx, hb, hml, hr, hlk, hni, hown, hts, hK, hE, hsz⟩ := C0
  have h : ns_sto2 k pc L st S (j : Nat) 1 = some a := h
  unfold ns_sto2 at h
  match st, h with
  | [], h => cases h
  | v :: t, h =>
    by_cases q : ns_isJ v = true ∧ (j : Nat) + 1 < L.length ∧ ns_ahead L (j : Nat) = true
    · simp only [if_pos q] at h
      cases h
      intro ls H locs hL hJ
      have hn : (j : Nat) + 1 < ns_m k := hL.1 ▸ q.2.1
      cases v with
      | long x => exact lv_lstore_n hx hb hd rfl hL.2 hn rfl (fun ls' hl' => hs.1 ls' H locs (ns_L.set2 hL.1 q.2.2 q.2.1 hl') hJ)
      | _ => cases q.1
    · simp only [if_neg q] at h
      cases h
theorem so_istore {j : Nat} (C0 : ns_C p s m args meth c D cI cJ cT k S0) (hd : decode (ns_c k) pc = .ok (.istore j, 2)) (h : ns_I k pc L st S (.istore j) = some a) (hs : ns_Sim p l e s m args below meth c D cI cJ cT k S0 r a) : ns_G p l e s m args below meth c D cI cJ cT k S0 r pc L st S := by
  obtain ⟨hk, hx, hb, hml, hr, hlk, hni, hown, hts, hK, hE, hsz⟩ := C0
  have h : ns_sto k pc L st S ns_isI j 2 = some a := h
  unfold ns_sto at h
  match st, h with
  | [], h => cases h
  | v :: t, h =>
    by_cases q : ns_isI v = true ∧ j < L.length ∧ ns_ahead L j = true
    · simp only [if_pos q] at h
      cases h
      intro ls H locs hL hJ
      have hn : j < ns_m k := hL.1 ▸ q.2.1
      have hg : ∀ ls', lv_has ls' (ns_m k) ((j, v) :: (ns_lp L).filter (fun q => !(q.1 == j) && !(q.1 + 1 == j && q.2.category == 2))) → _ := fun ls' hl' => hs.1 ls' H locs (ns_L.set hL.1 q.2.2 hl') hJ
      cases v with
      | int x => exact lv_istore hx hb hd hL.2 hn rfl hg
      | _ => cases q.1
    · simp only [if_neg q] at h
      cases h
theorem so_astore {j : Nat} (C0 : ns_C p s m args meth c D cI cJ cT k S0) (hd : decode (ns_c k) pc = .ok (.astore j, 2)) (h : ns_I k pc L st S (.astore j) = some a) (hs : ns_Sim p l e s m args below meth c D cI cJ cT k S0 r a) : ns_G p l e s m args below meth c D cI cJ cT k S0 r pc L st S := by
  obtain ⟨hk, hx, hb, hml, hr, hlk, hni, hown, hts, hK, hE, hsz⟩ := C0
  have h : ns_sto k pc L st S ns_rfok j 2 = some a := h
  unfold ns_sto at h
  match st, h with
  | [], h => cases h
  | v :: t, h =>
    by_cases q : ns_rfok v = true ∧ j < L.length ∧ ns_ahead L j = true
    · simp only [if_pos q] at h
      cases h
      intro ls H locs hL hJ
      have hn : j < ns_m k := hL.1 ▸ q.2.1
      have hg : ∀ ls', lv_has ls' (ns_m k) ((j, v) :: (ns_lp L).filter (fun q => !(q.1 == j) && !(q.1 + 1 == j && q.2.category == 2))) → _ := fun ls' hl' => hs.1 ls' H locs (ns_L.set hL.1 q.2.2 hl') hJ
      cases v with
      | ref x => exact lv_astore hx hb hd hL.2 hn rfl hg
      | null => exact lv_astoreN hx hb hd hL.2 hn rfl hg
      | _ => cases q.1
    · simp only [if_neg q] at h
      cases h
theorem so_lstore {j : Nat} (C0 : ns_C p s m args meth c D cI cJ cT k S0) (hd : decode (ns_c k) pc = .ok (.lstore j, 2)) (h : ns_I k pc L st S (.lstore j) = some a) (hs : ns_Sim p l e s m args below meth c D cI cJ cT k S0 r a) : ns_G p l e s m args below meth c D cI cJ cT k S0 r pc L st S := by
  obtain ⟨hk, hx, hb, hml, hr, hlk, hni, hown, hts, hK, hE, hsz⟩ := C0
  have h : ns_sto2 k pc L st S j 2 = some a := h
  unfold ns_sto2 at h
  match st, h with
  | [], h => cases h
  | v :: t, h =>
    by_cases q : ns_isJ v = true ∧ j + 1 < L.length ∧ ns_ahead L j = true
    · simp only [if_pos q] at h
      cases h
      intro ls H locs hL hJ
      have hn : j + 1 < ns_m k := hL.1 ▸ q.2.1
      cases v with
      | long x => exact lv_lstore hx hb hd hL.2 hn rfl (fun ls' hl' => hs.1 ls' H locs (ns_L.set2 hL.1 q.2.2 q.2.1 hl') hJ)
      | _ => cases q.1
    · simp only [if_neg q] at h
      cases h
theorem so_iinc {j : Nat} {n : Int} (C0 : ns_C p s m args meth c D cI cJ cT k S0) (hd : decode (ns_c k) pc = .ok (.iinc j n, 3)) (h : ns_I k pc L st S (.iinc j n) = some a) (hs : ns_Sim p l e s m args below meth c D cI cJ cT k S0 r a) : ns_G p l e s m args below meth c D cI cJ cT k S0 r pc L st S := by
  obtain ⟨hk, hx, hb, hml, hr, hlk, hni, hown, hts, hK, hE, hsz⟩ := C0
  have h : ns_iinc k pc L st S j n = some a := h
  unfold ns_iinc at h
  cases hv : L.getD j none with
  | none => rw [hv] at h; cases h
  | some v =>
    rw [hv] at h
    cases v with
    | int x =>
      by_cases q : j < L.length ∧ ns_ahead L j = true
      · simp only [if_pos q] at h
        cases h
        intro ls H locs hL hJ
        have hm : (j, Value.int x) ∈ ns_lp L := ns_lp_mem.mpr hv
        obtain ⟨i, hi⟩ := List.getElem?_of_mem hm
        exact lv_iinc hx hb hd hL.2 hi rfl (hL.1 ▸ q.1) rfl (fun ls' hl' => hs.1 ls' H locs (ns_L.set hL.1 q.2 hl') hJ)
      · simp only [if_neg q] at h
        cases h
    | _ => cases h
theorem so_iadd (C0 : ns_C p s m args meth c D cI cJ cT k S0) (hd : decode (ns_c k) pc = .ok (.iadd, 1)) (h : ns_I k pc L st S (.iadd) = some a) (hs : ns_Sim p l e s m args below meth c D cI cJ cT k S0 r a) : ns_G p l e s m args below meth c D cI cJ cT k S0 r pc L st S := by
  obtain ⟨hk, hx, hb, hml, hr, hlk, hni, hown, hts, hK, hE, hsz⟩ := C0
  have h : ns_ii k pc L st S (fun x y => x + y) = some a := h
  unfold ns_ii at h
  split at h
  · cases h
    intro ls H locs hL hJ
    exact lv_iadd hx hb hd (hs.1 ls H locs hL hJ)
  · cases h
theorem so_isub (C0 : ns_C p s m args meth c D cI cJ cT k S0) (hd : decode (ns_c k) pc = .ok (.isub, 1)) (h : ns_I k pc L st S (.isub) = some a) (hs : ns_Sim p l e s m args below meth c D cI cJ cT k S0 r a) : ns_G p l e s m args below meth c D cI cJ cT k S0 r pc L st S := by
  obtain ⟨hk, hx, hb, hml, hr, hlk, hni, hown, hts, hK, hE, hsz⟩ := C0
  have h : ns_ii k pc L st S (fun x y => x - y) = some a := h
  unfold ns_ii at h
  split at h
  · cases h
    intro ls H locs hL hJ
    exact lv_isub hx hb hd (hs.1 ls H locs hL hJ)
  · cases h
theorem so_ladd (C0 : ns_C p s m args meth c D cI cJ cT k S0) (hd : decode (ns_c k) pc = .ok (.ladd, 1)) (h : ns_I k pc L st S (.ladd) = some a) (hs : ns_Sim p l e s m args below meth c D cI cJ cT k S0 r a) : ns_G p l e s m args below meth c D cI cJ cT k S0 r pc L st S := by
  obtain ⟨hk, hx, hb, hml, hr, hlk, hni, hown, hts, hK, hE, hsz⟩ := C0
  have h : ns_jj k pc L st S (fun x y => x + y) = some a := h
  unfold ns_jj at h
  split at h
  · cases h
    intro ls H locs hL hJ
    exact lv_ladd hx hb hd (hs.1 ls H locs hL hJ)
  · cases h
theorem so_lsub (C0 : ns_C p s m args meth c D cI cJ cT k S0) (hd : decode (ns_c k) pc = .ok (.lsub, 1)) (h : ns_I k pc L st S (.lsub) = some a) (hs : ns_Sim p l e s m args below meth c D cI cJ cT k S0 r a) : ns_G p l e s m args below meth c D cI cJ cT k S0 r pc L st S := by
  obtain ⟨hk, hx, hb, hml, hr, hlk, hni, hown, hts, hK, hE, hsz⟩ := C0
  have h : ns_jj k pc L st S (fun x y => x - y) = some a := h
  unfold ns_jj at h
  split at h
  · cases h
    intro ls H locs hL hJ
    exact lv_lsub hx hb hd (hs.1 ls H locs hL hJ)
  · cases h
theorem so_lmul (C0 : ns_C p s m args meth c D cI cJ cT k S0) (hd : decode (ns_c k) pc = .ok (.lmul, 1)) (h : ns_I k pc L st S (.lmul) = some a) (hs : ns_Sim p l e s m args below meth c D cI cJ cT k S0 r a) : ns_G p l e s m args below meth c D cI cJ cT k S0 r pc L st S := by
  obtain ⟨hk, hx, hb, hml, hr, hlk, hni, hown, hts, hK, hE, hsz⟩ := C0
  have h : ns_jj k pc L st S (fun x y => x * y) = some a := h
  unfold ns_jj at h
  split at h
  · cases h
    intro ls H locs hL hJ
    exact lv_lmul hx hb hd (hs.1 ls H locs hL hJ)
  · cases h
theorem so_land (C0 : ns_C p s m args meth c D cI cJ cT k S0) (hd : decode (ns_c k) pc = .ok (.land, 1)) (h : ns_I k pc L st S (.land) = some a) (hs : ns_Sim p l e s m args below meth c D cI cJ cT k S0 r a) : ns_G p l e s m args below meth c D cI cJ cT k S0 r pc L st S := by
  obtain ⟨hk, hx, hb, hml, hr, hlk, hni, hown, hts, hK, hE, hsz⟩ := C0
  have h : ns_jj k pc L st S (fun x y => x &&& y) = some a := h
  unfold ns_jj at h
  split at h
  · cases h
    intro ls H locs hL hJ
    exact lv_land hx hb hd (hs.1 ls H locs hL hJ)
  · cases h
theorem so_lcmp (C0 : ns_C p s m args meth c D cI cJ cT k S0) (hd : decode (ns_c k) pc = .ok (.lcmp, 1)) (h : ns_I k pc L st S (.lcmp) = some a) (hs : ns_Sim p l e s m args below meth c D cI cJ cT k S0 r a) : ns_G p l e s m args below meth c D cI cJ cT k S0 r pc L st S := by
  obtain ⟨hk, hx, hb, hml, hr, hlk, hni, hown, hts, hK, hE, hsz⟩ := C0
  have h : ns_lcmp k pc L st S = some a := h
  unfold ns_lcmp at h
  split at h
  · cases h
    intro ls H locs hL hJ
    exact W.lcmp hx hb hd (hs.1 ls H locs hL hJ)
  · cases h
theorem so_i2l (C0 : ns_C p s m args meth c D cI cJ cT k S0) (hd : decode (ns_c k) pc = .ok (.i2l, 1)) (h : ns_I k pc L st S (.i2l) = some a) (hs : ns_Sim p l e s m args below meth c D cI cJ cT k S0 r a) : ns_G p l e s m args below meth c D cI cJ cT k S0 r pc L st S := by
  obtain ⟨hk, hx, hb, hml, hr, hlk, hni, hown, hts, hK, hE, hsz⟩ := C0
  have h : ns_i2l k pc L st S = some a := h
  unfold ns_i2l at h
  split at h
  · cases h
    intro ls H locs hL hJ
    exact lv_i2l hx hb hd rfl (hs.1 ls H locs hL hJ)
  · cases h
theorem so_l2i (C0 : ns_C p s m args meth c D cI cJ cT k S0) (hd : decode (ns_c k) pc = .ok (.l2i, 1)) (h : ns_I k pc L st S (.l2i) = some a) (hs : ns_Sim p l e s m args below meth c D cI cJ cT k S0 r a) : ns_G p l e s m args below meth c D cI cJ cT k S0 r pc L st S := by
  obtain ⟨hk, hx, hb, hml, hr, hlk, hni, hown, hts, hK, hE, hsz⟩ := C0
  have h : ns_l2i k pc L st S = some a := h
  unfold ns_l2i at h
  split at h
  · cases h
    intro ls H locs hL hJ
    exact lv_l2i hx hb hd rfl (hs.1 ls H locs hL hJ)
  · cases h
theorem so_i2c (C0 : ns_C p s m args meth c D cI cJ cT k S0) (hd : decode (ns_c k) pc = .ok (.i2c, 1)) (h : ns_I k pc L st S (.i2c) = some a) (hs : ns_Sim p l e s m args below meth c D cI cJ cT k S0 r a) : ns_G p l e s m args below meth c D cI cJ cT k S0 r pc L st S := by
  obtain ⟨hk, hx, hb, hml, hr, hlk, hni, hown, hts, hK, hE, hsz⟩ := C0
  have h : ns_i2c k pc L st S = some a := h
  unfold ns_i2c at h
  split at h
  · cases h
    intro ls H locs hL hJ
    exact lv_i2c hx hb hd rfl (hs.1 ls H locs hL hJ)
  · cases h
theorem so_dup (C0 : ns_C p s m args meth c D cI cJ cT k S0) (hd : decode (ns_c k) pc = .ok (.dup, 1)) (h : ns_I k pc L st S (.dup) = some a) (hs : ns_Sim p l e s m args below meth c D cI cJ cT k S0 r a) : ns_G p l e s m args below meth c D cI cJ cT k S0 r pc L st S := by
  obtain ⟨hk, hx, hb, hml, hr, hlk, hni, hown, hts, hK, hE, hsz⟩ := C0
  have h : ns_dup k pc L st S = some a := h
  unfold ns_dup at h
  match st, h with
  | [], h => cases h
  | v :: t, h =>
    by_cases q : v.category = 1
    · simp only [if_pos q] at h
      cases h
      intro ls H locs hL hJ
      exact lv_dup hx hb hd q (hs.1 ls H locs hL hJ)
    · simp only [if_neg q] at h
      cases h
theorem so_pop (C0 : ns_C p s m args meth c D cI cJ cT k S0) (hd : decode (ns_c k) pc = .ok (.pop, 1)) (h : ns_I k pc L st S (.pop) = some a) (hs : ns_Sim p l e s m args below meth c D cI cJ cT k S0 r a) : ns_G p l e s m args below meth c D cI cJ cT k S0 r pc L st S := by
  obtain ⟨hk, hx, hb, hml, hr, hlk, hni, hown, hts, hK, hE, hsz⟩ := C0
  have h : ns_pop k pc L st S = some a := h
  unfold ns_pop at h
  match st, h with
  | [], h => cases h
  | v :: t, h =>
    by_cases q : v.category = 1
    · simp only [if_pos q] at h
      cases h
      intro ls H locs hL hJ
      exact lv_pop hx hb hd q (hs.1 ls H locs hL hJ)
    · simp only [if_neg q] at h
      cases h
theorem so_dup2 (C0 : ns_C p s m args meth c D cI cJ cT k S0) (hd : decode (ns_c k) pc = .ok (.dup2, 1)) (h : ns_I k pc L st S (.dup2) = some a) (hs : ns_Sim p l e s m args below meth c D cI cJ cT k S0 r a) : ns_G p l e s m args below meth c D cI cJ cT k S0 r pc L st S := by
  obtain ⟨hk, hx, hb, hml, hr, hlk, hni, hown, hts, hK, hE, hsz⟩ := C0
  have h : ns_dup2 k pc L st S = some a := h
  unfold ns_dup2 at h
  match st, h with
  | [], h => cases h
  | [_], h => cases h
  | v :: w :: t, h =>
    by_cases q : v.category = 1 ∧ w.category = 1
    · simp only [if_pos q] at h
      cases h
      intro ls H locs hL hJ
      exact lv_dup2_11 hx hb hd q.1 q.2 (hs.1 ls H locs hL hJ)
    · simp only [if_neg q] at h
      cases h
theorem ns_to_ok {off : Int} {t : List Value} (h : ns_to k pc L S off t = some a) (hs : ns_Sim p l e s m args below meth c D cI cJ cT k S0 r a) : ∃ tgt : Nat, (pc : Int) + off = (tgt : Int) ∧ ns_G p l e s m args below meth c D cI cJ cT k S0 r tgt L t S := by
  unfold ns_to at h
  by_cases q : 0 ≤ (pc : Int) + off
  · rw [if_pos q] at h
    cases h
    exact ⟨((pc : Int) + off).toNat, (Int.toNat_of_nonneg q).symm, hs.1⟩
  · rw [if_neg q] at h
    cases h
theorem so_goto {off : Int} (C0 : ns_C p s m args meth c D cI cJ cT k S0) (hd : decode (ns_c k) pc = .ok (.goto off, 3)) (h : ns_I k pc L st S (.goto off) = some a) (hs : ns_Sim p l e s m args below meth c D cI cJ cT k S0 r a) : ns_G p l e s m args below meth c D cI cJ cT k S0 r pc L st S := by
  obtain ⟨hk, hx, hb, hml, hr, hlk, hni, hown, hts, hK, hE, hsz⟩ := C0
  have h : ns_to k pc L S off st = some a := h
  obtain ⟨tgt, ht, hg⟩ := ns_to_ok h hs
  intro ls H locs hL hJ
  exact lv_goto hx hb hd ht (hg ls H locs hL hJ)
theorem so_if_eq {off : Int} (C0 : ns_C p s m args meth c D cI cJ cT k S0) (hd : decode (ns_c k) pc = .ok (.ifCond .eq off, 3)) (h : ns_I k pc L st S (.ifCond .eq off) = some a) (hs : ns_Sim p l e s m args below meth c D cI cJ cT k S0 r a) : ns_G p l e s m args below meth c D cI cJ cT k S0 r pc L st S := by
  obtain ⟨hk, hx, hb, hml, hr, hlk, hni, hown, hts, hK, hE, hsz⟩ := C0
  have h : (if 0 ≤ (pc : Int) + off then ns_if1 k pc L st S .eq off else none) = some a := h
  by_cases hq : 0 ≤ (pc : Int) + off
  · rw [if_pos hq] at h
    have hoff : ∃ tgt : Nat, (pc : Int) + off = (tgt : Int) := ⟨_, (Int.toNat_of_nonneg hq).symm⟩
    unfold ns_if1 at h
    match st, h with
    | .int x :: t, h =>
      have h : (if x = 0 then ns_to k pc L S off t else some (.inl (k, pc + 3, L, t, S))) = some a := h
      by_cases q : x = 0
      · rw [if_pos q] at h
        obtain ⟨tgt, ht, hg⟩ := ns_to_ok h hs
        intro ls H locs hL hJ
        exact lv_if_eq hx hb hd ht (fun _ => hg ls H locs hL hJ) (fun z => absurd q z)
      · rw [if_neg q] at h
        cases h
        intro ls H locs hL hJ
        obtain ⟨tgt, ht⟩ : ∃ tgt : Nat, (pc : Int) + off = (tgt : Int) := hoff
        exact lv_if_eq hx hb hd ht (fun z => absurd z q) (fun _ => hs.1 ls H locs hL hJ)
  · rw [if_neg hq] at h
    cases h
theorem so_if_ne {off : Int} (C0 : ns_C p s m args meth c D cI cJ cT k S0) (hd : decode (ns_c k) pc = .ok (.ifCond .ne off, 3)) (h : ns_I k pc L st S (.ifCond .ne off) = some a) (hs : ns_Sim p l e s m args below meth c D cI cJ cT k S0 r a) : ns_G p l e s m args below meth c D cI cJ cT k S0 r pc L st S := by
  obtain ⟨hk, hx, hb, hml, hr, hlk, hni, hown, hts, hK, hE, hsz⟩ := C0
  have h : (if 0 ≤ (pc : Int) + off then ns_if1 k pc L st S .ne off else none) = some a := h
  by_cases hq : 0 ≤ (pc : Int) + off
  · rw [if_pos hq] at h
    have hoff : ∃ tgt : Nat, (pc : Int) + off = (tgt : Int) := ⟨_, (Int.toNat_of_nonneg hq).symm⟩
    unfold ns_if1 at h
    match st, h with
    | .int x :: t, h =>
      have h : (if x = 0 then some (.inl (k, pc + 3, L, t, S)) else ns_to k pc L S off t) = some a := h
      by_cases q : x = 0
      · rw [if_pos q] at h
        cases h
        intro ls H locs hL hJ
        obtain ⟨tgt, ht⟩ : ∃ tgt : Nat, (pc : Int) + off = (tgt : Int) := hoff
        exact lv_if_ne hx hb hd ht (fun z => absurd q z) (fun _ => hs.1 ls H locs hL hJ)
      · rw [if_neg q] at h
        obtain ⟨tgt, ht, hg⟩ := ns_to_ok h hs
        intro ls H locs hL hJ
        exact lv_if_ne hx hb hd ht (fun _ => hg ls H locs hL hJ) (fun z => absurd z q)
  · rw [if_neg hq] at h
    cases h
theorem so_if_lt {off : Int} (C0 : ns_C p s m args meth c D cI cJ cT k S0) (hd : decode (ns_c k) pc = .ok (.ifCond .lt off, 3)) (h : ns_I k pc L st S (.ifCond .lt off) = some a) (hs : ns_Sim p l e s m args below meth c D cI cJ cT k S0 r a) : ns_G p l e s m args below meth c D cI cJ cT k S0 r pc L st S := by
  obtain ⟨hk, hx, hb, hml, hr, hlk, hni, hown, hts, hK, hE, hsz⟩ := C0
  have h : (if 0 ≤ (pc : Int) + off then ns_if1 k pc L st S .lt off else none) = some a := h
  by_cases hq : 0 ≤ (pc : Int) + off
  · rw [if_pos hq] at h
    have hoff : ∃ tgt : Nat, (pc : Int) + off = (tgt : Int) := ⟨_, (Int.toNat_of_nonneg hq).symm⟩
    unfold ns_if1 at h
    match st, h with
    | .int x :: t, h =>
      have h : (if x < 0 then ns_to k pc L S off t else some (.inl (k, pc + 3, L, t, S))) = some a := h
      by_cases q : x < 0
      · rw [if_pos q] at h
        obtain ⟨tgt, ht, hg⟩ := ns_to_ok h hs
        intro ls H locs hL hJ
        exact lv_if_lt hx hb hd ht (fun _ => hg ls H locs hL hJ) (fun z => absurd q z)
      · rw [if_neg q] at h
        cases h
        intro ls H locs hL hJ
        obtain ⟨tgt, ht⟩ : ∃ tgt : Nat, (pc : Int) + off = (tgt : Int) := hoff
        exact lv_if_lt hx hb hd ht (fun z => absurd z q) (fun _ => hs.1 ls H locs hL hJ)
  · rw [if_neg hq] at h
    cases h
theorem so_if_ge {off : Int} (C0 : ns_C p s m args meth c D cI cJ cT k S0) (hd : decode (ns_c k) pc = .ok (.ifCond .ge off, 3)) (h : ns_I k pc L st S (.ifCond .ge off) = some a) (hs : ns_Sim p l e s m args below meth c D cI cJ cT k S0 r a) : ns_G p l e s m args below meth c D cI cJ cT k S0 r pc L st S := by
  obtain ⟨hk, hx, hb, hml, hr, hlk, hni, hown, hts, hK, hE, hsz⟩ := C0
  have h : (if 0 ≤ (pc : Int) + off then ns_if1 k pc L st S .ge off else none) = some a := h
  by_cases hq : 0 ≤ (pc : Int) + off
  · rw [if_pos hq] at h
    have hoff : ∃ tgt : Nat, (pc : Int) + off = (tgt : Int) := ⟨_, (Int.toNat_of_nonneg hq).symm⟩
    unfold ns_if1 at h
    match st, h with
    | .int x :: t, h =>
      have h : (if 0 ≤ x then ns_to k pc L S off t else some (.inl (k, pc + 3, L, t, S))) = some a := h
      by_cases q : 0 ≤ x
      · rw [if_pos q] at h
        obtain ⟨tgt, ht, hg⟩ := ns_to_ok h hs
        intro ls H locs hL hJ
        exact lv_if_ge hx hb hd ht (fun _ => hg ls H locs hL hJ) (fun z => absurd q z)
      · rw [if_neg q] at h
        cases h
        intro ls H locs hL hJ
        obtain ⟨tgt, ht⟩ : ∃ tgt : Nat, (pc : Int) + off = (tgt : Int) := hoff
        exact lv_if_ge hx hb hd ht (fun z => absurd z q) (fun _ => hs.1 ls H locs hL hJ)
  · rw [if_neg hq] at h
    cases h
theorem so_if_gt {off : Int} (C0 : ns_C p s m args meth c D cI cJ cT k S0) (hd : decode (ns_c k) pc = .ok (.ifCond .gt off, 3)) (h : ns_I k pc L st S (.ifCond .gt off) = some a) (hs : ns_Sim p l e s m args below meth c D cI cJ cT k S0 r a) : ns_G p l e s m args below meth c D cI cJ cT k S0 r pc L st S := by
  obtain ⟨hk, hx, hb, hml, hr, hlk, hni, hown, hts, hK, hE, hsz⟩ := C0
  have h : (if 0 ≤ (pc : Int) + off then ns_if1 k pc L st S .gt off else none) = some a := h
  by_cases hq : 0 ≤ (pc : Int) + off
  · rw [if_pos hq] at h
    have hoff : ∃ tgt : Nat, (pc : Int) + off = (tgt : Int) := ⟨_, (Int.toNat_of_nonneg hq).symm⟩
    unfold ns_if1 at h
    match st, h with
    | .int x :: t, h =>
      have h : (if 0 < x then ns_to k pc L S off t else some (.inl (k, pc + 3, L, t, S))) = some a := h
      by_cases q : 0 < x
      · rw [if_pos q] at h
        obtain ⟨tgt, ht, hg⟩ := ns_to_ok h hs
        intro ls H locs hL hJ
        exact lv_if_gt hx hb hd ht (fun _ => hg ls H locs hL hJ) (fun z => absurd q z)
      · rw [if_neg q] at h
        cases h
        intro ls H locs hL hJ
        obtain ⟨tgt, ht⟩ : ∃ tgt : Nat, (pc : Int) + off = (tgt : Int) := hoff
        exact lv_if_gt hx hb hd ht (fun z => absurd z q) (fun _ => hs.1 ls H locs hL hJ)
  · rw [if_neg hq] at h
    cases h
theorem so_if_le {off : Int} (C0 : ns_C p s m args meth c D cI cJ cT k S0) (hd : decode (ns_c k) pc = .ok (.ifCond .le off, 3)) (h : ns_I k pc L st S (.ifCond .le off) = some a) (hs : ns_Sim p l e s m args below meth c D cI cJ cT k S0 r a) : ns_G p l e s m args below meth c D cI cJ cT k S0 r pc L st S := by
  obtain ⟨hk, hx, hb, hml, hr, hlk, hni, hown, hts, hK, hE, hsz⟩ := C0
  have h : (if 0 ≤ (pc : Int) + off then ns_if1 k pc L st S .le off else none) = some a := h
  by_cases hq : 0 ≤ (pc : Int) + off
  · rw [if_pos hq] at h
    have hoff : ∃ tgt : Nat, (pc : Int) + off = (tgt : Int) := ⟨_, (Int.toNat_of_nonneg hq).symm⟩
    unfold ns_if1 at h
    match st, h with
    | .int x :: t, h =>
      have h : (if x ≤ 0 then ns_to k pc L S off t else some (.inl (k, pc + 3, L, t, S))) = some a := h
      by_cases q : x ≤ 0
      · rw [if_pos q] at h
        obtain ⟨tgt, ht, hg⟩ := ns_to_ok h hs
        intro ls H locs hL hJ
        exact lv_if_le hx hb hd ht (fun _ => hg ls H locs hL hJ) (fun z => absurd q z)
      · rw [if_neg q] at h
        cases h
        intro ls H locs hL hJ
        obtain ⟨tgt, ht⟩ : ∃ tgt : Nat, (pc : Int) + off = (tgt : Int) := hoff
        exact lv_if_le hx hb hd ht (fun z => absurd z q) (fun _ => hs.1 ls H locs hL hJ)
  · rw [if_neg hq] at h
    cases h
theorem so_icmp_eq {off : Int} (C0 : ns_C p s m args meth c D cI cJ cT k S0) (hd : decode (ns_c k) pc = .ok (.if_icmp .eq off, 3)) (h : ns_I k pc L st S (.if_icmp .eq off) = some a) (hs : ns_Sim p l e s m args below meth c D cI cJ cT k S0 r a) : ns_G p l e s m args below meth c D cI cJ cT k S0 r pc L st S := by
  obtain ⟨hk, hx, hb, hml, hr, hlk, hni, hown, hts, hK, hE, hsz⟩ := C0
  have h : (if 0 ≤ (pc : Int) + off then ns_if2 k pc L st S .eq off else none) = some a := h
  by_cases hq : 0 ≤ (pc : Int) + off
  · rw [if_pos hq] at h
    have hoff : ∃ tgt : Nat, (pc : Int) + off = (tgt : Int) := ⟨_, (Int.toNat_of_nonneg hq).symm⟩
    unfold ns_if2 at h
    match st, h with
    | .int y :: .int x :: t, h =>
      have h : (if x = y then ns_to k pc L S off t else some (.inl (k, pc + 3, L, t, S))) = some a := h
      by_cases q : x = y
      · rw [if_pos q] at h
        obtain ⟨tgt, ht, hg⟩ := ns_to_ok h hs
        intro ls H locs hL hJ
        exact lv_icmp_eq hx hb hd ht (fun _ => hg ls H locs hL hJ) (fun z => absurd q z)
      · rw [if_neg q] at h
        cases h
        intro ls H locs hL hJ
        obtain ⟨tgt, ht⟩ : ∃ tgt : Nat, (pc : Int) + off = (tgt : Int) := hoff
        exact lv_icmp_eq hx hb hd ht (fun z => absurd z q) (fun _ => hs.1 ls H locs hL hJ)
  · rw [if_neg hq] at h
    cases h
theorem so_icmp_ne {off : Int} (C0 : ns_C p s m args meth c D cI cJ cT k S0) (hd : decode (ns_c k) pc = .ok (.if_icmp .ne off, 3)) (h : ns_I k pc L st S (.if_icmp .ne off) = some a) (hs : ns_Sim p l e s m args below meth c D cI cJ cT k S0 r a) : ns_G p l e s m args below meth c D cI cJ cT k S0 r pc L st S := by
  obtain ⟨hk, hx, hb, hml, hr, hlk, hni, hown, hts, hK, hE, hsz⟩ := C0
  have h : (if 0 ≤ (pc : Int) + off then ns_if2 k pc L st S .ne off else none) = some a := h
  by_cases hq : 0 ≤ (pc : Int) + off
  · rw [if_pos hq] at h
    have hoff : ∃ tgt : Nat, (pc : Int) + off = (tgt : Int) := ⟨_, (Int.toNat_of_nonneg hq).symm⟩
    unfold ns_if2 at h
    match st, h with
    | .int y :: .int x :: t, h =>
      have h : (if x = y then some (.inl (k, pc + 3, L, t, S)) else ns_to k pc L S off t) = some a := h
      by_cases q : x = y
      · rw [if_pos q] at h
        cases h
        intro ls H locs hL hJ
        obtain ⟨tgt, ht⟩ : ∃ tgt : Nat, (pc : Int) + off = (tgt : Int) := hoff
        exact lv_icmp_ne hx hb hd ht (fun z => absurd q z) (fun _ => hs.1 ls H locs hL hJ)
      · rw [if_neg q] at h
        obtain ⟨tgt, ht, hg⟩ := ns_to_ok h hs
        intro ls H locs hL hJ
        exact lv_icmp_ne hx hb hd ht (fun _ => hg ls H locs hL hJ) (fun z => absurd z q)
  · rw [if_neg hq] at h
    cases h
theorem so_icmp_lt {off : Int} (C0 : ns_C p s m args meth c D cI cJ cT k S0) (hd : decode (ns_c k) pc = .ok (.if_icmp .lt off, 3)) (h : ns_I k pc L st S (.if_icmp .lt off) = some a) (hs : ns_Sim p l e s m args below meth c D cI cJ cT k S0 r a) : ns_G p l e s m args below meth c D cI cJ cT k S0 r pc L st S := by
  obtain ⟨hk, hx, hb, hml, hr, hlk, hni, hown, hts, hK, hE, hsz⟩ := C0
  have h : (if 0 ≤ (pc : Int) + off then ns_if2 k pc L st S .lt off else none) = some a := h
  by_cases hq : 0 ≤ (pc : Int) + off
  · rw [if_pos hq] at h
    have hoff : ∃ tgt : Nat, (pc : Int) + off = (tgt : Int) := ⟨_, (Int.toNat_of_nonneg hq).symm⟩
    unfold ns_if2 at h
    match st, h with
    | .int y :: .int x :: t, h =>
      have h : (if x < y then ns_to k pc L S off t else some (.inl (k, pc + 3, L, t, S))) = some a := h
      by_cases q : x < y
      · rw [if_pos q] at h
        obtain ⟨tgt, ht, hg⟩ := ns_to_ok h hs
        intro ls H locs hL hJ
        exact lv_icmp_lt hx hb hd ht (fun _ => hg ls H locs hL hJ) (fun z => absurd q z)
      · rw [if_neg q] at h
        cases h
        intro ls H locs hL hJ
        obtain ⟨tgt, ht⟩ : ∃ tgt : Nat, (pc : Int) + off = (tgt : Int) := hoff
        exact lv_icmp_lt hx hb hd ht (fun z => absurd z q) (fun _ => hs.1 ls H locs hL hJ)
  · rw [if_neg hq] at h
    cases h
theorem so_icmp_ge {off : Int} (C0 : ns_C p s m args meth c D cI cJ cT k S0) (hd : decode (ns_c k) pc = .ok (.if_icmp .ge off, 3)) (h : ns_I k pc L st S (.if_icmp .ge off) = some a) (hs : ns_Sim p l e s m args below meth c D cI cJ cT k S0 r a) : ns_G p l e s m args below meth c D cI cJ cT k S0 r pc L st S := by
  obtain ⟨hk, hx, hb, hml, hr, hlk, hni, hown, hts, hK, hE, hsz⟩ := C0
  have h : (if 0 ≤ (pc : Int) + off then ns_if2 k pc L st S .ge off else none) = some a := h
  by_cases hq : 0 ≤ (pc : Int) + off
  · rw [if_pos hq] at h
    have hoff : ∃ tgt : Nat, (pc : Int) + off = (tgt : Int) := ⟨_, (Int.toNat_of_nonneg hq).symm⟩
    unfold ns_if2 at h
    match st, h with
    | .int y :: .int x :: t, h =>
      have h : (if y ≤ x then ns_to k pc L S off t else some (.inl (k, pc + 3, L, t, S))) = some a := h
      by_cases q : y ≤ x
      · rw [if_pos q] at h
        obtain ⟨tgt, ht, hg⟩ := ns_to_ok h hs
        intro ls H locs hL hJ
        exact lv_icmp_ge hx hb hd ht (fun _ => hg ls H locs hL hJ) (fun z => absurd q z)
      · rw [if_neg q] at h
        cases h
        intro ls H locs hL hJ
        obtain ⟨tgt, ht⟩ : ∃ tgt : Nat, (pc : Int) + off = (tgt : Int) := hoff
        exact lv_icmp_ge hx hb hd ht (fun z => absurd z q) (fun _ => hs.1 ls H locs hL hJ)
  · rw [if_neg hq] at h
    cases h
theorem so_icmp_gt {off : Int} (C0 : ns_C p s m args meth c D cI cJ cT k S0) (hd : decode (ns_c k) pc = .ok (.if_icmp .gt off, 3)) (h : ns_I k pc L st S (.if_icmp .gt off) = some a) (hs : ns_Sim p l e s m args below meth c D cI cJ cT k S0 r a) : ns_G p l e s m args below meth c D cI cJ cT k S0 r pc L st S := by
  obtain ⟨hk, hx, hb, hml, hr, hlk, hni, hown, hts, hK, hE, hsz⟩ := C0
  have h : (if 0 ≤ (pc : Int) + off then ns_if2 k pc L st S .gt off else none) = some a := h
  by_cases hq : 0 ≤ (pc : Int) + off
  · rw [if_pos hq] at h
    have hoff : ∃ tgt : Nat, (pc : Int) + off = (tgt : Int) := ⟨_, (Int.toNat_of_nonneg hq).symm⟩
    unfold ns_if2 at h
    match st, h with
    | .int y :: .int x :: t, h =>
      have h : (if y < x then ns_to k pc L S off t else some (.inl (k, pc + 3, L, t, S))) = some a := h
      by_cases q : y < x
      · rw [if_pos q] at h
        obtain ⟨tgt, ht, hg⟩ := ns_to_ok h hs
        intro ls H locs hL hJ
        exact lv_icmp_gt hx hb hd ht (fun _ => hg ls H locs hL hJ) (fun z => absurd q z)
      · rw [if_neg q] at h
        cases h
        intro ls H locs hL hJ
        obtain ⟨tgt, ht⟩ : ∃ tgt : Nat, (pc : Int) + off = (tgt : Int) := hoff
        exact lv_icmp_gt hx hb hd ht (fun z => absurd z q) (fun _ => hs.1 ls H locs hL hJ)
  · rw [if_neg hq] at h
    cases h
theorem so_icmp_le {off : Int} (C0 : ns_C p s m args meth c D cI cJ cT k S0) (hd : decode (ns_c k) pc = .ok (.if_icmp .le off, 3)) (h : ns_I k pc L st S (.if_icmp .le off) = some a) (hs : ns_Sim p l e s m args below meth c D cI cJ cT k S0 r a) : ns_G p l e s m args below meth c D cI cJ cT k S0 r pc L st S := by
  obtain ⟨hk, hx, hb, hml, hr, hlk, hni, hown, hts, hK, hE, hsz⟩ := C0
  have h : (if 0 ≤ (pc : Int) + off then ns_if2 k pc L st S .le off else none) = some a := h
  by_cases hq : 0 ≤ (pc : Int) + off
  · rw [if_pos hq] at h
    have hoff : ∃ tgt : Nat, (pc : Int) + off = (tgt : Int) := ⟨_, (Int.toNat_of_nonneg hq).symm⟩
    unfold ns_if2 at h
    match st, h with
    | .int y :: .int x :: t, h =>
      have h : (if x ≤ y then ns_to k pc L S off t else some (.inl (k, pc + 3, L, t, S))) = some a := h
      by_cases q : x ≤ y
      · rw [if_pos q] at h
        obtain ⟨tgt, ht, hg⟩ := ns_to_ok h hs
        intro ls H locs hL hJ
        exact lv_icmp_le hx hb hd ht (fun _ => hg ls H locs hL hJ) (fun z => absurd q z)
      · rw [if_neg q] at h
        cases h
        intro ls H locs hL hJ
        obtain ⟨tgt, ht⟩ : ∃ tgt : Nat, (pc : Int) + off = (tgt : Int) := hoff
        exact lv_icmp_le hx hb hd ht (fun z => absurd z q) (fun _ => hs.1 ls H locs hL hJ)
  · rw [if_neg hq] at h
    cases h
end NSS
end
section
/-! ===== the machine's steps are the JVM's: references, fields, rows ===== -/
section NSS
variable {p : Program} {l : Launch} {e : Env} {s : State} {m : MethodId} {args : Array Value} {below : List Frame} {meth : Method} {c : Code} {D : va_G} {cI cJ cT : ClassId} {k : Nat} {S0 : ns_St} {r : ns_Rs} {pc : Nat} {L : List (Option Value)} {st : List Value} {S : ns_St} {a : ns_Act}
theorem ns_rf_of {v : Value} (h : ns_rfok v = true) : v = va_rf (ns_rfo v) := by
  cases v <;> first | rfl | cases h
theorem ns_to_ok2 {off : Int} {t : List Value} (h : ns_to k pc L S off t = some a) (hs : ns_Sim p l e s m args below meth c D cI cJ cT k S0 r a) : ∃ tgt : Nat, (pc : Int) + off = (tgt : Int) ∧ ns_G p l e s m args below meth c D cI cJ cT k S0 r tgt L t S := ns_to_ok h hs
theorem so_ifnull {off : Int} (C0 : ns_C p s m args meth c D cI cJ cT k S0) (hd : decode (ns_c k) pc = .ok (.ifnull off, 3)) (h : ns_I k pc L st S (.ifnull off) = some a) (hs : ns_Sim p l e s m args below meth c D cI cJ cT k S0 r a) : ns_G p l e s m args below meth c D cI cJ cT k S0 r pc L st S := by
  obtain ⟨hk, hx, hb, hml, hr, hlk, hni, hown, hts, hK, hE, hsz⟩ := C0
  have h : (if 0 ≤ (pc : Int) + off then ns_nul k pc L st S true off else none) = some a := h
  by_cases hq : 0 ≤ (pc : Int) + off
  · rw [if_pos hq] at h
    unfold ns_nul at h
    match st, h with
    | [], h => cases h
    | v :: t, h =>
      cases v with
      | ref x =>
        have h : some (.inl (k, pc + 3, L, t, S)) = some a := h
        cases h
        intro ls H locs hL hJ
        exact lv_ifnull hx hb hd (hs.1 ls H locs hL hJ)
      | null =>
        have h : ns_to k pc L S off t = some a := h
        obtain ⟨tgt, ht, hg⟩ := ns_to_ok h hs
        intro ls H locs hL hJ
        exact lv_ifnullN hx hb hd ht (hg ls H locs hL hJ)
      | _ => cases h
  · rw [if_neg hq] at h
    cases h
theorem so_ifnonnull {off : Int} (C0 : ns_C p s m args meth c D cI cJ cT k S0) (hd : decode (ns_c k) pc = .ok (.ifnonnull off, 3)) (h : ns_I k pc L st S (.ifnonnull off) = some a) (hs : ns_Sim p l e s m args below meth c D cI cJ cT k S0 r a) : ns_G p l e s m args below meth c D cI cJ cT k S0 r pc L st S := by
  obtain ⟨hk, hx, hb, hml, hr, hlk, hni, hown, hts, hK, hE, hsz⟩ := C0
  have h : (if 0 ≤ (pc : Int) + off then ns_nul k pc L st S false off else none) = some a := h
  by_cases hq : 0 ≤ (pc : Int) + off
  · rw [if_pos hq] at h
    unfold ns_nul at h
    match st, h with
    | [], h => cases h
    | v :: t, h =>
      cases v with
      | ref x =>
        have h : ns_to k pc L S off t = some a := h
        obtain ⟨tgt, ht, hg⟩ := ns_to_ok h hs
        intro ls H locs hL hJ
        exact lv_ifnonnull hx hb hd ht (hg ls H locs hL hJ)
      | null =>
        have h : some (.inl (k, pc + 3, L, t, S)) = some a := h
        cases h
        intro ls H locs hL hJ
        exact lv_ifnonnullN hx hb hd (hs.1 ls H locs hL hJ)
      | _ => cases h
  · rw [if_neg hq] at h
    cases h
theorem so_acmp_eq {off : Int} (C0 : ns_C p s m args meth c D cI cJ cT k S0) (hd : decode (ns_c k) pc = .ok (.if_acmp .eq off, 3)) (h : ns_I k pc L st S (.if_acmp .eq off) = some a) (hs : ns_Sim p l e s m args below meth c D cI cJ cT k S0 r a) : ns_G p l e s m args below meth c D cI cJ cT k S0 r pc L st S := by
  obtain ⟨hk, hx, hb, hml, hr, hlk, hni, hown, hts, hK, hE, hsz⟩ := C0
  have h : (if 0 ≤ (pc : Int) + off then ns_acmp k pc L st S .eq off else none) = some a := h
  by_cases hq : 0 ≤ (pc : Int) + off
  · rw [if_pos hq] at h
    have hoff : ∃ tgt : Nat, (pc : Int) + off = (tgt : Int) := ⟨_, (Int.toNat_of_nonneg hq).symm⟩
    unfold ns_acmp at h
    match st, h with
    | [], h => cases h
    | [_], h => cases h
    | w :: v :: t, h =>
      by_cases q : ns_rfok v = true ∧ ns_rfok w = true
      · have h : (if ns_rfok v = true ∧ ns_rfok w = true then (if ns_rfo v = ns_rfo w then ns_to k pc L S off t else some (.inl (k, pc + 3, L, t, S))) else none) = some a := h
        rw [if_pos q] at h
        rw [ns_rf_of q.1, ns_rf_of q.2]
        by_cases u : ns_rfo v = ns_rfo w
        · rw [if_pos u] at h
          obtain ⟨tgt, ht, hg⟩ := ns_to_ok h hs
          intro ls H locs hL hJ
          exact lv_acmp_eq hx hb hd ht (fun _ => hg ls H locs hL hJ) (fun z => absurd u z)
        · rw [if_neg u] at h
          cases h
          intro ls H locs hL hJ
          exact lv_acmp_eq hx hb hd hoff.choose_spec (fun z => absurd z u) (fun _ => hs.1 ls H locs hL hJ)
      · have h : (if ns_rfok v = true ∧ ns_rfok w = true then (if ns_rfo v = ns_rfo w then ns_to k pc L S off t else some (.inl (k, pc + 3, L, t, S))) else none) = some a := h
        rw [if_neg q] at h
        cases h
  · rw [if_neg hq] at h
    cases h
theorem so_acmp_ne {off : Int} (C0 : ns_C p s m args meth c D cI cJ cT k S0) (hd : decode (ns_c k) pc = .ok (.if_acmp .ne off, 3)) (h : ns_I k pc L st S (.if_acmp .ne off) = some a) (hs : ns_Sim p l e s m args below meth c D cI cJ cT k S0 r a) : ns_G p l e s m args below meth c D cI cJ cT k S0 r pc L st S := by
  obtain ⟨hk, hx, hb, hml, hr, hlk, hni, hown, hts, hK, hE, hsz⟩ := C0
  have h : (if 0 ≤ (pc : Int) + off then ns_acmp k pc L st S .ne off else none) = some a := h
  by_cases hq : 0 ≤ (pc : Int) + off
  · rw [if_pos hq] at h
    have hoff : ∃ tgt : Nat, (pc : Int) + off = (tgt : Int) := ⟨_, (Int.toNat_of_nonneg hq).symm⟩
    unfold ns_acmp at h
    match st, h with
    | [], h => cases h
    | [_], h => cases h
    | w :: v :: t, h =>
      by_cases q : ns_rfok v = true ∧ ns_rfok w = true
      · have h : (if ns_rfok v = true ∧ ns_rfok w = true then (if ns_rfo v = ns_rfo w then some (.inl (k, pc + 3, L, t, S)) else ns_to k pc L S off t) else none) = some a := h
        rw [if_pos q] at h
        rw [ns_rf_of q.1, ns_rf_of q.2]
        by_cases u : ns_rfo v = ns_rfo w
        · rw [if_pos u] at h
          cases h
          intro ls H locs hL hJ
          exact lv_acmp_ne hx hb hd hoff.choose_spec (fun z => absurd u z) (fun _ => hs.1 ls H locs hL hJ)
        · rw [if_neg u] at h
          obtain ⟨tgt, ht, hg⟩ := ns_to_ok h hs
          intro ls H locs hL hJ
          exact lv_acmp_ne hx hb hd ht (fun _ => hg ls H locs hL hJ) (fun z => absurd z u)
      · have h : (if ns_rfok v = true ∧ ns_rfok w = true then (if ns_rfo v = ns_rfo w then some (.inl (k, pc + 3, L, t, S)) else ns_to k pc L S off t) else none) = some a := h
        rw [if_neg q] at h
        cases h
  · rw [if_neg hq] at h
    cases h
theorem so_switch {n : Nat} {d lo hi : Int} {offs : Array Int} (C0 : ns_C p s m args meth c D cI cJ cT k S0) (hd : decode (ns_c k) pc = .ok (.tableswitch d lo hi offs, n)) (h : ns_I k pc L st S (.tableswitch d lo hi offs) = some a) (hs : ns_Sim p l e s m args below meth c D cI cJ cT k S0 r a) : ns_G p l e s m args below meth c D cI cJ cT k S0 r pc L st S := by
  obtain ⟨hk, hx, hb, hml, hr, hlk, hni, hown, hts, hK, hE, hsz⟩ := C0
  have h : ns_sw k pc L st S d lo hi offs = some a := h
  unfold ns_sw at h
  match st, h with
  | .int x :: t, h =>
    have h : (if x.toInt < lo ∨ hi < x.toInt then ns_to k pc L S d t else match offs[(x.toInt - lo).toNat]? with
      | some off => ns_to k pc L S off t
      | none => none) = some a := h
    by_cases q : x.toInt < lo ∨ hi < x.toInt
    · rw [if_pos q] at h
      obtain ⟨tgt, ht, hg⟩ := ns_to_ok h hs
      intro ls H locs hL hJ
      exact lv_tableOut hx hb hd q ht (hg ls H locs hL hJ)
    · rw [if_neg q] at h
      split at h
      · rename_i off ho
        obtain ⟨tgt, ht, hg⟩ := ns_to_ok h hs
        intro ls H locs hL hJ
        exact lv_tableIn hx hb hd (fun z => q (Or.inl z)) (fun z => q (Or.inr z)) ho ht (hg ls H locs hL hJ)
      · cases h
theorem so_get {j : Nat} (C0 : ns_C p s m args meth c D cI cJ cT k S0) (hd : decode (ns_c k) pc = .ok (.getfield j, 3)) (h : ns_I k pc L st S (.getfield j) = some a) (hs : ns_Sim p l e s m args below meth c D cI cJ cT k S0 r a) : ns_G p l e s m args below meth c D cI cJ cT k S0 r pc L st S := by
  obtain ⟨hk, hx, hb, hml, hr, hlk, hni, hown, hts, hK, hE, hsz⟩ := C0
  have h : ns_get k pc L st S j = some a := h
  unfold ns_get at h
  match st, h with
  | .ref b :: t, h =>
    have h : (match ns_lk (ns_o k) j ns_ft with
      | some (ci, f) => if ns_k S b = ci + 1 then some (.inl (k, pc + 3, L, ns_fv S ci f b :: t, S)) else none
      | none => none) = some a := h
    split at h
    · rename_i ci f hl
      obtain ⟨w1, w2, w3⟩ := ns_ft_ok _ (ns_lk_mem hl)
      by_cases q : ns_k S b = ci + 1
      · rw [if_pos q] at h
        cases h
        intro ls H locs hL hJ
        obtain ⟨i, hi⟩ := ns_at (cI := cI) (cJ := cJ) (cT := cT) (S := S) (a := b) (by omega)
        rw [ns_ce_O q w3] at hi
        exact va_get (D := D) (ci := ci) (C := ns_R ci) (T := ns_T ci) (N := ns_N ci) hx hb hts (ns_ws ci w3) hown hK hJ.2.1 i hi (ns_vw_ok ci w3) f w2 (hts _ w1) (fun _ z => z) (ns_fl_at S ci b w2) hd (hs.1 ls H locs hL hJ)
      · rw [if_neg q] at h
        cases h
    · cases h
def ns_isRt (t : FieldType) : Bool := match t with
  | .object _ => true
  | .array _ => true
  | _ => false
theorem ns_ref_ok : ∀ ci, ci < 5 → ∀ f, f < ns_N ci → ns_fk (ns_ty ci f) = 3 → ns_isRt (ns_ty ci f) = true := by decide +kernel
theorem ns_wr {H H1 : Heap} {locs : List Loc} {S' : ns_St} {b j : Nat} {x : va_E} (hJ : ns_J s D cI cJ cT S0 S H locs) (hb : ns_k S b ≠ 0) (he : va_at D vwCl (b, x) H1) (z : H1.size = H.size) (oq : ∀ q : Nat, q ≠ b → H1[q]? = H[q]?) (hz : ns_z S' = ns_z S) (hsn : ns_s S' = ns_s S) (hk : ∀ q, ns_k S' q = ns_k S q) (hc : ∀ q, va_up (ns_ce cI cJ cT S) b x q = ns_ce cI cJ cT S' q) : ns_J s D cI cJ cT S0 S' H1 (locs ++ [⟨b, j⟩]) := by
  obtain ⟨h1, h2, h3, h4, h5, h6⟩ := hJ
  obtain ⟨i, hi⟩ := ns_at (cI := cI) (cJ := cJ) (cT := cT) hb
  have hD : va_D (ns_A S0) (ns_pool cI cJ cT S) := ns_D h3
  have hd : ns_dom S' = ns_dom S := by
    unfold ns_dom
    rw [hz]
    exact List.filter_congr (fun q _ => by rw [hk])
  have hP := h2.set hD hi he oq
  rw [ns_pool_set hD hb hi hd hc] at hP
  exact ⟨by rw [z, hz]; exact h1, hP, fun q hq => h3 q (by rw [← hk]; exact hq), h4.put z oq (h3 b hb), by rw [hz]; exact h5, by rw [hsn]; exact h6⟩
theorem ns_putv_ok {ci f b : Nat} {v : Value} {S' : ns_St} (h : ns_putv S ci f b v = some S') (hc : ci < 5) (hf : f < ns_N ci) (hk : ns_k S b = ci + 1) : (narrow (ns_ty ci f) v = v ∧ fits (ns_ty ci f) v = true) ∧ ns_z S' = ns_z S ∧ ns_s S' = ns_s S ∧ (∀ q, ns_k S' q = ns_k S q) ∧ ∀ q, va_up (ns_ce cI cJ cT S) b (.inr (ci, (ns_fl S ci b).set f v)) q = ns_ce cI cJ cT S' q := by
  have fin : ∀ S' : ns_St, (∀ q, ns_k S' q = ns_k S q) → (∀ q, ns_n S' q = ns_n S q) → (aI S' = aI S) → (aJ S' = aJ S) → (aR S' = aR S) → (∀ i q, q ≠ b → fI S' i q = fI S i q) → (∀ i q, q ≠ b → fJ S' i q = fJ S i q) → (∀ i q, q ≠ b → fR S' i q = fR S i q) → ns_fv S' ci f b = v → (∀ i, i ≠ f → ns_fv S' ci i b = ns_fv S ci i b) → ∀ q, va_up (ns_ce cI cJ cT S) b (.inr (ci, (ns_fl S ci b).set f v)) q = ns_ce cI cJ cT S' q := by
    intro S' e1 e2 e3 e4 e5 e6 e7 e8 e9 e10 q
    by_cases g : q = b
    · subst g
      rw [va_up_self, ns_ce_O (S := S') (by rw [e1]; exact hk) hc, ns_fl_set hf e9 e10]
    · rw [va_up_ne _ _ g]
      exact ns_ce_congr (e1 q) (e2 q) (fun i => e6 i q g) (fun i => e7 i q g) (fun i => e8 i q g) (by rw [e3]) (by rw [e4]) (by rw [e5])
  unfold ns_putv at h
  split at h
  · rename_i x hkd
    cases h
    have ht : ns_ty ci f = .int := by
      revert hkd
      cases ns_ty ci f <;> simp [ns_fk]
    refine ⟨by rw [ht]; exact ⟨rfl, rfl⟩, rfl, rfl, fun _ => rfl, fin _ (fun _ => rfl) (fun _ => rfl) rfl rfl rfl (fun i q g => ?_) (fun _ _ _ => rfl) (fun _ _ _ => rfl) ?_ (fun i g => ?_)⟩
    · rw [pI_fI, if_neg (fun z => g z.2)]
    · unfold ns_fv
      rw [hkd]
      simp [pI_fI]
    · unfold ns_fv
      rw [pI_fI, if_neg (fun z => g (by omega))]
      rfl
  · rename_i x hkd
    by_cases hx : x = 0 ∨ x = 1
    · rw [if_pos hx] at h
      cases h
      have ht : ns_ty ci f = .boolean := by
        revert hkd
        cases ns_ty ci f <;> simp [ns_fk]
      refine ⟨by rw [ht]; rcases hx with rfl | rfl <;> exact ⟨rfl, rfl⟩, rfl, rfl, fun _ => rfl, fin _ (fun _ => rfl) (fun _ => rfl) rfl rfl rfl (fun i q g => ?_) (fun _ _ _ => rfl) (fun _ _ _ => rfl) ?_ (fun i g => ?_)⟩
      · rw [pI_fI, if_neg (fun z => g z.2)]
      · unfold ns_fv
        rw [hkd]
        simp [pI_fI]
      · unfold ns_fv
        rw [pI_fI, if_neg (fun z => g (by omega))]
        rfl
    · rw [if_neg hx] at h
      cases h
  · rename_i x hkd
    cases h
    have ht : ns_ty ci f = .long := by
      revert hkd
      cases ns_ty ci f <;> simp [ns_fk]
    refine ⟨by rw [ht]; exact ⟨rfl, rfl⟩, rfl, rfl, fun _ => rfl, fin _ (fun _ => rfl) (fun _ => rfl) rfl rfl rfl (fun _ _ _ => rfl) (fun i q g => ?_) (fun _ _ _ => rfl) ?_ (fun i g => ?_)⟩
    · rw [pJ_fJ, if_neg (fun z => g z.2)]
    · unfold ns_fv
      rw [hkd]
      simp [pJ_fJ]
    · unfold ns_fv
      rw [pJ_fJ, if_neg (fun z => g (by omega))]
      rfl
  · rename_i v _ w hkd
    by_cases hx : ns_rfok v = true
    · rw [if_pos hx] at h
      cases h
      have ht := ns_ref_ok ci hc f hf hkd
      refine ⟨?_, rfl, rfl, fun _ => rfl, fin _ (fun _ => rfl) (fun _ => rfl) rfl rfl rfl (fun _ _ _ => rfl) (fun _ _ _ => rfl) (fun i q g => ?_) ?_ (fun i g => ?_)⟩
      · revert ht
        cases ns_ty ci f <;> intro ht <;> first | exact absurd ht (by decide) | (cases v <;> first | exact ⟨rfl, rfl⟩ | cases hx)
      · rw [pR_fR, if_neg (fun z => g z.2)]
      · unfold ns_fv
        rw [hkd]
        simp only [pR_fR, and_self, if_true]
        exact (ns_rf_of hx).symm
      · unfold ns_fv
        rw [pR_fR, if_neg (fun z => g (by omega))]
        rfl
    · rw [if_neg hx] at h
      cases h
  · cases h
theorem so_put {j : Nat} (C0 : ns_C p s m args meth c D cI cJ cT k S0) (hd : decode (ns_c k) pc = .ok (.putfield j, 3)) (h : ns_I k pc L st S (.putfield j) = some a) (hs : ns_Sim p l e s m args below meth c D cI cJ cT k S0 r a) : ns_G p l e s m args below meth c D cI cJ cT k S0 r pc L st S := by
  obtain ⟨hk, hx, hb, hml, hr, hlk, hni, hown, hts, hK, hE, hsz⟩ := C0
  have h : ns_put k pc L st S j = some a := h
  unfold ns_put at h
  match st, h with
  | v :: .ref b :: t, h =>
    have h : (match ns_lk (ns_o k) j ns_ft with
      | some (ci, f) => if ns_k S b = ci + 1 ∧ ((ns_T ci f).2.2.2 = false ∨ (ns_ini k = true ∧ ci = ns_o k)) then (match ns_putv S ci f b v with
        | some S' => some (.inl (k, pc + 3, L, t, S'))
        | none => none) else none
      | none => none) = some a := h
    split at h
    · rename_i ci f hl
      obtain ⟨w1, w2, w3⟩ := ns_ft_ok _ (ns_lk_mem hl)
      by_cases q : ns_k S b = ci + 1 ∧ ((ns_T ci f).2.2.2 = false ∨ (ns_ini k = true ∧ ci = ns_o k))
      · rw [if_pos q] at h
        split at h
        · rename_i S' hv
          cases h
          obtain ⟨⟨n1, n2⟩, z1, z2, z3, z4⟩ := ns_putv_ok (cI := cI) (cJ := cJ) (cT := cT) hv w3 w2 q.1
          intro ls H locs hL hJ
          have hb0 : ns_k S b ≠ 0 := by omega
          obtain ⟨i, hi⟩ := ns_at (cI := cI) (cJ := cJ) (cT := cT) hb0
          rw [ns_ce_O q.1 w3] at hi
          have hap := va_apart (own := ns_R (ns_o k)) hts (ns_ws ci w3) (ns_ty ci) (ns_ty_ok ci w3) (ns_nm_ok ci w3) hK (ns_vw_ok ci w3)
          obtain ⟨rr, h1, cell, q1, q2, q3, q4⟩ := hJ.2.1 i _ hi
          have hrr : rr = (ns_R ci, ns_T ci, ns_N ci) := Option.some.inj (h1.symm.trans (ns_vw_ok ci w3))
          subst hrr
          obtain ⟨hSl, hfc, kC, hkC, hkind⟩ := hK.1 ci _ (ns_vw_ok ci w3)
          obtain ⟨cf, kf, fi, ff, hfi, hsl⟩ := hSl f w2
          have hlay := hts _ (ns_ws ci w3 _ (u_in_lay w2))
          unfold u_lay at hlay
          have hst := (u_facts hfc hkC (u_lays hts (ns_ws ci w3) w2) hfi).1
          have hl' : f < (ns_fl S ci b).length := by rw [ns_fl_len]; exact w2
          have hdd : parseFieldDescriptor (ns_T ci f).2.2.1 = some (ns_ty ci f) := ns_ty_ok ci w3 f w2
          rcases q.2 with hfin | ⟨hin, hci⟩
          · rw [if_neg (by rw [hfin]; decide)] at hlay
            have h6 := u_store hfc hkC hkind hlay hfi hdd n1 n2
            refine W.putK hx hb (f := ff) ⟨hown, hts _ w1, ⟨_, _, _, hfi⟩, hst⟩ (by rw [q2]; exact h6) q1 q3 (by rw [hsl]; exact k2_hasslot (q4 f w2)) rfl rfl hd fun H' e1 e2 e3 => ?_
            rw [hsl] at e1 ⊢
            have hg := hs.1 ls H' _ hL (ns_wr (j := D.2 ci f) (x := .inr (ci, (ns_fl S ci b).set f v)) hJ hb0 ⟨_, ns_vw_ok ci w3, t_OB.to (V := updV (vp_V (ns_fl S ci b)) f v) ⟨_, e1, q2, q3, t_set q4 hap w2 v⟩ (fun j _ => vp_updV_set hl' v j)⟩ e2 e3 z1 z2 z3 z4)
            dsimp only at hg
            rw [z1, z2] at hg
            exact hg
          · by_cases hff : (ns_T ci f).2.2.2 = true
            · rw [if_pos hff] at hlay
              have hcf : m.cls = cf := by
                obtain ⟨_, _, c', _, _, _, -, -, hf', -, -, -, hown2, -⟩ := Cond.laysFinal_spec hlay
                have e1 : c' = cf := by have := hfi.symm.trans hf'; simp at this; exact this.1.symm
                rw [ns_own_ok ci w3 f w2, hci] at hown2
                rw [← e1]; exact Option.some.inj (hown.symm.trans hown2)
              have h6 := u_fits hfc hkC hkind (Or.inr hlay) hfi hdd n1 n2
              refine W.putFinK hx hb hown (hts _ w1) hfi hst hcf (hni hin) (by rw [q2]; exact h6) q1 q3 (by rw [hsl]; exact k2_hasslot (q4 f w2)) rfl rfl hd fun H' e1 e2 e3 => ?_
              rw [hsl] at e1 ⊢
              have hg := hs.1 ls H' _ hL (ns_wr (j := D.2 ci f) (x := .inr (ci, (ns_fl S ci b).set f v)) hJ hb0 ⟨_, ns_vw_ok ci w3, t_OB.to (V := updV (vp_V (ns_fl S ci b)) f v) ⟨_, e1, q2, q3, t_set q4 hap w2 v⟩ (fun j _ => vp_updV_set hl' v j)⟩ e2 e3 z1 z2 z3 z4)
              dsimp only at hg
              rw [z1, z2] at hg
              exact hg
            · rw [if_neg hff] at hlay
              have h6 := u_store hfc hkC hkind hlay hfi hdd n1 n2
              refine W.putK hx hb (f := ff) ⟨hown, hts _ w1, ⟨_, _, _, hfi⟩, hst⟩ (by rw [q2]; exact h6) q1 q3 (by rw [hsl]; exact k2_hasslot (q4 f w2)) rfl rfl hd fun H' e1 e2 e3 => ?_
              rw [hsl] at e1 ⊢
              have hg := hs.1 ls H' _ hL (ns_wr (j := D.2 ci f) (x := .inr (ci, (ns_fl S ci b).set f v)) hJ hb0 ⟨_, ns_vw_ok ci w3, t_OB.to (V := updV (vp_V (ns_fl S ci b)) f v) ⟨_, e1, q2, q3, t_set q4 hap w2 v⟩ (fun j _ => vp_updV_set hl' v j)⟩ e2 e3 z1 z2 z3 z4)
              dsimp only at hg
              rw [z1, z2] at hg
              exact hg
        · cases h
      · rw [if_neg q] at h
        cases h
    · cases h
end NSS
end
section
/-! ===== the machine's steps are the JVM's: rows of numbers and things, what is made, returns ===== -/
section NSS
variable {p : Program} {l : Launch} {e : Env} {s : State} {m : MethodId} {args : Array Value} {below : List Frame} {meth : Method} {c : Code} {D : va_G} {cI cJ cT : ClassId} {k : Nat} {S0 : ns_St} {r : ns_Rs} {pc : Nat} {L : List (Option Value)} {st : List Value} {S : ns_St} {a : ns_Act}
theorem ns_ce_I {b : Nat} (h : ns_k S b = 6) : ns_ce cI cJ cT S b = .inl (cI, ns_n S b, .inl (aI S b)) := by
  unfold ns_ce
  rw [h]
  rfl
theorem so_ldI (C0 : ns_C p s m args meth c D cI cJ cT k S0) (hd : decode (ns_c k) pc = .ok (.iaload, 1)) (h : ns_I k pc L st S (.iaload) = some a) (hs : ns_Sim p l e s m args below meth c D cI cJ cT k S0 r a) : ns_G p l e s m args below meth c D cI cJ cT k S0 r pc L st S := by
  obtain ⟨hk, hx, hb, hml, hr, hlk, hni, hown, hts, hK, hE, hsz⟩ := C0
  have h : ns_ldI k pc L st S = some a := h
  unfold ns_ldI at h
  match st, h with
  | .int i :: .ref b :: t, h =>
    have h : (if ns_k S b = 6 ∧ ns_in i (ns_n S b) then some (.inl (k, pc + 1, L, .int (aI S b i.toNatClampNeg) :: t, S)) else none) = some a := h
    by_cases q : ns_k S b = 6 ∧ ns_in i (ns_n S b)
    · rw [if_pos q] at h
      cases h
      intro ls H locs hL hJ
      obtain ⟨x, hx1⟩ := ns_at (cI := cI) (cJ := cJ) (cT := cT) (S := S) (a := b) (by omega)
      rw [ns_ce_I q.1] at hx1
      exact va_iald hx hb hK hJ.2.1 x 0 hx1 rfl (ns_in_vp q.2) hd (hs.1 ls H locs hL hJ)
    · rw [if_neg q] at h
      cases h
theorem ns_ce_J {b : Nat} (h : ns_k S b = 7) : ns_ce cI cJ cT S b = .inl (cJ, ns_n S b, .inr (.inl (aJ S b))) := by
  unfold ns_ce
  rw [h]
  rfl
theorem so_ldJ (C0 : ns_C p s m args meth c D cI cJ cT k S0) (hd : decode (ns_c k) pc = .ok (.laload, 1)) (h : ns_I k pc L st S (.laload) = some a) (hs : ns_Sim p l e s m args below meth c D cI cJ cT k S0 r a) : ns_G p l e s m args below meth c D cI cJ cT k S0 r pc L st S := by
  obtain ⟨hk, hx, hb, hml, hr, hlk, hni, hown, hts, hK, hE, hsz⟩ := C0
  have h : ns_ldJ k pc L st S = some a := h
  unfold ns_ldJ at h
  match st, h with
  | .int i :: .ref b :: t, h =>
    have h : (if ns_k S b = 7 ∧ ns_in i (ns_n S b) then some (.inl (k, pc + 1, L, .long (aJ S b i.toNatClampNeg) :: t, S)) else none) = some a := h
    by_cases q : ns_k S b = 7 ∧ ns_in i (ns_n S b)
    · rw [if_pos q] at h
      cases h
      intro ls H locs hL hJ
      obtain ⟨x, hx1⟩ := ns_at (cI := cI) (cJ := cJ) (cT := cT) (S := S) (a := b) (by omega)
      rw [ns_ce_J q.1] at hx1
      exact va_lald hx hb hK hJ.2.1 x 1 hx1 rfl (ns_in_vp q.2) hd (hs.1 ls H locs hL hJ)
    · rw [if_neg q] at h
      cases h
theorem ns_ce_R {b : Nat} (h : ns_k S b = 8) : ns_ce cI cJ cT S b = .inl (cT, ns_n S b, .inr (.inr (.inr (.inr (aR S b))))) := by
  unfold ns_ce
  rw [h]
  rfl
theorem so_ldR (C0 : ns_C p s m args meth c D cI cJ cT k S0) (hd : decode (ns_c k) pc = .ok (.aaload, 1)) (h : ns_I k pc L st S (.aaload) = some a) (hs : ns_Sim p l e s m args below meth c D cI cJ cT k S0 r a) : ns_G p l e s m args below meth c D cI cJ cT k S0 r pc L st S := by
  obtain ⟨hk, hx, hb, hml, hr, hlk, hni, hown, hts, hK, hE, hsz⟩ := C0
  have h : ns_ldR k pc L st S = some a := h
  unfold ns_ldR at h
  match st, h with
  | .int i :: .ref b :: t, h =>
    have h : (if ns_k S b = 8 ∧ ns_in i (ns_n S b) then some (.inl (k, pc + 1, L, va_rf (aR S b i.toNatClampNeg) :: t, S)) else none) = some a := h
    by_cases q : ns_k S b = 8 ∧ ns_in i (ns_n S b)
    · rw [if_pos q] at h
      cases h
      intro ls H locs hL hJ
      obtain ⟨x, hx1⟩ := ns_at (cI := cI) (cJ := cJ) (cT := cT) (S := S) (a := b) (by omega)
      rw [ns_ce_R q.1] at hx1
      exact va_aldq hx hb hK hJ.2.1 x 2 hx1 rfl (ns_in_vp q.2) hd (hs.1 ls H locs hL hJ)
    · rw [if_neg q] at h
      cases h
theorem so_stI (C0 : ns_C p s m args meth c D cI cJ cT k S0) (hd : decode (ns_c k) pc = .ok (.iastore, 1)) (h : ns_I k pc L st S (.iastore) = some a) (hs : ns_Sim p l e s m args below meth c D cI cJ cT k S0 r a) : ns_G p l e s m args below meth c D cI cJ cT k S0 r pc L st S := by
  obtain ⟨hk, hx, hb, hml, hr, hlk, hni, hown, hts, hK, hE, hsz⟩ := C0
  have h : ns_stI k pc L st S = some a := h
  unfold ns_stI at h
  match st, h with
  | .int v :: .int i :: .ref b :: t, h =>
    have h : (if ns_k S b = 6 ∧ ns_in i (ns_n S b) then some (.inl (k, pc + 1, L, t, qI S b i.toNatClampNeg v)) else none) = some a := h
    by_cases q : ns_k S b = 6 ∧ ns_in i (ns_n S b)
    · rw [if_pos q] at h
      cases h
      intro ls H locs hL hJ
      have hb0 : ns_k S b ≠ 0 := by omega
      obtain ⟨x, hx1⟩ := ns_at (cI := cI) (cJ := cJ) (cT := cT) hb0
      rw [ns_ce_I q.1] at hx1
      refine W.iast hx hb (hJ.2.1 x _ hx1) ((hK.2 0 _ rfl).1 (ns_n S b) (fun j => .int (aI S b j))) (fun q => by cases q) (by show ¬ (i < 0 ∨ (arrV _ _ _).slots.size ≤ _); rw [arrV_size]; exact ns_in_vp q.2) rfl rfl hd fun H1 e z oq => ?_
      refine hs.1 ls H1 _ hL (ns_wr (x := ns_ce cI cJ cT (qI S b i.toNatClampNeg v) b) hJ hb0 ?_ z oq rfl rfl (fun _ => rfl) (fun g => ?_))
      · rw [ns_ce_I (S := qI S b i.toNatClampNeg v) q.1]
        show H1[b]? = some (vp_cell _ _)
        rw [e]
        rw [vp_cell_i, vp_cell_i, arrV_store]
        congr 2
        funext g
        by_cases hq : g = i.toNatClampNeg
        · subst hq
          simp [updV, qI_aI]
        · simp [updV, hq, qI_aI]
      · by_cases hg : g = b
        · subst hg
          rw [va_up_self]
        · rw [va_up_ne _ _ hg]
          exact ns_ce_congr rfl rfl (fun _ => rfl) (fun _ => rfl) (fun _ => rfl) (by funext z; rw [qI_aI, if_neg (fun z => hg z.1)]) rfl rfl
    · rw [if_neg q] at h
      cases h
theorem so_stJ (C0 : ns_C p s m args meth c D cI cJ cT k S0) (hd : decode (ns_c k) pc = .ok (.lastore, 1)) (h : ns_I k pc L st S (.lastore) = some a) (hs : ns_Sim p l e s m args below meth c D cI cJ cT k S0 r a) : ns_G p l e s m args below meth c D cI cJ cT k S0 r pc L st S := by
  obtain ⟨hk, hx, hb, hml, hr, hlk, hni, hown, hts, hK, hE, hsz⟩ := C0
  have h : ns_stJ k pc L st S = some a := h
  unfold ns_stJ at h
  match st, h with
  | .long v :: .int i :: .ref b :: t, h =>
    have h : (if ns_k S b = 7 ∧ ns_in i (ns_n S b) then some (.inl (k, pc + 1, L, t, qJ S b i.toNatClampNeg v)) else none) = some a := h
    by_cases q : ns_k S b = 7 ∧ ns_in i (ns_n S b)
    · rw [if_pos q] at h
      cases h
      intro ls H locs hL hJ
      have hb0 : ns_k S b ≠ 0 := by omega
      obtain ⟨x, hx1⟩ := ns_at (cI := cI) (cJ := cJ) (cT := cT) hb0
      rw [ns_ce_J q.1] at hx1
      refine W.last hx hb (hJ.2.1 x _ hx1) ((hK.2 1 _ rfl).1 (ns_n S b) (fun j => .long (aJ S b j))) (fun q => by cases q) (by show ¬ (i < 0 ∨ (arrV _ _ _).slots.size ≤ _); rw [arrV_size]; exact ns_in_vp q.2) rfl rfl hd fun H1 e z oq => ?_
      refine hs.1 ls H1 _ hL (ns_wr (x := ns_ce cI cJ cT (qJ S b i.toNatClampNeg v) b) hJ hb0 ?_ z oq rfl rfl (fun _ => rfl) (fun g => ?_))
      · rw [ns_ce_J (S := qJ S b i.toNatClampNeg v) q.1]
        show H1[b]? = some (vp_cell _ _)
        rw [e]
        rw [vp_cell_l, vp_cell_l, arrV_store]
        congr 2
        funext g
        by_cases hq : g = i.toNatClampNeg
        · subst hq
          simp [updV, qJ_aJ]
        · simp [updV, hq, qJ_aJ]
      · by_cases hg : g = b
        · subst hg
          rw [va_up_self]
        · rw [va_up_ne _ _ hg]
          exact ns_ce_congr rfl rfl (fun _ => rfl) (fun _ => rfl) (fun _ => rfl) rfl (by funext z; rw [qJ_aJ, if_neg (fun z => hg z.1)]) rfl
    · rw [if_neg q] at h
      cases h
theorem so_stR (C0 : ns_C p s m args meth c D cI cJ cT k S0) (hd : decode (ns_c k) pc = .ok (.aastore, 1)) (h : ns_I k pc L st S (.aastore) = some a) (hs : ns_Sim p l e s m args below meth c D cI cJ cT k S0 r a) : ns_G p l e s m args below meth c D cI cJ cT k S0 r pc L st S := by
  obtain ⟨hk, hx, hb, hml, hr, hlk, hni, hown, hts, hK, hE, hsz⟩ := C0
  have h : ns_stR k pc L st S = some a := h
  unfold ns_stR at h
  match st, h with
  | w :: .int i :: .ref b :: t, h =>
    have h : (if ns_k S b = 8 ∧ ns_in i (ns_n S b) ∧ ns_rfok w = true ∧ ns_okT S (ns_rfo w) = true then some (.inl (k, pc + 1, L, t, qR S b i.toNatClampNeg (ns_rfo w))) else none) = some a := h
    by_cases q : ns_k S b = 8 ∧ ns_in i (ns_n S b) ∧ ns_rfok w = true ∧ ns_okT S (ns_rfo w) = true
    · rw [if_pos q] at h
      cases h
      intro ls H locs hL hJ
      have hb0 : ns_k S b ≠ 0 := by omega
      obtain ⟨x, hx1⟩ := ns_at (cI := cI) (cJ := cJ) (cT := cT) hb0
      rw [ns_ce_R q.1] at hx1
      have fin : ∀ (o : Option Nat) (H1 : Heap), H1[b]? = some ((vp_cell cT (ns_n S b, .inr (.inr (.inr (.inr (aR S b)))))).setSlot i.toNatClampNeg (va_rf o)) → H1.size = H.size → (∀ q, q ≠ b → H1[q]? = H[q]?) → ns_J s D cI cJ cT S0 (qR S b i.toNatClampNeg o) H1 (locs ++ [⟨b, i.toNatClampNeg⟩]) := by
        intro o H1 e z oq
        refine ns_wr (x := ns_ce cI cJ cT (qR S b i.toNatClampNeg o) b) hJ hb0 ?_ z oq rfl rfl (fun _ => rfl) (fun g => ?_)
        · rw [ns_ce_R (S := qR S b i.toNatClampNeg o) q.1]
          show H1[b]? = some (vp_cell _ _)
          rw [e]
          rw [vp_cell_q, vp_cell_q, arrV_store]
          congr 2
          funext g
          by_cases hq : g = i.toNatClampNeg
          · subst hq
            simp [updV, qR_aR]
          · simp [updV, hq, qR_aR]
        · by_cases hg : g = b
          · subst hg
            rw [va_up_self]
          · rw [va_up_ne _ _ hg]
            exact ns_ce_congr rfl rfl (fun _ => rfl) (fun _ => rfl) (fun _ => rfl) rfl rfl (by funext z; rw [qR_aR, if_neg (fun z => hg z.1)])
      cases w with
      | ref v =>
        have hv : ns_k S v = 2 := by simpa [ns_okT, ns_rfo] using q.2.2.2
        obtain ⟨y, hy1⟩ := ns_at (cI := cI) (cJ := cJ) (cT := cT) (S := S) (a := v) (by omega)
        rw [ns_ce_O (ci := 1) hv (by decide)] at hy1
        obtain ⟨r', hr', cellV, g1, g2, g3, -⟩ := hJ.2.1 y _ hy1
        have hcls := (hK.1 1 _ (ns_vw_ok 1 (by decide))).2
        obtain ⟨kA, comp, k1, k2, k3, -⟩ := (hK.2 2 _ rfl).2
        have hcomp : comp = D.1 1 := Option.some.inj (k3.symm.trans hcls.1)
        subst hcomp
        obtain ⟨kC, hkC, -⟩ := id hcls.2
        exact W.aast hx hb (hJ.2.1 x _ hx1) (fun q h => by cases h) (fun h => by cases h) k1 k2 rfl hkC ⟨q.2.1.1, by show _ < (arrV _ _ _).slots.size; rw [arrV_size]; exact q.2.1.2⟩ g1 (fun q h => by rw [g3] at h; cases h) (by rw [g2]; exact hkC) (by rw [g2]; exact va_assign hcls) rfl rfl hd fun H1 e z oq => hs.1 ls H1 _ hL (fin (some v) H1 e z oq)
      | null =>
        exact va_WaastN (C := "NestShelf$Thing") hx hb (hJ.2.1 x _ hx1) ((hK.2 2 _ rfl).1 (ns_n S b) (fun j => va_rf (aR S b j))) (fun h => by cases h) (by show ¬ (i < 0 ∨ (arrV _ _ _).slots.size ≤ _); rw [arrV_size]; exact ns_in_vp q.2.1) rfl rfl hd fun H1 e z oq => hs.1 ls H1 _ hL (fin none H1 e z oq)
      | _ => cases q.2.2.1
    · rw [if_neg q] at h
      cases h
theorem so_len (C0 : ns_C p s m args meth c D cI cJ cT k S0) (hd : decode (ns_c k) pc = .ok (.arraylength, 1)) (h : ns_I k pc L st S (.arraylength) = some a) (hs : ns_Sim p l e s m args below meth c D cI cJ cT k S0 r a) : ns_G p l e s m args below meth c D cI cJ cT k S0 r pc L st S := by
  obtain ⟨hk, hx, hb, hml, hr, hlk, hni, hown, hts, hK, hE, hsz⟩ := C0
  have h : ns_len k pc L st S = some a := h
  unfold ns_len at h
  match st, h with
  | .ref b :: t, h =>
    have h : (if 6 ≤ ns_k S b ∧ ns_k S b ≤ 8 then some (.inl (k, pc + 1, L, .int (nI (ns_n S b)) :: t, S)) else none) = some a := h
    by_cases q : 6 ≤ ns_k S b ∧ ns_k S b ≤ 8
    · rw [if_pos q] at h
      cases h
      intro ls H locs hL hJ
      obtain ⟨x, hx1⟩ := ns_at (cI := cI) (cJ := cJ) (cT := cT) (S := S) (a := b) (by omega)
      rcases (show ns_k S b = 6 ∨ ns_k S b = 7 ∨ ns_k S b = 8 by omega) with g | g | g
      · rw [ns_ce_I g] at hx1
        exact va_alen hx hb hK hJ.2.1 x 0 hx1 rfl rfl hd (hs.1 ls H locs hL hJ)
      · rw [ns_ce_J g] at hx1
        exact va_alen hx hb hK hJ.2.1 x 1 hx1 rfl rfl hd (hs.1 ls H locs hL hJ)
      · rw [ns_ce_R g] at hx1
        exact va_alen hx hb hK hJ.2.1 x 2 hx1 rfl rfl hd (hs.1 ls H locs hL hJ)
    · rw [if_neg q] at h
      cases h
theorem ns_al {H H1 : Heap} {locs : List Loc} {S' : ns_St} {x : va_E} {kd : Nat} (hsz : s.heap.size = ns_z S0) (hJ : ns_J s D cI cJ cT S0 S H locs) (he : va_at D vwCl (ns_z S, x) H1) (z1 : H1.size = H.size + 1) (o1 : ∀ q : Nat, q < H.size → H1[q]? = H[q]?) (hz : ns_z S' = ns_z S + 1) (hsn : ns_s S ≤ ns_s S') (hk : ∀ q, ns_k S' q = if q = ns_z S then kd else ns_k S q) (h0 : kd ≠ 0) (hc : ∀ q, va_up (ns_ce cI cJ cT S) (ns_z S) x q = ns_ce cI cJ cT S' q) : ns_J s D cI cJ cT S0 S' H1 locs := by
  obtain ⟨h1, h2, h3, h4, h5, h6⟩ := hJ
  have hP : va_P D vwCl (ns_pool cI cJ cT S') H1 := by
    rw [← ns_pool_add (ns_dom_add hz hk h0) hc]
    refine (h2.kept (fun i y hy => o1 y.1 ((h2 i y hy).lt))).app (fun i y hy => ?_)
    have hi : i < 1 := (List.getElem?_eq_some_iff.mp hy).1
    rw [show i = 0 by omega] at hy
    cases hy
    exact he
  refine ⟨by rw [z1, hz, h1], hP, fun q hq => ?_, ⟨Nat.le_trans h4.1 (by omega), fun q g1 g2 => (o1 q (Nat.lt_of_lt_of_le g1 h4.1)).trans (h4.2.1 q g1 g2), h4.2.2⟩, by omega, by omega⟩
  rw [hk] at hq
  by_cases g : q = ns_z S
  · exact Or.inr (by omega)
  · rw [if_neg g] at hq
    exact h3 q hq
theorem ns_df : ∀ ci, ci < 5 → ∀ j, j < ns_N ci → defaultValue (ns_ty ci j) = (match ns_fk (ns_ty ci j) with
    | 0 => Value.int 0
    | 1 => Value.int 0
    | 2 => Value.long 0
    | _ => Value.null) := by decide +kernel
theorem so_new {j : Nat} (C0 : ns_C p s m args meth c D cI cJ cT k S0) (hd : decode (ns_c k) pc = .ok (.new j, 3)) (h : ns_I k pc L st S (.new j) = some a) (hs : ns_Sim p l e s m args below meth c D cI cJ cT k S0 r a) : ns_G p l e s m args below meth c D cI cJ cT k S0 r pc L st S := by
  obtain ⟨hk, hx, hb, hml, hr, hlk, hni, hown, hts, hK, hE, hsz⟩ := C0
  have h : ns_new k pc L st S j = some a := h
  unfold ns_new at h
  split at h
  · rename_i ci hl
    obtain ⟨w1, w2, w3, w4⟩ := ns_ct_ok _ (ns_lk_mem hl)
    dsimp only at w1 w2 w3 w4
    cases h
    obtain ⟨hg, hz, hsn⟩ := hs
    intro ls H locs hL hJ
    have hKn := hK.1 ci _ (ns_vw_ok ci w4)
    have e1 : ns_z (nO S ci (ns_N ci)) = ns_z S + 1 := rfl
    have e2 : ns_s (nO S ci (ns_N ci)) = ns_s S + ns_N ci := rfl
    dsimp only at hz hsn
    rw [e1] at hz
    rw [e2] at hsn
    refine W.newcK hx hb hown (hts _ w1) (hts _ w2) (hts _ w3) rfl hd (by show _ ≤ ns_z r.2 - ns_z S0; have := hJ.2.2.2.2.1; omega) (by show _ ≤ ns_s r.2 - ns_s S0; have := hJ.2.2.2.2.2; omega) hKn.2.1 (h := ns_z S) hJ.1 fun H1 kC hkC q1 q2 q3 => ?_
    have hJ' : ns_J s D cI cJ cT S0 (nO S ci (ns_N ci)) H1 locs := by
      refine ns_al (x := .inr (ci, ns_fl (nO S ci (ns_N ci)) ci (ns_z S))) (kd := ci + 1) hsz hJ ⟨_, ns_vw_ok ci w4, (u_born (ns_ty ci) hts (ns_ws ci w4) hKn hkC q1 (ns_ty_ok ci w4)).to (fun f hf => ?_)⟩ (by rw [q2, hJ.1]) (fun q hq => q3 q (by rw [← hJ.1]; exact hq)) rfl (by rw [e2]; omega) (fun q => nO_ns_k S ci _ q) (by omega) (fun q => ?_)
      · rw [ns_df ci w4 f hf]
        unfold vp_V
        rw [List.getD_eq_getElem?_getD, ns_fl_at _ _ _ hf]
        unfold ns_fv
        simp only [Option.getD_some, nO_fI, nO_fJ, nO_fR, if_true, va_rf]
        generalize ns_fk (ns_ty ci f) = y
        match y with
        | 0 => rfl
        | 1 => rfl
        | 2 => rfl
        | _ + 3 => rfl
      · by_cases g : q = ns_z S
        · subst g
          rw [va_up_self, ns_ce_O (by rw [nO_ns_k, if_pos rfl]) w4]
        · rw [va_up_ne _ _ g]
          exact ns_ce_congr (by rw [nO_ns_k, if_neg g]) rfl (fun i => by rw [nO_fI, if_neg g]) (fun i => by rw [nO_fJ, if_neg g]) (fun i => by rw [nO_fR, if_neg g]) rfl rfl rfl
    have hw := hg ls H1 locs hL hJ'
    dsimp only at hw
    rw [e1, e2] at hw
    have z5 := hJ.2.2.2.2.1
    have z6 := hJ.2.2.2.2.2
    rw [show ns_z S + 1 - ns_z S0 = ns_z S - ns_z S0 + 1 by omega, show ns_s S + ns_N ci - ns_s S0 = ns_s S - ns_s S0 + ns_N ci by omega] at hw
    exact hw
  · cases h
theorem ns_alA {H H1 : Heap} {locs : List Loc} {kd n : Nat} (hsz : s.heap.size = ns_z S0) (hJ : ns_J s D cI cJ cT S0 S H locs) (he : va_at D vwCl (ns_z S, ns_ce cI cJ cT (nA S kd n) (ns_z S)) H1) (z1 : H1.size = H.size + 1) (o1 : ∀ q : Nat, q < H.size → H1[q]? = H[q]?) (h0 : kd ≠ 0) : ns_J s D cI cJ cT S0 (nA S kd n) H1 locs := by
  refine ns_al (kd := kd) hsz hJ he z1 o1 rfl (by rw [nA_ns_s]; omega) (fun q => nA_ns_k S kd n q) h0 (fun q => ?_)
  by_cases g : q = ns_z S
  · subst g
    rw [va_up_self]
  · rw [va_up_ne _ _ g]
    exact ns_ce_congr (by rw [nA_ns_k, if_neg g]) (by rw [nA_ns_n, if_neg g]) (fun i => rfl) (fun i => rfl) (fun i => rfl) (by funext i; rw [nA_aI, if_neg g]) (by funext i; rw [nA_aJ, if_neg g]) (by funext i; rw [nA_aR, if_neg g])
theorem so_newI (C0 : ns_C p s m args meth c D cI cJ cT k S0) (hd : decode (ns_c k) pc = .ok (.newarray .int, 2)) (h : ns_I k pc L st S (.newarray .int) = some a) (hs : ns_Sim p l e s m args below meth c D cI cJ cT k S0 r a) : ns_G p l e s m args below meth c D cI cJ cT k S0 r pc L st S := by
  obtain ⟨hk, hx, hb, hml, hr, hlk, hni, hown, hts, hK, hE, hsz⟩ := C0
  have h : ns_newa k pc L st S 6 2 = some a := h
  unfold ns_newa at h
  match st, h with
  | .int x :: t, h =>
    have h : (if ¬ x < 0 ∧ x.toNatClampNeg ≤ 1000000 then some (.inl (k, pc + 2, L, .ref (ns_z S) :: t, nA S 6 x.toNatClampNeg)) else none) = some a := h
    by_cases q : ¬ x < 0 ∧ x.toNatClampNeg ≤ 1000000
    · rw [if_pos q] at h
      cases h
      obtain ⟨hg, hz, hsn⟩ := hs
      intro ls H locs hL hJ
      have e1 : ns_z (nA S 6 x.toNatClampNeg) = ns_z S + 1 := rfl
      have e2 : ns_s (nA S 6 x.toNatClampNeg) = ns_s S + x.toNatClampNeg := rfl
      dsimp only at hz hsn
      rw [e1] at hz
      rw [e2] at hsn
      have z5 := hJ.2.2.2.2.1
      have z6 := hJ.2.2.2.2.2
      refine va_newaK hx hb (atype := .int) (hts _ ns_ar_ok.1) rfl hd rfl q.1 rfl (by show _ * 4 ≤ _; omega) (by show _ ≤ ns_z r.2 - ns_z S0; omega) (by show _ ≤ ns_s r.2 - ns_s S0; omega) (h := ns_z S) hJ.1 fun H1 cA f1 f2 f3 f4 f5 => ?_
      have hcA : cA = cI := Option.some.inj (f5.symm.trans (hK.2 0 _ rfl).2)
      subst hcA
      have hJ' := ns_alA (kd := 6) (n := x.toNatClampNeg) hsz hJ (H1 := H1) (by
        rw [ns_ce_I (by rw [nA_ns_k, if_pos rfl])]
        show H1[ns_z S]? = some (vp_cell _ _)
        rw [f1, vp_cell_i, nA_ns_n, if_pos rfl]
        congr 2
        funext i
        rw [nA_aI, if_pos rfl]
        rfl) (by rw [f2, hJ.1]) (fun q hq => f3 q (by rw [← hJ.1]; exact hq)) (by decide)
      have hw := hg ls H1 locs hL hJ'
      dsimp only at hw
      rw [e1, e2, show ns_z S + 1 - ns_z S0 = ns_z S - ns_z S0 + 1 by omega, show ns_s S + x.toNatClampNeg - ns_s S0 = ns_s S - ns_s S0 + x.toNatClampNeg by omega] at hw
      exact hw
    · rw [if_neg q] at h
      cases h
theorem so_newJ (C0 : ns_C p s m args meth c D cI cJ cT k S0) (hd : decode (ns_c k) pc = .ok (.newarray .long, 2)) (h : ns_I k pc L st S (.newarray .long) = some a) (hs : ns_Sim p l e s m args below meth c D cI cJ cT k S0 r a) : ns_G p l e s m args below meth c D cI cJ cT k S0 r pc L st S := by
  obtain ⟨hk, hx, hb, hml, hr, hlk, hni, hown, hts, hK, hE, hsz⟩ := C0
  have h : ns_newa k pc L st S 7 2 = some a := h
  unfold ns_newa at h
  match st, h with
  | .int x :: t, h =>
    have h : (if ¬ x < 0 ∧ x.toNatClampNeg ≤ 1000000 then some (.inl (k, pc + 2, L, .ref (ns_z S) :: t, nA S 7 x.toNatClampNeg)) else none) = some a := h
    by_cases q : ¬ x < 0 ∧ x.toNatClampNeg ≤ 1000000
    · rw [if_pos q] at h
      cases h
      obtain ⟨hg, hz, hsn⟩ := hs
      intro ls H locs hL hJ
      have e1 : ns_z (nA S 7 x.toNatClampNeg) = ns_z S + 1 := rfl
      have e2 : ns_s (nA S 7 x.toNatClampNeg) = ns_s S + x.toNatClampNeg := rfl
      dsimp only at hz hsn
      rw [e1] at hz
      rw [e2] at hsn
      have z5 := hJ.2.2.2.2.1
      have z6 := hJ.2.2.2.2.2
      refine va_newaK hx hb (atype := .long) (hts _ ns_ar_ok.2.1) rfl hd rfl q.1 rfl (by show _ * 8 ≤ _; omega) (by show _ ≤ ns_z r.2 - ns_z S0; omega) (by show _ ≤ ns_s r.2 - ns_s S0; omega) (h := ns_z S) hJ.1 fun H1 cA f1 f2 f3 f4 f5 => ?_
      have hcA : cA = cJ := Option.some.inj (f5.symm.trans (hK.2 1 _ rfl).2)
      subst hcA
      have hJ' := ns_alA (kd := 7) (n := x.toNatClampNeg) hsz hJ (H1 := H1) (by
        rw [ns_ce_J (by rw [nA_ns_k, if_pos rfl])]
        show H1[ns_z S]? = some (vp_cell _ _)
        rw [f1, vp_cell_l, nA_ns_n, if_pos rfl]
        congr 2
        funext i
        rw [nA_aJ, if_pos rfl]
        rfl) (by rw [f2, hJ.1]) (fun q hq => f3 q (by rw [← hJ.1]; exact hq)) (by decide)
      have hw := hg ls H1 locs hL hJ'
      dsimp only at hw
      rw [e1, e2, show ns_z S + 1 - ns_z S0 = ns_z S - ns_z S0 + 1 by omega, show ns_s S + x.toNatClampNeg - ns_s S0 = ns_s S - ns_s S0 + x.toNatClampNeg by omega] at hw
      exact hw
    · rw [if_neg q] at h
      cases h
theorem so_newR {j : Nat} (C0 : ns_C p s m args meth c D cI cJ cT k S0) (hd : decode (ns_c k) pc = .ok (.anewarray j, 3)) (h : ns_I k pc L st S (.anewarray j) = some a) (hs : ns_Sim p l e s m args below meth c D cI cJ cT k S0 r a) : ns_G p l e s m args below meth c D cI cJ cT k S0 r pc L st S := by
  obtain ⟨hk, hx, hb, hml, hr, hlk, hni, hown, hts, hK, hE, hsz⟩ := C0
  have h : (if ns_o k = 3 ∧ j = 9 then ns_newa k pc L st S 8 3 else none) = some a := h
  by_cases hj : ns_o k = 3 ∧ j = 9
  · rw [if_pos hj] at h
    unfold ns_newa at h
    match st, h with
    | .int x :: t, h =>
      have h : (if ¬ x < 0 ∧ x.toNatClampNeg ≤ 1000000 then some (.inl (k, pc + 3, L, .ref (ns_z S) :: t, nA S 8 x.toNatClampNeg)) else none) = some a := h
      by_cases q : ¬ x < 0 ∧ x.toNatClampNeg ≤ 1000000
      · rw [if_pos q] at h
        cases h
        obtain ⟨hg, hz, hsn⟩ := hs
        intro ls H locs hL hJ
        have e1 : ns_z (nA S 8 x.toNatClampNeg) = ns_z S + 1 := rfl
        have e2 : ns_s (nA S 8 x.toNatClampNeg) = ns_s S + x.toNatClampNeg := rfl
        dsimp only at hz hsn
        rw [e1] at hz
        rw [e2] at hsn
        have z5 := hJ.2.2.2.2.1
        have z6 := hJ.2.2.2.2.2
        rw [hj.1] at hown
        rw [hj.2] at hd
        refine W.anew hx hb hown (C := RX1) (hts _ ns_ar_ok.2.2) (va_AO.use hE.1) rfl hd rfl q.1 (by omega) (by show _ ≤ ns_z r.2 - ns_z S0; omega) (by show _ ≤ ns_s r.2 - ns_s S0; omega) fun cA kA comp f1 f2 f3 f4 => ?_
        obtain ⟨kA', comp', k1, k2, k3, k4⟩ := (hK.2 2 _ rfl).2
        have hcA : cA = cT := Option.some.inj (f1.symm.trans k4)
        subst hcA
        generalize hH1 : H.push ({ cls := cA, slots := Array.replicate x.toNatClampNeg .null, vm := .none } : Cell) = H1
        have z1 : H1.size = H.size + 1 := by rw [← hH1, Array.size_push]
        have g1 : H1[H.size]? = some (arrV cA x.toNatClampNeg (fun _ => .null)) := by rw [← hH1, Array.getElem?_push_size, ← arrV_new]
        have o1 : ∀ q : Nat, q < H.size → H1[q]? = H[q]? := fun q hq => by rw [← hH1, Array.getElem?_push, if_neg (Nat.ne_of_lt hq)]
        have hJ' := ns_alA (kd := 8) (n := x.toNatClampNeg) hsz hJ (H1 := H1) (by
          rw [ns_ce_R (by rw [nA_ns_k, if_pos rfl])]
          show H1[ns_z S]? = some (vp_cell _ _)
          rw [← hJ.1, g1, vp_cell_q, nA_ns_n, hJ.1, if_pos rfl]
          congr 2
          funext i
          rw [nA_aR, if_pos rfl]
          rfl) z1 o1 (by decide)
        have hw := hg ls H1 locs hL hJ'
        dsimp only at hw
        rw [e1, e2, show ns_z S + 1 - ns_z S0 = ns_z S - ns_z S0 + 1 by omega, show ns_s S + x.toNatClampNeg - ns_s S0 = ns_s S - ns_s S0 + x.toNatClampNeg by omega] at hw
        rw [← hJ.1] at hw
        rw [hJ.1] at hw ⊢
        exact hw
      · rw [if_neg q] at h
        cases h
  · rw [if_neg hj] at h
    cases h
theorem so_cast {j : Nat} (C0 : ns_C p s m args meth c D cI cJ cT k S0) (hd : decode (ns_c k) pc = .ok (.checkcast j, 3)) (h : ns_I k pc L st S (.checkcast j) = some a) (hs : ns_Sim p l e s m args below meth c D cI cJ cT k S0 r a) : ns_G p l e s m args below meth c D cI cJ cT k S0 r pc L st S := by
  obtain ⟨hk, hx, hb, hml, hr, hlk, hni, hown, hts, hK, hE, hsz⟩ := C0
  have h : ns_cast k pc L st S j = some a := h
  unfold ns_cast at h
  match st, h with
  | .ref b :: t, h =>
    have h : (if ns_o k = 1 ∧ ((j = 32 ∧ ns_k S b = 7) ∨ (j = 37 ∧ ns_k S b = 8)) then some (.inl (k, pc + 3, L, .ref b :: t, S)) else none) = some a := h
    by_cases q : ns_o k = 1 ∧ ((j = 32 ∧ ns_k S b = 7) ∨ (j = 37 ∧ ns_k S b = 8))
    · rw [if_pos q] at h
      cases h
      intro ls H locs hL hJ
      obtain ⟨x, hx1⟩ := ns_at (cI := cI) (cJ := cJ) (cT := cT) (S := S) (a := b) (by omega)
      rw [q.1] at hown
      rcases q.2 with ⟨rfl, g⟩ | ⟨rfl, g⟩
      · rw [ns_ce_J g] at hx1
        exact va_castA hx hb hown (hts _ ns_cl_ok.1.2.2.2.2.2) hJ.2.1 x hx1 (hK.2 1 _ rfl).2 hd (hs.1 ls H locs hL hJ)
      · rw [ns_ce_R g] at hx1
        obtain ⟨kA', comp', k1, k2, k3, k4⟩ := (hK.2 2 _ rfl).2
        exact va_castA hx hb hown (hts _ ns_cl_ok.2.2.2.2) hJ.2.1 x hx1 k4 hd (hs.1 ls H locs hL hJ)
    · rw [if_neg q] at h
      cases h
theorem ns_qok {H : Heap} {locs : List Loc} (hK : va_K D vwCl (ns_tys cI cJ cT) s) (hE : ns_E s) (hJ : ns_J s D cI cJ cT S0 S H locs) (v : Option Value) : ∀ t : State, t.heap = H → s.WarmedH t.vm → ns_Q D cI cJ cT S0 (v, S) args s (.returned v) t := fun t ht hW => ⟨⟨rfl, by rw [ht]; exact hJ.1, by rw [ht]; exact hJ.2.1, va_K.moved hW.alike hK, hE.warm hW⟩, hJ.2.2.2.1.F ht⟩
theorem ns_nar {x : Int32} (h : x = 0 ∨ x = 1) : narrow .boolean (.int x) = .int x := by rcases h with rfl | rfl <;> rfl
theorem ns_rok0 {t : Option FieldType} {v : Value} (h : ns_retok t v 0 = true) : (t = some .int ∧ ∃ x, v = .int x) ∨ (t = some .boolean ∧ ∃ x : Int32, v = .int x ∧ (x = 0 ∨ x = 1)) := by
  cases t with
  | none => cases h
  | some t => cases t <;> cases v <;> first | exact Or.inl ⟨rfl, _, rfl⟩ | (refine Or.inr ⟨rfl, _, rfl, ?_⟩; simpa [ns_retok] using h) | cases h
theorem ns_rok1 {t : Option FieldType} {v : Value} (h : ns_retok t v 1 = true) : t = some .long ∧ ∃ x, v = .long x := by
  cases t with
  | none => cases h
  | some t => cases t <;> cases v <;> first | exact ⟨rfl, _, rfl⟩ | cases h
theorem ns_rok2 {t : Option FieldType} {v : Value} (h : ns_retok t v 2 = true) : (∃ C, t = some (.object C)) ∧ (v = .null ∨ ∃ x, v = .ref x) := by
  cases t with
  | none => cases h
  | some t => cases t <;> cases v <;> first | exact ⟨⟨_, rfl⟩, Or.inl rfl⟩ | exact ⟨⟨_, rfl⟩, Or.inr ⟨_, rfl⟩⟩ | cases h
theorem so_iret (C0 : ns_C p s m args meth c D cI cJ cT k S0) (hd : decode (ns_c k) pc = .ok (.ireturn, 1)) (h : ns_I k pc L st S (.ireturn) = some a) (hs : ns_Sim p l e s m args below meth c D cI cJ cT k S0 r a) : ns_G p l e s m args below meth c D cI cJ cT k S0 r pc L st S := by
  obtain ⟨hk, hx, hb, hml, hr, hlk, hni, hown, hts, hK, hE, hsz⟩ := C0
  have h : ns_ret k st S 0 = some a := h
  unfold ns_ret at h
  match st, h with
  | [v], h =>
    by_cases q : ns_retok (ns_r k) v 0 = true
    · simp only [if_pos q] at h
      cases h
      cases hs
      intro ls H locs hL hJ
      rcases ns_rok0 q with ⟨h1, x, rfl⟩ | ⟨h1, x, rfl, h2⟩
      · exact W.iret hx hb (by rw [hr]; exact h1) (ns_qok hK hE hJ _) hJ.2.2.2.1.2.2 hd hlk
      · exact W.zret hx hb (by rw [hr]; exact h1) (ns_nar h2) (ns_qok hK hE hJ _) hJ.2.2.2.1.2.2 hd hlk
    · simp only [if_neg q] at h
      cases h
theorem so_lret (C0 : ns_C p s m args meth c D cI cJ cT k S0) (hd : decode (ns_c k) pc = .ok (.lreturn, 1)) (h : ns_I k pc L st S (.lreturn) = some a) (hs : ns_Sim p l e s m args below meth c D cI cJ cT k S0 r a) : ns_G p l e s m args below meth c D cI cJ cT k S0 r pc L st S := by
  obtain ⟨hk, hx, hb, hml, hr, hlk, hni, hown, hts, hK, hE, hsz⟩ := C0
  have h : ns_ret k st S 1 = some a := h
  unfold ns_ret at h
  match st, h with
  | [v], h =>
    by_cases q : ns_retok (ns_r k) v 1 = true
    · simp only [if_pos q] at h
      cases h
      cases hs
      intro ls H locs hL hJ
      obtain ⟨h1, x, rfl⟩ := ns_rok1 q
      exact W.lret hx hb (by rw [hr]; exact h1) (ns_qok hK hE hJ _) hJ.2.2.2.1.2.2 hd hlk
    · simp only [if_neg q] at h
      cases h
theorem so_aret (C0 : ns_C p s m args meth c D cI cJ cT k S0) (hd : decode (ns_c k) pc = .ok (.areturn, 1)) (h : ns_I k pc L st S (.areturn) = some a) (hs : ns_Sim p l e s m args below meth c D cI cJ cT k S0 r a) : ns_G p l e s m args below meth c D cI cJ cT k S0 r pc L st S := by
  obtain ⟨hk, hx, hb, hml, hr, hlk, hni, hown, hts, hK, hE, hsz⟩ := C0
  have h : ns_ret k st S 2 = some a := h
  unfold ns_ret at h
  match st, h with
  | [v], h =>
    by_cases q : ns_retok (ns_r k) v 2 = true
    · simp only [if_pos q] at h
      cases h
      cases hs
      intro ls H locs hL hJ
      obtain ⟨⟨C9, h1⟩, h2⟩ := ns_rok2 q
      exact W.aret hx hb (by rw [hr]; exact h1) (Or.inl ⟨_, rfl⟩) h2 (ns_qok hK hE hJ _) hJ.2.2.2.1.2.2 hd hlk
    · simp only [if_neg q] at h
      cases h
theorem so_vret (C0 : ns_C p s m args meth c D cI cJ cT k S0) (hd : decode (ns_c k) pc = .ok (.return_, 1)) (h : ns_I k pc L st S (.return_) = some a) (hs : ns_Sim p l e s m args below meth c D cI cJ cT k S0 r a) : ns_G p l e s m args below meth c D cI cJ cT k S0 r pc L st S := by
  obtain ⟨hk, hx, hb, hml, hr, hlk, hni, hown, hts, hK, hE, hsz⟩ := C0
  have h : ns_retv k st S = some a := h
  unfold ns_retv at h
  match st, h with
  | [], h =>
    have h : (if ns_r k = none then some (.inr (.inl (none, S))) else none) = some a := h
    by_cases q : ns_r k = none
    · rw [if_pos q] at h
      cases h
      cases hs
      intro ls H locs hL hJ
      exact W.vret hx hb (by rw [hr]; exact q) (ns_qok hK hE hJ _) hJ.2.2.2.1.2.2 hd hlk
    · rw [if_neg q] at h
      cases h
end NSS
end
section
/-! ===== the machine's steps are the JVM's: calls; and the whole ===== -/
section NSS
variable {p : Program} {l : Launch} {e : Env} {s : State} {m : MethodId} {args : Array Value} {below : List Frame} {meth : Method} {c : Code} {D : va_G} {cI cJ cT : ClassId} {k : Nat} {S0 : ns_St} {r : ns_Rs} {pc : Nat} {L : List (Option Value)} {st : List Value} {S : ns_St} {a : ns_Act}
theorem ns_AA {b : Nat} {H : Heap} {locs : List Loc} (hJ : ns_J s D cI cJ cT S0 S H locs) (h : ns_A S b) : ns_A S0 b := h.elim (fun g => hJ.2.2.1 b g) (fun g => Or.inr (Nat.le_trans hJ.2.2.2.2.1 g))
theorem ns_after {ls : Array Slot} {H : Heap} {locs : List Loc} {r1 : ns_Rs} {rest st0 : List Value} {a' : Array Value} (hL : ns_L ls (ns_m k) L) (hJ : ns_J s D cI cJ cT S0 S H locs) (h1 : ∀ b, ns_k r1.2 b ≠ 0 → ns_A S b) (h2 : ns_z S ≤ ns_z r1.2) (h3 : ns_s S ≤ ns_s r1.2)
    (hr : va_Run p l e (ns_rm k (ns_z r.2 - ns_z S0) (ns_s r.2 - ns_s S0)) s m args below meth c H locs (ns_z S - ns_z S0) (ns_s S - ns_s S0) (ns_z r1.2 - ns_z S) (ns_s r1.2 - ns_s S) (F0 m pc ls st0) rest (ns_Q D cI cJ cT S r1 a') (ns_A S)) (hg : ns_G p l e s m args below meth c D cI cJ cT k S0 r (pc + 3) L (r1.1.toList ++ rest) r1.2) : W p l e (ns_rm k (ns_z r.2 - ns_z S0) (ns_s r.2 - ns_s S0)) s m args below meth c H locs (ns_z S - ns_z S0) (ns_s S - ns_s S0) (MQ below (ns_Q D cI cJ cT S0 r) args s (ns_z r.2 - ns_z S0) (ns_s r.2 - ns_s S0) (ns_A S0)) (F0 m pc ls st0) := by
  intro T hT X
  obtain ⟨v, st₀, t, T', L', h0, X', hL', e1, e2, ⟨⟨hv, hH⟩, hF⟩, stp⟩ := hr T hT X
  cases hv
  have z5 := hJ.2.2.2.2.1
  have z6 := hJ.2.2.2.2.2
  have hJ' : ns_J s D cI cJ cT S0 r1.2 T'.heap (locs ++ L') := by
    refine ⟨by rw [e1]; exact hH.1, by rw [e1]; exact hH.2.1, fun b hb => ns_AA hJ (h1 b hb), ⟨?_, fun q g1 g2 => ?_, fun q hq => ?_⟩, by omega, by omega⟩
    · rw [e1]
      exact Nat.le_trans hJ.2.2.2.1.1 (by rw [← h0]; exact hF.1)
    · rw [e1, hF.2 q (by rw [h0]; exact Nat.lt_of_lt_of_le g1 hJ.2.2.2.1.1) (fun g => g2 (ns_AA hJ g)), h0]
      exact hJ.2.2.2.1.2.1 q g1 g2
    · rcases List.mem_append.mp hq with g | g
      · exact hJ.2.2.2.1.2.2 q g
      · exact ns_AA hJ (hL' q g)
  have hw := hg ls T'.heap (locs ++ L') hL hJ' T' rfl
  rw [show ns_z r1.2 - ns_z S0 = ns_z S - ns_z S0 + (ns_z r1.2 - ns_z S) by omega, show ns_s r1.2 - ns_s S0 = ns_s S - ns_s S0 + (ns_s r1.2 - ns_s S) by omega] at hw
  obtain ⟨t2, a1, b1⟩ := hw X'
  exact ⟨t2, stp t2 a1, b1⟩
theorem ns_pre {H : Heap} {locs : List Loc} (hK : va_K D vwCl (ns_tys cI cJ cT) s) (hE : ns_E s) (hJ : ns_J s D cI cJ cT S0 S H locs) (vs : List Value) : PreS s H (va_Pc vs (ns_H D cI cJ cT S)) vs :=
  ⟨fun a U g mk q => by
    obtain ⟨q0, q1, q2, q3, q4⟩ := q
    exact ⟨q0, q1, q2, va_K.moved (u := U) (U := U.calling g mk a) (Vm.Alike.refl U.vm) q3, ns_E.same (u := U) (U := U.calling g mk a) rfl q4⟩, fun U hU hW => ⟨rfl, by rw [hU]; exact hJ.1, by rw [hU]; exact hJ.2.1, va_K.moved hW.alike hK, hE.warm hW⟩⟩
theorem ns_cb {k1 i cn sn : Nat} {Rm : Room} (hts : ∀ w ∈ ns_Gt, w.before args s = true) (hk1 : k1 < 95) (hl : Cond.methodLink (ns_R (ns_o k)) i (ns_y k1) ∈ ns_Gt) (hh : ns_h k1 + 1 ≤ ns_h k) (hm : ns_m k1 ≤ 16) : CallB (ns_rm k cn sn) s args (ns_R (ns_o k)) i (ns_y k1) (ns_c k1) (ns_m k1) (ns_r k1) (ns_w k1) (ns_rm k1 Rm.cells Rm.slots) Rm.cells Rm.slots (ns_pn k1) := by
  obtain ⟨w1, w2, w3, w4⟩ := ns_kind_ok k1 hk1
  exact callB_of (ns_pn k1) hts (ns_goodIn (fun _ h => h) hk1) rfl rfl rfl (hts _ w1) (hts _ hl) w3 ⟨hh, by show 8 + (ns_m k1 + 11) + 35 * ns_h k1 ≤ 35 * ns_h k; omega⟩
theorem ns_go_ok {k1 : Nat} {vs t : List Value} (h : ns_go k pc L S k1 vs t = some a) (hs : ns_Sim p l e s m args below meth c D cI cJ cT k S0 r a) : ns_h k1 + 1 ≤ ns_h k ∧ ns_m k1 ≤ 16 ∧ ns_cat t ≤ 8 ∧ ∃ r1 : ns_Rs, ns_Met l D cI cJ cT k1 vs S r1 ∧ ns_G p l e s m args below meth c D cI cJ cT k S0 r (pc + 3) L (r1.1.toList ++ t) r1.2 ∧ (∀ b, ns_k r1.2 b ≠ 0 → ns_A S b) ∧ ns_z S ≤ ns_z r1.2 ∧ ns_s S ≤ ns_s r1.2 ∧ ns_z r1.2 ≤ ns_z r.2 ∧ ns_s r1.2 ≤ ns_s r.2 := by
  unfold ns_go at h
  by_cases q : ns_h k1 + 1 ≤ ns_h k ∧ ns_m k1 ≤ 16 ∧ (ns_el vs).length ≤ ns_m k1 ∧ ns_cat t ≤ 8
  · rw [if_pos q] at h
    cases h
    obtain ⟨r1, h1, h2, h3⟩ := hs
    exact ⟨q.1, q.2.1, q.2.2.2, r1, h1 vs rfl q.2.2.1, h2, h3⟩
  · rw [if_neg q] at h
    cases h
theorem ns_st_split {n : Nat} {v : Value} {t : List Value} (h : st.drop n = v :: t) : (st.take n).length = n ∧ st = st.take n ++ v :: t := by
  have hn : n < st.length := by
    rcases Nat.lt_or_ge n st.length with g | g
    · exact g
    · rw [List.drop_eq_nil_of_le g] at h
      cases h
  exact ⟨by rw [List.length_take]; omega, by rw [← h]; exact (List.take_append_drop n st).symm⟩
theorem ns_h_pos : ∀ k, k < 95 → 1 ≤ ns_h k := by decide +kernel
theorem ns_o_lt (k : Nat) : ns_o k < 5 := by
  unfold ns_o
  split
  · decide
  · split
    · decide
    · split
      · decide
      · split <;> decide
theorem so_virt {j : Nat} (C0 : ns_C p s m args meth c D cI cJ cT k S0) (hd : decode (ns_c k) pc = .ok (.invokevirtual j, 3)) (h : ns_I k pc L st S (.invokevirtual j) = some a) (hs : ns_Sim p l e s m args below meth c D cI cJ cT k S0 r a) : ns_G p l e s m args below meth c D cI cJ cT k S0 r pc L st S := by
  obtain ⟨hk, hx, hb, hml, hr, hlk, hni, hown, hts, hK, hE, hsz⟩ := C0
  have h : ns_virt k pc L st S j = some a := h
  unfold ns_virt at h
  have cl : ∀ (nm : String) (b : Nat) (t : List Value) (kd : Nat) (cA : ClassId) (v : vp_A) (ty : FieldType) (t0 : Nat), ns_o k = 1 → st = .ref b :: t → ns_cat t ≤ 8 → a = .inl (k, pc + 3, L, .ref (ns_z S) :: t, nC S b) → ns_k S b = kd → kd ≠ 0 → ns_ce cI cJ cT S b = .inl (cA, v) → v.1 = ns_n S b → (ns_ce cI cJ cT (nC S b) (ns_z S) = .inl (cA, v)) → (ns_tys cI cJ cT)[t0]? = some (cA, ty) → s.vm.findClass nm = some cA → (∀ (i : Nat) (w : Value), (vp_cell cA v).slots[i]? = some w → fits ty w = true) → Cond.methodLink RX1 j ⟨nm, "clone", "()Ljava/lang/Object;"⟩ ∈ ns_Gt → Cond.sameMethod nm "java/lang/Object" "clone" "()Ljava/lang/Object;" ∈ ns_Gt → Cond.selects nm ⟨nm, "clone", "()Ljava/lang/Object;"⟩ ⟨"java/lang/Object", "clone", "()Ljava/lang/Object;"⟩ ∈ ns_Gt → va_Nw (.castable nm "java/lang/Cloneable") s → ns_G p l e s m args below meth c D cI cJ cT k S0 r pc L st S := by
    intro nm b t kd cA v ty t0 ho hst hcat ha hkb h0 hce hv1 hce' htt hnm hfit w1 w2 w3 hcl
    subst hst
    subst ha
    obtain ⟨hg, hz, hsn⟩ := hs
    intro ls H locs hL hJ
    have e1 : ns_z (nC S b) = ns_z S + 1 := rfl
    have e2 : ns_s (nC S b) = ns_s S + ns_n S b := rfl
    dsimp only at hz hsn
    rw [e1] at hz
    rw [e2] at hsn
    have z5 := hJ.2.2.2.2.1
    have z6 := hJ.2.2.2.2.2
    have hh1 : 1 ≤ ns_h k := ns_h_pos k hk
    rw [ho] at hown
    obtain ⟨x, hx1⟩ := ns_at (cI := cI) (cJ := cJ) (cT := cT) (S := S) (a := b) (by omega)
    rw [hce] at hx1
    have hsz2 : (vp_cell cA v).slots.size = v.1 := by
      obtain ⟨n, f | f | f | f | f⟩ := v <;> exact arrV_size _ _ _
    have hvm0 : (vp_cell cA v).vm = .none := by
      obtain ⟨n, f | f | f | f | f⟩ := v <;> rfl
    have hcl0 : (vp_cell cA v).cls = cA := by
      obtain ⟨n, f | f | f | f | f⟩ := v <;> rfl
    have hcellE : ({ cls := (vp_cell cA v).cls, slots := (vp_cell cA v).slots } : Cell) = vp_cell cA v := by
      obtain ⟨n, f | f | f | f | f⟩ := v <;> rfl
    obtain ⟨c0, t0', f1, f2, f3⟩ := Cond.castable_spec (va_Nw.use (A := args) rfl hcl)
    cases hnm.symm.trans f1
    intro T hT X
    have hcellT : T.heap[b]? = some (vp_cell cA v) := by rw [hT]; exact hJ.2.1 x _ hx1
    obtain ⟨-, kA, hkA, comp, hkind⟩ := State.isArrayOf_alike X.warmed.alike ((hK.2 t0 _ htt).1 0 (fun _ => .null))
    obtain ⟨-, kS, hkS, compS, hkindS⟩ := (hK.2 t0 _ htt).1 0 (fun _ => .null)
    obtain ⟨vm', X', stp⟩ := X.cloneArray hx hown (hts _ w1) (hts _ w2) (hts _ ns_cl_ok.1.2.2.1) (hts _ ns_cl_ok.1.2.2.2.1) (hts _ w3) (a := b) (cell := vp_cell cA v) hcellT (fun k h => by rw [hvm0] at h; cases h) (by rw [hvm0]; exact fun h => by cases h) (by rw [hcl0]; exact hnm) f2 (by rw [hcl0]; exact f3)
      (fun i w hw => by
        rw [hcl0]
        have hk' : T.vm.classes[cA]? = some kA := hkA
        simpa [State.fitsSlot, State.slotType?, hk', hkind] using hfit i w hw)
      (g := F0 m pc ls (.ref b :: t)) rfl (by rw [hml]; exact hL.2.1) rfl (by rw [hb]; exact hd) (by show 1 ≤ ns_h k; exact hh1) (by show 2 * 0 + _ + 14 ≤ 35 * ns_h k; unfold ns_cat at hcat; omega) (by show _ ≤ ns_z r.2 - ns_z S0; omega) (by rw [hsz2, hv1]; show _ ≤ ns_s r.2 - ns_s S0; omega) (hloader := by rw [hcl0]; exact Vm.clonesLoader_of_array hkS hkindS)
    rw [hcellE, hsz2, hv1] at X'
    generalize hH1 : H.push (vp_cell cA v) = H1
    have y1 : H1.size = H.size + 1 := by rw [← hH1, Array.size_push]
    have y2 : H1[H.size]? = some (vp_cell cA v) := by rw [← hH1, Array.getElem?_push_size]
    have o1 : ∀ q : Nat, q < H.size → H1[q]? = H[q]? := fun q hq => by rw [← hH1, Array.getElem?_push, if_neg (Nat.ne_of_lt hq)]
    have hJ' : ns_J s D cI cJ cT S0 (nC S b) H1 locs := by
      refine ns_al (x := ns_ce cI cJ cT (nC S b) (ns_z S)) (kd := ns_k S b) hsz hJ ?_ y1 o1 rfl (by rw [e2]; omega) (fun q => nC_ns_k S b q) (by omega) (fun q => ?_)
      · rw [hce']
        show H1[ns_z S]? = some (vp_cell _ _)
        rw [← hJ.1]
        exact y2
      · by_cases g : q = ns_z S
        · subst g
          rw [va_up_self]
        · rw [va_up_ne _ _ g]
          exact ns_ce_congr (by rw [nC_ns_k, if_neg g]) (by rw [nC_ns_n, if_neg g]) (fun i => rfl) (fun i => rfl) (fun i => rfl) (by funext i; rw [nC_aI, if_neg g]) (by funext i; rw [nC_aJ, if_neg g]) (by funext i; rw [nC_aR, if_neg g])
    have hw := hg ls H1 locs hL hJ' ((T.setVm vm').pushCell (vp_cell cA v)) (by rw [← hH1, ← hT]; rfl)
    dsimp only at hw
    rw [e1, e2, show ns_z S + 1 - ns_z S0 = ns_z S - ns_z S0 + 1 by omega, show ns_s S + ns_n S b - ns_s S0 = ns_s S - ns_s S0 + ns_n S b by omega] at hw
    obtain ⟨t2, a1, b1⟩ := hw X'
    refine ⟨t2, stp t2 ?_, b1⟩
    rw [hcellE, hT, hJ.1]
    exact a1
  by_cases q1 : ns_o k = 1 ∧ j = 31
  · rw [if_pos q1] at h
    match st, h with
    | .ref b :: t, h =>
      have h : (if ns_k S b = 7 ∧ ns_cat t ≤ 8 then some (.inl (k, pc + 3, L, .ref (ns_z S) :: t, nC S b)) else none) = some a := h
      by_cases q : ns_k S b = 7 ∧ ns_cat t ≤ 8
      · rw [if_pos q] at h
        cases h
        obtain ⟨qo, rfl⟩ := q1
        refine cl "[J" b t 7 cJ (ns_n S b, .inr (.inl (aJ S b))) .long 1 qo rfl q.2 rfl q.1 (by decide) (ns_ce_J q.1) rfl ?_ rfl (hK.2 1 _ rfl).2 ?_ ns_cl_ok.1.1 ns_cl_ok.1.2.1 ns_cl_ok.1.2.2.2.2.1 hE.2.2.2.1
        · rw [ns_ce_J (by rw [nC_ns_k, if_pos rfl]; exact q.1), nC_ns_n, if_pos rfl]
          rw [show aJ (nC S b) (ns_z S) = aJ S b from by funext i; rw [nC_aJ, if_pos rfl]]
        · intro i w hw
          have : ∃ y, w = .long y := by
            rw [vp_cell_l] at hw
            have hi := (Array.getElem?_eq_some_iff.mp hw).1
            rw [arrV_size] at hi
            rw [arrV_read _ _ hi] at hw
            exact ⟨_, (Option.some.inj hw).symm⟩
          obtain ⟨y, rfl⟩ := this
          rfl
      · rw [if_neg q] at h
        cases h
  · rw [if_neg q1] at h
    by_cases q2 : ns_o k = 1 ∧ j = 36
    · rw [if_pos q2] at h
      match st, h with
      | .ref b :: t, h =>
        have h : (if ns_k S b = 8 ∧ ns_cat t ≤ 8 then some (.inl (k, pc + 3, L, .ref (ns_z S) :: t, nC S b)) else none) = some a := h
        by_cases q : ns_k S b = 8 ∧ ns_cat t ≤ 8
        · rw [if_pos q] at h
          cases h
          obtain ⟨qo, rfl⟩ := q2
          obtain ⟨kA', comp', k1, k2, k3, k4⟩ := (hK.2 2 _ rfl).2
          refine cl "[LNestShelf$Thing;" b t 8 cT (ns_n S b, .inr (.inr (.inr (.inr (aR S b))))) (.object "NestShelf$Thing") 2 qo rfl q.2 rfl q.1 (by decide) (ns_ce_R q.1) rfl ?_ rfl k4 ?_ ns_cl_ok.2.1 ns_cl_ok.2.2.1 ns_cl_ok.2.2.2.1 hE.2.2.2.2
          · rw [ns_ce_R (by rw [nC_ns_k, if_pos rfl]; exact q.1), nC_ns_n, if_pos rfl]
            rw [show aR (nC S b) (ns_z S) = aR S b from by funext i; rw [nC_aR, if_pos rfl]]
          · intro i w hw
            have : ∃ y, w = va_rf y := by
              rw [vp_cell_q] at hw
              have hi := (Array.getElem?_eq_some_iff.mp hw).1
              rw [arrV_size] at hi
              rw [arrV_read _ _ hi] at hw
              exact ⟨_, (Option.some.inj hw).symm⟩
            obtain ⟨y, rfl⟩ := this
            cases y <;> rfl
        · rw [if_neg q] at h
          cases h
    · rw [if_neg q2] at h
      split at h
      · rename_i k1 hl
        obtain ⟨w1, w2⟩ := ns_mt_ok _ (ns_lk_mem hl)
        dsimp only at w1 w2
        split at h
        · rename_i b t hdr
          by_cases q : ns_k S b = ns_o k1 + 1 ∧ ns_stt k1 = false ∧ ns_ini k1 = false
          · rw [if_pos q] at h
            obtain ⟨g1, g2, g3, r1, hM, hg, h1, h2, h3, h4, h5⟩ := ns_go_ok h hs
            intro ls H locs hL hJ
            obtain ⟨u1, u2⟩ := ns_st_split hdr
            obtain ⟨v1, v2, v3, v4⟩ := ns_sel_ok k1 w2
            have hci : ns_o k1 < 5 := ns_o_lt k1
            obtain ⟨x, hx1⟩ := ns_at (cI := cI) (cJ := cJ) (cT := cT) (S := S) (a := b) (by omega)
            rw [ns_ce_O q.1 hci] at hx1
            have hp := ns_pre hK hE hJ (.ref b :: (st.take (ns_pn k1)).reverse)
            have z5 := hJ.2.2.2.2.1
            have z6 := hJ.2.2.2.2.2
            refine ns_after hL hJ h1 h2 h3 (va_runV (As := (st.take (ns_pn k1)).reverse) (rest := t) (b := b) ⟨hx, hb, hml, hown, hts⟩ hM ⟨ns_cb (Rm := ns_rm k1 (ns_z r1.2 - ns_z S) (ns_s r1.2 - ns_s S)) hts w2 w1 g1 g2, hts _ (v2 q.2.1), hts _ (v3 q.2.1 q.2.2)⟩ ⟨hp.1, va_recv hK hJ.2.1 (ns_vw_ok (ns_o k1) hci) hx1, hp.2⟩ rfl (by rw [List.length_reverse]; exact u1) hL.2.1 (by rw [List.reverse_reverse]; exact u2) (lv_room g3) hd ⟨by show _ ≤ ns_z r.2 - ns_z S0; omega, by show _ ≤ ns_s r.2 - ns_s S0; omega⟩) hg
          · rw [if_neg q] at h
            cases h
        · cases h
      · cases h
theorem so_stat {j : Nat} (C0 : ns_C p s m args meth c D cI cJ cT k S0) (hd : decode (ns_c k) pc = .ok (.invokestatic j, 3)) (h : ns_I k pc L st S (.invokestatic j) = some a) (hs : ns_Sim p l e s m args below meth c D cI cJ cT k S0 r a) : ns_G p l e s m args below meth c D cI cJ cT k S0 r pc L st S := by
  obtain ⟨hk, hx, hb, hml, hr, hlk, hni, hown, hts, hK, hE, hsz⟩ := C0
  have h : ns_stat k pc L st S j = some a := h
  unfold ns_stat at h
  by_cases q1 : ns_o k = 3 ∧ j = 145
  · rw [if_pos q1] at h
    match st, h with
    | .int y :: .int x :: t, h =>
      have h : (if ns_cat t ≤ 8 then some (.inl (k, pc + 3, L, .int (if y < x then y else x) :: t, S)) else none) = some a := h
      by_cases q : ns_cat t ≤ 8
      · rw [if_pos q] at h
        cases h
        obtain ⟨qo, rfl⟩ := q1
        rw [qo] at hown
        obtain ⟨hg, hz, hsn⟩ := hs
        intro ls H locs hL hJ
        have z5 := hJ.2.2.2.2.1
        have z6 := hJ.2.2.2.2.2
        have hh1 : 1 ≤ ns_h k := ns_h_pos k hk
        dsimp only at hz hsn
        exact va_mmin hx hb (by rw [hml]; exact hL.2.1.symm) hown (hts _ ns_min_ok.1) (hts _ ns_min_ok.2.1) (hts _ ns_min_ok.2.2) (hts _ ns_minc_ok) (by show 1 ≤ ns_h k; exact hh1) (by show _ ≤ 35 * ns_h k; unfold ns_cat at q; omega) (by show _ ≤ ns_z r.2 - ns_z S0; omega) (by show _ ≤ ns_s r.2 - ns_s S0; omega) hd (hg ls H locs hL hJ)
      · rw [if_neg q] at h
        cases h
  · rw [if_neg q1] at h
    split at h
    · rename_i k1 hl
      obtain ⟨w1, w2⟩ := ns_mt_ok _ (ns_lk_mem hl)
      dsimp only at w1 w2
      by_cases q : ns_pn k1 ≤ st.length ∧ ns_stt k1 = true
      · rw [if_pos q] at h
        obtain ⟨g1, g2, g3, r1, hM, hg, h1, h2, h3, h4, h5⟩ := ns_go_ok h hs
        intro ls H locs hL hJ
        obtain ⟨v1, v2, v3, v4⟩ := ns_sel_ok k1 w2
        have z5 := hJ.2.2.2.2.1
        have z6 := hJ.2.2.2.2.2
        refine ns_after hL hJ h1 h2 h3 (va_runS (As := (st.take (ns_pn k1)).reverse) (rest := st.drop (ns_pn k1)) ⟨hx, hb, hml, hown, hts⟩ hM ⟨ns_cb (Rm := ns_rm k1 (ns_z r1.2 - ns_z S) (ns_s r1.2 - ns_s S)) hts w2 w1 g1 g2, hts _ (v1 q.2)⟩ (ns_pre hK hE hJ _) rfl (by rw [List.length_reverse, List.length_take]; omega) hL.2.1 (by rw [List.reverse_reverse]; exact (List.take_append_drop _ st).symm) (lv_room g3) hd ⟨by show _ ≤ ns_z r.2 - ns_z S0; omega, by show _ ≤ ns_s r.2 - ns_s S0; omega⟩) hg
      · rw [if_neg q] at h
        cases h
    · cases h
theorem so_spec {j : Nat} (C0 : ns_C p s m args meth c D cI cJ cT k S0) (hd : decode (ns_c k) pc = .ok (.invokespecial j, 3)) (h : ns_I k pc L st S (.invokespecial j) = some a) (hs : ns_Sim p l e s m args below meth c D cI cJ cT k S0 r a) : ns_G p l e s m args below meth c D cI cJ cT k S0 r pc L st S := by
  obtain ⟨hk, hx, hb, hml, hr, hlk, hni, hown, hts, hK, hE, hsz⟩ := C0
  have h : ns_spec k pc L st S j = some a := h
  unfold ns_spec at h
  split at h
  · rename_i u hl
    have w1 := ns_ot_ok _ (ns_lk_mem hl)
    match st, h with
    | .ref b :: t, h =>
      have h : (if ns_cat t ≤ 8 then some (.inl (k, pc + 3, L, t, S)) else none) = some a := h
      by_cases q : ns_cat t ≤ 8
      · rw [if_pos q] at h
        cases h
        intro ls H locs hL hJ
        have hh1 : 1 ≤ ns_h k := ns_h_pos k hk
        exact W.objInit hx hb hown (hts _ w1) (hts _ ns_oi_ok) (hts _ ns_oc_ok) rfl (by rw [hml]; exact hL.2.1) rfl hd (by show 1 ≤ ns_h k; exact hh1) (by show 2 * 0 + _ + 12 ≤ 35 * ns_h k; unfold ns_cat at q; omega) (hs.1 ls H locs hL hJ)
      · rw [if_neg q] at h
        cases h
  · split at h
    · rename_i k1 hl
      split at h
      · rename_i b t hdr
        by_cases q : ns_ini k1 = true
        · rw [if_pos q] at h
          obtain ⟨g1, g2, g3, r1, hM, hg, h1, h2, h3, h4, h5⟩ := ns_go_ok h hs
          intro ls H locs hL hJ
          obtain ⟨u1, u2⟩ := ns_st_split hdr
          have z5 := hJ.2.2.2.2.1
          have z6 := hJ.2.2.2.2.2
          have hp := ns_pre hK hE hJ (.ref b :: (st.take (ns_pn k1)).reverse)
          rcases List.mem_append.mp (ns_lk_mem hl) with hm | hm
          · obtain ⟨w1, w2⟩ := ns_mt_ok _ hm
            dsimp only at w1 w2
            obtain ⟨v1, v2, v3, v4⟩ := ns_sel_ok k1 w2
            have cb := ns_cb (k := k) (cn := ns_z r.2 - ns_z S0) (sn := ns_s r.2 - ns_s S0) (Rm := ns_rm k1 (ns_z r1.2 - ns_z S) (ns_s r1.2 - ns_s S)) hts w2 w1 g1 g2
            rw [(v4 q).2.2] at cb
            exact ns_after hL hJ h1 h2 h3 (va_runI (As := (st.take (ns_pn k1)).reverse) (rest := t) (b := b) ⟨hx, hb, hml, hown, hts⟩ hM ⟨cb, (v4 q).2.1, hts _ (v2 (v4 q).1)⟩ hp rfl (by rw [List.length_reverse]; exact u1) hL.2.1 (by rw [List.reverse_reverse]; exact u2) (lv_room g3) hd ⟨by show _ ≤ ns_z r.2 - ns_z S0; omega, by show _ ≤ ns_s r.2 - ns_s S0; omega⟩) hg
          · obtain ⟨w2, w1⟩ := ns_nt_ok hm hE
            obtain ⟨v1, v2, v3, v4⟩ := ns_sel_ok k1 w2
            obtain ⟨x1, x2, x3, x4⟩ := ns_kind_ok k1 w2
            have hw0 : ns_w k1 = Cond.code (ns_y k1) (ns_c k1) (ns_m k1) none :: ns_Gt := by
              unfold ns_w
              rw [(v4 q).2.2]
            exact ns_after hL hJ h1 h2 h3 (va_runIN (bytes := ns_c k1) (maxL := ns_m k1) (n := ns_pn k1) (As := (st.take (ns_pn k1)).reverse) (rest := t) (b := b) ⟨hx, hb, hml, hown, hts⟩ hM ⟨va_cnB (ns_pn k1) hts (ns_goodIn (fun _ h => h) w2) hw0 rfl rfl w1 (hts _ x1) x3 ⟨g1, by show 8 + (ns_m k1 + 11) + 35 * ns_h k1 ≤ 35 * ns_h k; omega⟩, (v4 q).2.1, hts _ (v2 (v4 q).1)⟩ hp rfl (by rw [List.length_reverse]; exact u1) hL.2.1 (by rw [List.reverse_reverse]; exact u2) (lv_room g3) hd ⟨by show _ ≤ ns_z r.2 - ns_z S0; omega, by show _ ≤ ns_s r.2 - ns_s S0; omega⟩) hg
        · rw [if_neg q] at h
          cases h
      · cases h
    · cases h
end NSS
end
section
/-! ===== what the machine computes, the JVM does ===== -/
def ns_le (S S' : ns_St) : Prop := ns_z S ≤ ns_z S' ∧ ns_s S ≤ ns_s S' ∧ ∀ b, ns_k S' b ≠ 0 → ns_A S b
theorem ns_le.rf (S : ns_St) : ns_le S S := ⟨Nat.le_refl _, Nat.le_refl _, fun _ h => Or.inl h⟩
theorem ns_le.tr {S S1 S2 : ns_St} (h : ns_le S S1) (h' : ns_le S1 S2) : ns_le S S2 := ⟨Nat.le_trans h.1 h'.1, Nat.le_trans h.2.1 h'.2.1, fun b g => (h'.2.2 b g).elim (fun q => h.2.2 b q) (fun q => Or.inr (Nat.le_trans h.1 q))⟩
theorem ns_le.same {S S' : ns_St} (h1 : ns_z S' = ns_z S) (h2 : ns_s S' = ns_s S) (h3 : ∀ b, ns_k S' b = ns_k S b) : ns_le S S' := ⟨by omega, by omega, fun b g => Or.inl (by rw [← h3]; exact g)⟩
theorem ns_le.new {S S' : ns_St} {kd : Nat} (h1 : ns_z S' = ns_z S + 1) (h2 : ns_s S ≤ ns_s S') (h3 : ∀ b, ns_k S' b = if b = ns_z S then kd else ns_k S b) : ns_le S S' := ⟨by omega, h2, fun b g => by
  rw [h3] at g
  by_cases e : b = ns_z S
  · exact Or.inr (by omega)
  · rw [if_neg e] at g
    exact Or.inl g⟩
def ns_okA (m : Nat) (S : ns_St) (a : ns_Act) : Prop := match a with
  | .inl y => y.1 = m ∧ ns_le S y.2.2.2.2
  | .inr (.inl r) => r.2 = S
  | .inr (.inr (y, kk)) => (∃ (k1 : Nat) (vs : List Value), k1 < 95 ∧ (ns_el vs).length ≤ ns_m k1 ∧ y = (k1, 0, ns_entry k1 vs, [], S)) ∧ ∀ v S', (kk v S').1 = m ∧ (kk v S').2.2.2.2 = S'
def ns_ok (m : Nat) (S : ns_St) (o : Option ns_Act) : Prop := ∀ a, o = some a → ns_okA m S a
theorem ns_ok_none (m : Nat) (S : ns_St) : ns_ok m S none := fun a h => by cases h
section NSO
variable {m pc : Nat} {L : List (Option Value)} {st : List Value} {S : ns_St}
theorem ns_ok_inl {y : ns_Cf} (h1 : y.1 = m) (h2 : y.2.2.2.2 = S) : ns_ok m S (some (.inl y)) := fun a h => by
  cases h
  exact ⟨h1, by rw [h2]; exact ns_le.rf S⟩
theorem ns_ok_le {y : ns_Cf} (h1 : y.1 = m) (h2 : ns_le S y.2.2.2.2) : ns_ok m S (some (.inl y)) := fun a h => by
  cases h
  exact ⟨h1, h2⟩
theorem ns_ok_ite {c : Prop} [Decidable c] {x y : Option ns_Act} (h1 : ns_ok m S x) (h2 : ns_ok m S y) : ns_ok m S (if c then x else y) := by
  by_cases h : c
  · rw [if_pos h]; exact h1
  · rw [if_neg h]; exact h2
theorem ok_to {off : Int} {r : List Value} : ns_ok m S (ns_to m pc L S off r) := ns_ok_ite (ns_ok_inl rfl rfl) (ns_ok_none m S)
theorem ok_push {n : Nat} {v : Value} : ns_ok m S (ns_push m pc L st S n v) := by
  unfold ns_push
  repeat' split
  all_goals first | exact ns_ok_inl rfl rfl | exact ns_ok_none m S | exact ok_to
theorem ok_ld {p : Value → Bool} {i n : Nat} : ns_ok m S (ns_ld m pc L st S p i n) := by
  unfold ns_ld
  repeat' split
  all_goals first | exact ns_ok_inl rfl rfl | exact ns_ok_none m S | exact ok_to
theorem ok_sto {p : Value → Bool} {i n : Nat} : ns_ok m S (ns_sto m pc L st S p i n) := by
  unfold ns_sto
  repeat' split
  all_goals first | exact ns_ok_inl rfl rfl | exact ns_ok_none m S | exact ok_to
theorem ok_sto2 {i n : Nat} : ns_ok m S (ns_sto2 m pc L st S i n) := by
  unfold ns_sto2
  repeat' split
  all_goals first | exact ns_ok_inl rfl rfl | exact ns_ok_none m S | exact ok_to
theorem ok_iinc {i : Nat} {n : Int} : ns_ok m S (ns_iinc m pc L st S i n) := by
  unfold ns_iinc
  repeat' split
  all_goals first | exact ns_ok_inl rfl rfl | exact ns_ok_none m S | exact ok_to
theorem ok_ii {f : Int32 → Int32 → Int32} : ns_ok m S (ns_ii m pc L st S f) := by
  unfold ns_ii
  repeat' split
  all_goals first | exact ns_ok_inl rfl rfl | exact ns_ok_none m S | exact ok_to
theorem ok_jj {f : Int64 → Int64 → Int64} : ns_ok m S (ns_jj m pc L st S f) := by
  unfold ns_jj
  repeat' split
  all_goals first | exact ns_ok_inl rfl rfl | exact ns_ok_none m S | exact ok_to
theorem ok_lcmp  : ns_ok m S (ns_lcmp m pc L st S) := by
  unfold ns_lcmp
  repeat' split
  all_goals first | exact ns_ok_inl rfl rfl | exact ns_ok_none m S | exact ok_to
theorem ok_i2l  : ns_ok m S (ns_i2l m pc L st S) := by
  unfold ns_i2l
  repeat' split
  all_goals first | exact ns_ok_inl rfl rfl | exact ns_ok_none m S | exact ok_to
theorem ok_l2i  : ns_ok m S (ns_l2i m pc L st S) := by
  unfold ns_l2i
  repeat' split
  all_goals first | exact ns_ok_inl rfl rfl | exact ns_ok_none m S | exact ok_to
theorem ok_i2c  : ns_ok m S (ns_i2c m pc L st S) := by
  unfold ns_i2c
  repeat' split
  all_goals first | exact ns_ok_inl rfl rfl | exact ns_ok_none m S | exact ok_to
theorem ok_dup  : ns_ok m S (ns_dup m pc L st S) := by
  unfold ns_dup
  repeat' split
  all_goals first | exact ns_ok_inl rfl rfl | exact ns_ok_none m S | exact ok_to
theorem ok_pop  : ns_ok m S (ns_pop m pc L st S) := by
  unfold ns_pop
  repeat' split
  all_goals first | exact ns_ok_inl rfl rfl | exact ns_ok_none m S | exact ok_to
theorem ok_dup2  : ns_ok m S (ns_dup2 m pc L st S) := by
  unfold ns_dup2
  repeat' split
  all_goals first | exact ns_ok_inl rfl rfl | exact ns_ok_none m S | exact ok_to
theorem ok_if1 {c : ClassFile.Cond} {off : Int} : ns_ok m S (ns_if1 m pc L st S c off) := by
  unfold ns_if1
  repeat' split
  all_goals first | exact ns_ok_inl rfl rfl | exact ns_ok_none m S | exact ok_to
theorem ok_if2 {c : ClassFile.Cond} {off : Int} : ns_ok m S (ns_if2 m pc L st S c off) := by
  unfold ns_if2
  repeat' split
  all_goals first | exact ns_ok_inl rfl rfl | exact ns_ok_none m S | exact ok_to
theorem ok_nul {b : Bool} {off : Int} : ns_ok m S (ns_nul m pc L st S b off) := by
  unfold ns_nul
  repeat' split
  all_goals first | exact ns_ok_inl rfl rfl | exact ns_ok_none m S | exact ok_to
theorem ok_acmp {c : ACond} {off : Int} : ns_ok m S (ns_acmp m pc L st S c off) := by
  unfold ns_acmp
  repeat' split
  all_goals first | exact ns_ok_inl rfl rfl | exact ns_ok_none m S | exact ok_to
theorem ok_sw {d lo hi : Int} {offs : Array Int} : ns_ok m S (ns_sw m pc L st S d lo hi offs) := by
  unfold ns_sw
  repeat' split
  all_goals first | exact ns_ok_inl rfl rfl | exact ns_ok_none m S | exact ok_to
theorem ok_get {i : Nat} : ns_ok m S (ns_get m pc L st S i) := by
  unfold ns_get
  repeat' split
  all_goals first | exact ns_ok_inl rfl rfl | exact ns_ok_none m S | exact ok_to
theorem ok_ldI  : ns_ok m S (ns_ldI m pc L st S) := by
  unfold ns_ldI
  repeat' split
  all_goals first | exact ns_ok_inl rfl rfl | exact ns_ok_none m S | exact ok_to
theorem ok_ldJ  : ns_ok m S (ns_ldJ m pc L st S) := by
  unfold ns_ldJ
  repeat' split
  all_goals first | exact ns_ok_inl rfl rfl | exact ns_ok_none m S | exact ok_to
theorem ok_ldR  : ns_ok m S (ns_ldR m pc L st S) := by
  unfold ns_ldR
  repeat' split
  all_goals first | exact ns_ok_inl rfl rfl | exact ns_ok_none m S | exact ok_to
theorem ok_len  : ns_ok m S (ns_len m pc L st S) := by
  unfold ns_len
  repeat' split
  all_goals first | exact ns_ok_inl rfl rfl | exact ns_ok_none m S | exact ok_to
theorem ok_cast {i : Nat} : ns_ok m S (ns_cast m pc L st S i) := by
  unfold ns_cast
  repeat' split
  all_goals first | exact ns_ok_inl rfl rfl | exact ns_ok_none m S | exact ok_to
theorem ok_stI : ns_ok m S (ns_stI m pc L st S) := by
  unfold ns_stI
  repeat' split
  all_goals first | exact ns_ok_none m S | exact ns_ok_le rfl (ns_le.same rfl rfl (fun _ => rfl))
theorem ok_stJ : ns_ok m S (ns_stJ m pc L st S) := by
  unfold ns_stJ
  repeat' split
  all_goals first | exact ns_ok_none m S | exact ns_ok_le rfl (ns_le.same rfl rfl (fun _ => rfl))
theorem ok_stR : ns_ok m S (ns_stR m pc L st S) := by
  unfold ns_stR
  repeat' split
  all_goals first | exact ns_ok_none m S | exact ns_ok_le rfl (ns_le.same rfl rfl (fun _ => rfl))
theorem ns_putv_le {ci f b : Nat} {v : Value} {S' : ns_St} (h : ns_putv S ci f b v = some S') : ns_le S S' := by
  unfold ns_putv at h
  repeat' split at h
  all_goals first | (cases h; exact ns_le.same rfl rfl (fun _ => rfl)) | cases h
theorem ok_put {i : Nat} : ns_ok m S (ns_put m pc L st S i) := by
  unfold ns_put
  split
  · split
    · refine ns_ok_ite ?_ (ns_ok_none m S)
      split
      · rename_i hv
        exact ns_ok_le rfl (ns_putv_le hv)
      · exact ns_ok_none m S
    · exact ns_ok_none m S
  · exact ns_ok_none m S
theorem ok_new {i : Nat} : ns_ok m S (ns_new m pc L st S i) := by
  unfold ns_new
  split
  · exact ns_ok_le rfl (ns_le.new rfl (by rw [nO_ns_s]; omega) (fun b => nO_ns_k S _ _ b))
  · exact ns_ok_none m S
theorem ok_newa {kd n : Nat} : ns_ok m S (ns_newa m pc L st S kd n) := by
  unfold ns_newa
  split
  · exact ns_ok_ite (ns_ok_le rfl (ns_le.new rfl (by rw [nA_ns_s]; omega) (fun b => nA_ns_k S _ _ b))) (ns_ok_none m S)
  · exact ns_ok_none m S
theorem ok_go {k1 : Nat} {vs r : List Value} (hk : k1 < 95) : ns_ok m S (ns_go m pc L S k1 vs r) := by
  unfold ns_go
  intro a h
  by_cases q : ns_h k1 + 1 ≤ ns_h m ∧ ns_m k1 ≤ 16 ∧ (ns_el vs).length ≤ ns_m k1 ∧ ns_cat r ≤ 8
  · rw [if_pos q] at h
    cases h
    exact ⟨⟨k1, vs, hk, q.2.2.1, rfl⟩, fun _ _ => ⟨rfl, rfl⟩⟩
  · rw [if_neg q] at h
    cases h
theorem ns_nt_lt : ∀ e ∈ ns_mt ++ ns_nt, e.2.2 < 95 := by decide +kernel
theorem ok_virt {i : Nat} : ns_ok m S (ns_virt m pc L st S i) := by
  unfold ns_virt
  have cl : ∀ (b : Nat) (r : List Value), ns_ok m S (some (.inl (m, pc + 3, L, .ref (ns_z S) :: r, nC S b))) := fun b r => ns_ok_le rfl (ns_le.new rfl (by rw [nC_ns_s]; omega) (fun q => nC_ns_k S b q))
  refine ns_ok_ite ?_ (ns_ok_ite ?_ ?_)
  · split
    · exact ns_ok_ite (cl _ _) (ns_ok_none m S)
    · exact ns_ok_none m S
  · split
    · exact ns_ok_ite (cl _ _) (ns_ok_none m S)
    · exact ns_ok_none m S
  · split
    · rename_i k1 hl
      split
      · exact ns_ok_ite (ok_go (ns_mt_ok _ (ns_lk_mem hl)).2) (ns_ok_none m S)
      · exact ns_ok_none m S
    · exact ns_ok_none m S
theorem ok_stat {i : Nat} : ns_ok m S (ns_stat m pc L st S i) := by
  unfold ns_stat
  refine ns_ok_ite ?_ ?_
  · split
    · exact ns_ok_ite (ns_ok_inl rfl rfl) (ns_ok_none m S)
    · exact ns_ok_none m S
  · split
    · rename_i k1 hl
      exact ns_ok_ite (ok_go (ns_mt_ok _ (ns_lk_mem hl)).2) (ns_ok_none m S)
    · exact ns_ok_none m S
theorem ok_spec {i : Nat} : ns_ok m S (ns_spec m pc L st S i) := by
  unfold ns_spec
  split
  · split
    · exact ns_ok_ite (ns_ok_inl rfl rfl) (ns_ok_none m S)
    · exact ns_ok_none m S
  · split
    · rename_i k1 hl
      split
      · exact ns_ok_ite (ok_go (ns_nt_lt _ (ns_lk_mem hl))) (ns_ok_none m S)
      · exact ns_ok_none m S
    · exact ns_ok_none m S
theorem ok_ret {n : Nat} : ns_ok m S (ns_ret m st S n) := by
  unfold ns_ret
  split
  · refine ns_ok_ite (fun a h => ?_) (ns_ok_none m S)
    cases h
    rfl
  · exact ns_ok_none m S
theorem ok_retv : ns_ok m S (ns_retv m st S) := by
  unfold ns_retv
  split
  · refine ns_ok_ite (fun a h => ?_) (ns_ok_none m S)
    cases h
    rfl
  · exact ns_ok_none m S
theorem ns_I_ok (i : Instr) : ns_ok m S (ns_I m pc L st S i) := by
  cases i with
  | iconst n => exact ok_push
  | bipush n => exact ok_push
  | sipush n => exact ok_push
  | lconst n => exact ok_push
  | aconst_null => exact ok_push
  | ldc j =>
    show ns_ok m S (match ns_lk (ns_o m) j ns_k1 with
      | some v => ns_push m pc L st S 2 (.int v)
      | none => none)
    split
    · exact ok_push
    · exact ns_ok_none m S
  | ldc2_w j =>
    show ns_ok m S (match ns_lk (ns_o m) j ns_k2 with
      | some v => ns_push m pc L st S 3 (.long v)
      | none => none)
    split
    · exact ok_push
    · exact ns_ok_none m S
  | iload_n j => exact ok_ld
  | iload j => exact ok_ld
  | lload_n j => exact ok_ld
  | lload j => exact ok_ld
  | aload_n j => exact ok_ld
  | aload j => exact ok_ld
  | istore_n j => exact ok_sto
  | istore j => exact ok_sto
  | astore_n j => exact ok_sto
  | astore j => exact ok_sto
  | lstore_n j => exact ok_sto2
  | lstore j => exact ok_sto2
  | iinc j n => exact ok_iinc
  | iadd => exact ok_ii
  | isub => exact ok_ii
  | ladd => exact ok_jj
  | lsub => exact ok_jj
  | lmul => exact ok_jj
  | land => exact ok_jj
  | lcmp => exact ok_lcmp
  | i2l => exact ok_i2l
  | l2i => exact ok_l2i
  | i2c => exact ok_i2c
  | dup => exact ok_dup
  | dup2 => exact ok_dup2
  | pop => exact ok_pop
  | goto off => exact ok_to
  | ifCond c off => exact ns_ok_ite ok_if1 (ns_ok_none m S)
  | if_icmp c off => exact ns_ok_ite ok_if2 (ns_ok_none m S)
  | ifnull off => exact ns_ok_ite ok_nul (ns_ok_none m S)
  | ifnonnull off => exact ns_ok_ite ok_nul (ns_ok_none m S)
  | if_acmp c off => exact ns_ok_ite ok_acmp (ns_ok_none m S)
  | tableswitch d lo hi offs => exact ok_sw
  | getfield j => exact ok_get
  | putfield j => exact ok_put
  | iaload => exact ok_ldI
  | laload => exact ok_ldJ
  | aaload => exact ok_ldR
  | iastore => exact ok_stI
  | lastore => exact ok_stJ
  | aastore => exact ok_stR
  | arraylength => exact ok_len
  | new j => exact ok_new
  | newarray t => cases t <;> first | exact ok_newa | exact ns_ok_none m S
  | anewarray j => exact ns_ok_ite ok_newa (ns_ok_none m S)
  | checkcast j => exact ok_cast
  | invokevirtual j => exact ok_virt
  | invokestatic j => exact ok_stat
  | invokespecial j => exact ok_spec
  | ireturn => exact ok_ret
  | lreturn => exact ok_ret
  | areturn => exact ok_ret
  | return_ => exact ok_retv
  | _ => exact ns_ok_none m S
end NSO
section NSS
variable {p : Program} {l : Launch} {e : Env} {s : State} {m : MethodId} {args : Array Value} {below : List Frame} {meth : Method} {c : Code} {D : va_G} {cI cJ cT : ClassId} {k : Nat} {S0 : ns_St} {r : ns_Rs}
theorem ns_step {pc n : Nat} {L : List (Option Value)} {st : List Value} {S : ns_St} {a : ns_Act} {i : Instr} (C0 : ns_C p s m args meth c D cI cJ cT k S0) (hd : decode (ns_c k) pc = .ok (i, n)) (hn : ns_ln i n = true) (h : ns_I k pc L st S i = some a) (hs : ns_Sim p l e s m args below meth c D cI cJ cT k S0 r a) : ns_G p l e s m args below meth c D cI cJ cT k S0 r pc L st S := by
  cases i with
  | iconst n9 =>
    have e : n = 1 := eq_of_beq hn
    subst e
    exact so_iconst C0 hd h hs
  | bipush n9 =>
    have e : n = 2 := eq_of_beq hn
    subst e
    exact so_bipush C0 hd h hs
  | sipush n9 =>
    have e : n = 3 := eq_of_beq hn
    subst e
    exact so_sipush C0 hd h hs
  | lconst n9 =>
    have e : n = 1 := eq_of_beq hn
    subst e
    exact so_lconst C0 hd h hs
  | aconst_null =>
    have e : n = 1 := eq_of_beq hn
    subst e
    exact so_null C0 hd h hs
  | ldc j =>
    have e : n = 2 := eq_of_beq hn
    subst e
    exact so_ldc C0 hd h hs
  | ldc2_w j =>
    have e : n = 3 := eq_of_beq hn
    subst e
    exact so_ldc2 C0 hd h hs
  | iload_n j =>
    have e : n = 1 := eq_of_beq hn
    subst e
    exact so_iload_n C0 hd h hs
  | iload j =>
    have e : n = 2 := eq_of_beq hn
    subst e
    exact so_iload C0 hd h hs
  | lload_n j =>
    have e : n = 1 := eq_of_beq hn
    subst e
    exact so_lload_n C0 hd h hs
  | lload j =>
    have e : n = 2 := eq_of_beq hn
    subst e
    exact so_lload C0 hd h hs
  | aload_n j =>
    have e : n = 1 := eq_of_beq hn
    subst e
    exact so_aload_n C0 hd h hs
  | aload j =>
    have e : n = 2 := eq_of_beq hn
    subst e
    exact so_aload C0 hd h hs
  | istore_n j =>
    have e : n = 1 := eq_of_beq hn
    subst e
    exact so_istore_n C0 hd h hs
  | istore j =>
    have e : n = 2 := eq_of_beq hn
    subst e
    exact so_istore C0 hd h hs
  | astore_n j =>
    have e : n = 1 := eq_of_beq hn
    subst e
    exact so_astore_n C0 hd h hs
  | astore j =>
    have e : n = 2 := eq_of_beq hn
    subst e
    exact so_astore C0 hd h hs
  | lstore_n j =>
    have e : n = 1 := eq_of_beq hn
    subst e
    exact so_lstore_n C0 hd h hs
  | lstore j =>
    have e : n = 2 := eq_of_beq hn
    subst e
    exact so_lstore C0 hd h hs
  | iinc j n9 =>
    have e : n = 3 := eq_of_beq hn
    subst e
    exact so_iinc C0 hd h hs
  | iadd =>
    have e : n = 1 := eq_of_beq hn
    subst e
    exact so_iadd C0 hd h hs
  | isub =>
    have e : n = 1 := eq_of_beq hn
    subst e
    exact so_isub C0 hd h hs
  | ladd =>
    have e : n = 1 := eq_of_beq hn
    subst e
    exact so_ladd C0 hd h hs
  | lsub =>
    have e : n = 1 := eq_of_beq hn
    subst e
    exact so_lsub C0 hd h hs
  | lmul =>
    have e : n = 1 := eq_of_beq hn
    subst e
    exact so_lmul C0 hd h hs
  | land =>
    have e : n = 1 := eq_of_beq hn
    subst e
    exact so_land C0 hd h hs
  | lcmp =>
    have e : n = 1 := eq_of_beq hn
    subst e
    exact so_lcmp C0 hd h hs
  | i2l =>
    have e : n = 1 := eq_of_beq hn
    subst e
    exact so_i2l C0 hd h hs
  | l2i =>
    have e : n = 1 := eq_of_beq hn
    subst e
    exact so_l2i C0 hd h hs
  | i2c =>
    have e : n = 1 := eq_of_beq hn
    subst e
    exact so_i2c C0 hd h hs
  | dup =>
    have e : n = 1 := eq_of_beq hn
    subst e
    exact so_dup C0 hd h hs
  | dup2 =>
    have e : n = 1 := eq_of_beq hn
    subst e
    exact so_dup2 C0 hd h hs
  | pop =>
    have e : n = 1 := eq_of_beq hn
    subst e
    exact so_pop C0 hd h hs
  | goto off =>
    have e : n = 3 := eq_of_beq hn
    subst e
    exact so_goto C0 hd h hs
  | ifCond c off =>
    have e : n = 3 := eq_of_beq hn
    subst e
    cases c with
    | eq => exact so_if_eq C0 hd h hs
    | ne => exact so_if_ne C0 hd h hs
    | lt => exact so_if_lt C0 hd h hs
    | ge => exact so_if_ge C0 hd h hs
    | gt => exact so_if_gt C0 hd h hs
    | le => exact so_if_le C0 hd h hs
  | if_icmp c off =>
    have e : n = 3 := eq_of_beq hn
    subst e
    cases c with
    | eq => exact so_icmp_eq C0 hd h hs
    | ne => exact so_icmp_ne C0 hd h hs
    | lt => exact so_icmp_lt C0 hd h hs
    | ge => exact so_icmp_ge C0 hd h hs
    | gt => exact so_icmp_gt C0 hd h hs
    | le => exact so_icmp_le C0 hd h hs
  | ifnull off =>
    have e : n = 3 := eq_of_beq hn
    subst e
    exact so_ifnull C0 hd h hs
  | ifnonnull off =>
    have e : n = 3 := eq_of_beq hn
    subst e
    exact so_ifnonnull C0 hd h hs
  | if_acmp c off =>
    have e : n = 3 := eq_of_beq hn
    subst e
    cases c with
    | eq => exact so_acmp_eq C0 hd h hs
    | ne => exact so_acmp_ne C0 hd h hs
  | tableswitch d lo hi offs => exact so_switch C0 hd h hs
  | getfield j =>
    have e : n = 3 := eq_of_beq hn
    subst e
    exact so_get C0 hd h hs
  | putfield j =>
    have e : n = 3 := eq_of_beq hn
    subst e
    exact so_put C0 hd h hs
  | iaload =>
    have e : n = 1 := eq_of_beq hn
    subst e
    exact so_ldI C0 hd h hs
  | laload =>
    have e : n = 1 := eq_of_beq hn
    subst e
    exact so_ldJ C0 hd h hs
  | aaload =>
    have e : n = 1 := eq_of_beq hn
    subst e
    exact so_ldR C0 hd h hs
  | iastore =>
    have e : n = 1 := eq_of_beq hn
    subst e
    exact so_stI C0 hd h hs
  | lastore =>
    have e : n = 1 := eq_of_beq hn
    subst e
    exact so_stJ C0 hd h hs
  | aastore =>
    have e : n = 1 := eq_of_beq hn
    subst e
    exact so_stR C0 hd h hs
  | arraylength =>
    have e : n = 1 := eq_of_beq hn
    subst e
    exact so_len C0 hd h hs
  | new j =>
    have e : n = 3 := eq_of_beq hn
    subst e
    exact so_new C0 hd h hs
  | newarray t =>
    have e : n = 2 := eq_of_beq hn
    subst e
    cases t with
    | int => exact so_newI C0 hd h hs
    | long => exact so_newJ C0 hd h hs
    | _ => cases h
  | anewarray j =>
    have e : n = 3 := eq_of_beq hn
    subst e
    exact so_newR C0 hd h hs
  | checkcast j =>
    have e : n = 3 := eq_of_beq hn
    subst e
    exact so_cast C0 hd h hs
  | invokevirtual j =>
    have e : n = 3 := eq_of_beq hn
    subst e
    exact so_virt C0 hd h hs
  | invokestatic j =>
    have e : n = 3 := eq_of_beq hn
    subst e
    exact so_stat C0 hd h hs
  | invokespecial j =>
    have e : n = 3 := eq_of_beq hn
    subst e
    exact so_spec C0 hd h hs
  | ireturn =>
    have e : n = 1 := eq_of_beq hn
    subst e
    exact so_iret C0 hd h hs
  | lreturn =>
    have e : n = 1 := eq_of_beq hn
    subst e
    exact so_lret C0 hd h hs
  | areturn =>
    have e : n = 1 := eq_of_beq hn
    subst e
    exact so_aret C0 hd h hs
  | return_ =>
    have e : n = 1 := eq_of_beq hn
    subst e
    exact so_vret C0 hd h hs
  | _ => cases h
theorem ns_act_I {x : ns_Cf} {a : ns_Act} (h : ns_act x = some a) : ∃ (i : Instr) (n : Nat), decode (ns_c x.1) x.2.1 = .ok (i, n) ∧ x.1 < 95 ∧ ns_ln i n = true ∧ ns_I x.1 x.2.1 x.2.2.1 x.2.2.2.1 x.2.2.2.2 i = some a := by
  unfold ns_act at h
  split at h
  · rename_i i n hd
    by_cases q : x.1 < 95 ∧ ns_ln i n = true
    · rw [if_pos q] at h
      exact ⟨i, n, hd, q.1, q.2, h⟩
    · rw [if_neg q] at h
      cases h
  · cases h
theorem ns_exe_le : ∀ (n : Nat) (x : ns_Cf) (r : ns_Rs), ns_exe n x = some r → ns_le x.2.2.2.2 r.2 := by
  intro n
  induction n with
  | zero => intro x r h; cases h
  | succ n ih =>
    intro x r h
    unfold ns_exe at h
    cases ha : ns_act x with
    | none => rw [ha] at h; cases h
    | some a =>
      rw [ha] at h
      obtain ⟨i, len, -, -, -, hI⟩ := ns_act_I ha
      have hok := ns_I_ok i a hI
      match a, h, hok with
      | .inl y, h, hok => exact hok.2.tr (ih y r h)
      | .inr (.inl r'), h, hok =>
        cases h
        have hok : r.2 = x.2.2.2.2 := hok
        rw [hok]
        exact ns_le.rf _
      | .inr (.inr (y, kk)), h, hok =>
        simp only at h
        obtain ⟨⟨k1, vs, h1, h2, h3⟩, h4⟩ := hok
        cases hy : ns_exe n y with
        | none => rw [hy] at h; cases h
        | some r1 =>
          rw [hy] at h
          have g1 := ih y r1 hy
          have g2 := ih _ r h
          rw [(h4 r1.1 r1.2).2] at g2
          rw [h3] at g1
          exact g1.tr g2
def ns_PN (l : Launch) (D : va_G) (cI cJ cT : ClassId) (n : Nat) : Prop := (∀ (p : Program) (e : Env) (s : State) (m : MethodId) (args : Array Value) (below : List Frame) (meth : Method) (c : Code) (k : Nat) (S0 : ns_St) (r : ns_Rs) (pc : Nat) (L : List (Option Value)) (st : List Value) (S : ns_St), ns_exe n (k, pc, L, st, S) = some r → ns_C p s m args meth c D cI cJ cT k S0 → ns_G p l e s m args below meth c D cI cJ cT k S0 r pc L st S)
theorem ns_met_of {n : Nat} (hP : ns_PN l D cI cJ cT n) (k : Nat) (vs : List Value) (S : ns_St) (r : ns_Rs) (hk : k < 95) (hlen : (ns_el vs).length ≤ ns_m k) (h : ns_exe n (k, 0, ns_entry k vs, [], S) = some r) : ns_Met l D cI cJ cT k vs S r := by
  obtain ⟨w1, w2, w3, w4⟩ := ns_kind_ok k hk
  obtain ⟨v1, v2, v3, v4⟩ := ns_sel_ok k hk
  refine Met.ofW (cc := ns_c k) (maxL := ns_m k) (ret := ns_r k) w4 rfl ?_
  intro p e s m args below meth c s₁ B hml hv
  obtain ⟨rfl, h1, h2, h3, h4⟩ := hv
  have hts := atoms_spec (ws := ns_w k) B.pre
  have hown : s.vm.findClass (ns_y k).cls = some m.cls := findClass_of_methodNamed B.named
  rw [w2] at hown
  have hC : ns_C p s m vs.toArray meth c D cI cJ cT k S := ⟨hk, B.exec, B.bytes, hml, B.returns, B.notSynchronized, fun q => (name_of_methodNamed B.named B.method).1.trans (v4 q).2.1, hown, fun w hw => hts w (List.mem_cons_of_mem _ hw), h3, h4, h1⟩
  have hg := hP p e s m vs.toArray below meth c k S r 0 (ns_entry k vs) [] S h hC _ s.heap [] (ns_entry_ok hlen) ⟨h1, h2, fun _ q => Or.inl q, va_S.rf, Nat.le_refl _, Nat.le_refl _⟩
  rw [Nat.sub_self, Nat.sub_self] at hg
  rw [lg_entry_eq]
  exact hg
theorem ns_all (n : Nat) : ns_PN l D cI cJ cT n := by
  induction n with
  | zero => intro p e s m args below meth c k S0 r pc L st S h; cases h
  | succ n ih =>
    intro p e s m args below meth c k S0 r pc L st S h hC
    unfold ns_exe at h
    cases ha : ns_act (k, pc, L, st, S) with
    | none => rw [ha] at h; cases h
    | some a =>
      rw [ha] at h
      obtain ⟨i, len, hd, hk, hn, hI⟩ := ns_act_I ha
      have hok := ns_I_ok i a hI
      refine ns_step hC hd hn hI ?_
      match a, h, hok with
      | .inl y, h, hok =>
        have hle := ns_exe_le n y r h
        obtain ⟨k', pc', L', st', S'⟩ := y
        have e : k' = k := hok.1
        subst e
        exact ⟨ih p e s m args below meth c k' S0 r pc' L' st' S' h hC, hle.1, hle.2.1⟩
      | .inr (.inl r'), h, hok =>
        exact Option.some.inj h
      | .inr (.inr (y, kk)), h, hok =>
        simp only at h
        obtain ⟨⟨k1, vs, h1, h2, h3⟩, h4⟩ := hok
        cases hy : ns_exe n y with
        | none => rw [hy] at h; cases h
        | some r1 =>
          rw [hy] at h
          have h : ns_exe n (kk r1.1 r1.2) = some r := h
          have g1 := ns_exe_le n y r1 hy
          have g2 := ns_exe_le n _ r h
          obtain ⟨e1, e2⟩ := h4 r1.1 r1.2
          subst h3
          refine ⟨r1, fun vs' e3 e4 => ?_, ?_, g1.2.2, g1.1, g1.2.1, by rw [← e2]; exact g2.1, by rw [← e2]; exact g2.2.1⟩
          · dsimp only at e3 e4 ⊢
            rw [e3] at hy
            exact ns_met_of ih k1 vs' S r1 h1 e4 hy
          · generalize hz : kk r1.1 r1.2 = z at h e1
            obtain ⟨k', pc', L', st', S'⟩ := z
            have e : k' = k := e1
            subst e
            exact ih p _ s m args below meth c k' S0 r pc' L' st' S' h hC
/-- THE BRIDGE: what the machine comes to, the method's contract says -/
theorem ns_bridge (l : Launch) (D : va_G) (cI cJ cT : ClassId) {k : Nat} {vs : List Value} {S : ns_St} {r : ns_Rs} (hk : k < 95) (hlen : (ns_el vs).length ≤ ns_m k) (h : Ev (k, 0, ns_entry k vs, [], S) r) : ns_Met l D cI cJ cT k vs S r := by
  obtain ⟨n, h⟩ := h
  exact ns_met_of (ns_all n) k vs S r hk hlen h
theorem Ev_le {x : ns_Cf} {r : ns_Rs} (h : Ev x r) : ns_le x.2.2.2.2 r.2 := by
  obtain ⟨n, h⟩ := h
  exact ns_exe_le n x r h
end NSS
end
