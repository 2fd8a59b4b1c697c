/-! ===== BEGIN words of one list among another's, by their places ===== -/
theorem goodIn_r {big : List Cond} (ws : List Cond) (ps : List Nat) (hp : ws = ps.filterMap (fun i => big[i]?)) (h : ws.all goodWord = true) : GoodIn big ws := by
  intro w hw
  have h1 := List.all_eq_true.mp h w hw
  rw [hp] at hw
  obtain ⟨i, -, hi⟩ := List.mem_filterMap.mp hw
  have hm : w ∈ big := by first | exact List.mem_of_getElem? hi | exact List.getElem?_mem hi
  exact ⟨hm, good_of_word h1⟩
theorem goodIn_app {big a b : List Cond} (ha : GoodIn big a) (hb : GoodIn big b) : GoodIn big (a ++ b) := fun w h => (List.mem_append.mp h).elim (ha w) (hb w)
theorem goodIn_ca {big a b : List Cond} {c : Cond} (ha : GoodIn big (c :: a)) (hb : GoodIn big b) : GoodIn big (c :: (a ++ b)) := fun w h => (List.mem_cons.mp h).elim (fun e => ha w (List.mem_cons.mpr (Or.inl e))) (fun h => (List.mem_append.mp h).elim (fun h => ha w (List.mem_cons.mpr (Or.inr h))) (hb w))
theorem goodIn_sub {big ws : List Cond} (hm : ∀ w ∈ ws, w ∈ big) (h : ws.all goodWord = true) : GoodIn big ws := fun w hw => ⟨hm w hw, good_of_word (List.all_eq_true.mp h w hw)⟩
/-! ===== END ===== -/

/-! ===== BEGIN printed: names, fields, word lists, decode rows ===== -/
def RX0 : String := "FootNotes$Faith"
def TX0 : u_T := fun k => match k with
  | 0 => ("FootNotes$Faith", "full", "I", false)
  | 1 => ("FootNotes$Faith", "facts", "I", false)
  | 2 => ("FootNotes$Faith", "notes", "I", false)
  | 3 => ("FootNotes$Faith", "from", "[I", true)
  | 4 => ("FootNotes$Faith", "to", "[I", true)
  | 5 => ("FootNotes$Faith", "wanted", "[I", true)
  | 6 => ("FootNotes$Faith", "found", "I", false)
  | 7 => ("FootNotes$Faith", "largest", "I", false)
  | 8 => ("FootNotes$Faith", "inAll", "I", false)
  | 9 => ("FootNotes$Faith", "inNone", "I", false)
  | 10 => ("FootNotes$Faith", "fewestDropped", "I", false)
  | _ => ("FootNotes$Faith", "loosestSet", "I", false)
def tyX0 : Nat → FieldType := fun k => match k with
  | 0 => .int
  | 1 => .int
  | 2 => .int
  | 3 => .array .int
  | 4 => .array .int
  | 5 => .array .int
  | 6 => .int
  | 7 => .int
  | 8 => .int
  | 9 => .int
  | 10 => .int
  | _ => .int
abbrev wsX00 : List Cond := u_ws RX0 TX0 12
theorem nmX0 : ∀ a, a < 12 → ∀ b, b < 12 → a ≠ b → (TX0 a).2.1 ≠ (TX0 b).2.1 := by decide +kernel
theorem tyX0_ok : ∀ k, k < 12 → parseFieldDescriptor (TX0 k).2.2.1 = some (tyX0 k) := by decide +kernel
abbrev cX0_init : ByteArray := prog_2_method_1_code
def yX0_init : MethodName := ⟨RX0, "<init>", "()V"⟩
abbrev cX0_take : ByteArray := prog_2_method_2_code
def yX0_take : MethodName := ⟨RX0, "take", "(LFootNotes$Text;LFootNotes$Web;)V"⟩
abbrev cX0_canHold : ByteArray := prog_2_method_3_code
def yX0_canHold : MethodName := ⟨RX0, "canHold", "(I)Z"⟩
abbrev cX0_broken : ByteArray := prog_2_method_4_code
def yX0_broken : MethodName := ⟨RX0, "broken", "(II)I"⟩
abbrev cX0_searchWays : ByteArray := prog_2_method_5_code
def yX0_searchWays : MethodName := ⟨RX0, "searchWays", "()V"⟩
abbrev cX0_searchLoosest : ByteArray := prog_2_method_6_code
def yX0_searchLoosest : MethodName := ⟨RX0, "searchLoosest", "(I)V"⟩
def RX1 : String := "FootNotes$Ledger"
def TX1 : u_T := fun k => match k with
  | 0 => ("FootNotes$Ledger", "purse", "[I", true)
  | 1 => ("FootNotes$Ledger", "parts", "[I", true)
  | 2 => ("FootNotes$Ledger", "share", "[I", true)
  | _ => ("FootNotes$Ledger", "gain", "[I", true)
def tyX1 : Nat → FieldType := fun k => match k with
  | 0 => .array .int
  | 1 => .array .int
  | 2 => .array .int
  | _ => .array .int
abbrev wsX10 : List Cond := u_ws RX1 TX1 4
theorem nmX1 : ∀ a, a < 4 → ∀ b, b < 4 → a ≠ b → (TX1 a).2.1 ≠ (TX1 b).2.1 := by decide +kernel
theorem tyX1_ok : ∀ k, k < 4 → parseFieldDescriptor (TX1 k).2.2.1 = some (tyX1 k) := by decide +kernel
abbrev cX1_init : ByteArray := prog_3_method_1_code
def yX1_init : MethodName := ⟨RX1, "<init>", "()V"⟩
abbrev cX1_open : ByteArray := prog_3_method_2_code
def yX1_open : MethodName := ⟨RX1, "open", "(LFootNotes$Text;LFootNotes$Web;)V"⟩
abbrev cX1_runRounds : ByteArray := prog_3_method_3_code
def yX1_runRounds : MethodName := ⟨RX1, "runRounds", "(LFootNotes$Text;LFootNotes$Web;I)V"⟩
abbrev cX1_roundChanges : ByteArray := prog_3_method_4_code
def yX1_roundChanges : MethodName := ⟨RX1, "roundChanges", "(LFootNotes$Text;LFootNotes$Web;)Z"⟩
def RX2 : String := "FootNotes$Precedence"
def TX2 : u_T := fun k => match k with
  | 0 => ("FootNotes$Precedence", "books", "I", false)
  | 1 => ("FootNotes$Precedence", "sent", "[I", true)
  | 2 => ("FootNotes$Precedence", "tried", "[I", true)
  | 3 => ("FootNotes$Precedence", "best", "[I", true)
  | 4 => ("FootNotes$Precedence", "fewest", "I", false)
  | _ => ("FootNotes$Precedence", "found", "I", false)
def tyX2 : Nat → FieldType := fun k => match k with
  | 0 => .int
  | 1 => .array .int
  | 2 => .array .int
  | 3 => .array .int
  | 4 => .int
  | _ => .int
abbrev wsX20 : List Cond := u_ws RX2 TX2 6
theorem nmX2 : ∀ a, a < 6 → ∀ b, b < 6 → a ≠ b → (TX2 a).2.1 ≠ (TX2 b).2.1 := by decide +kernel
theorem tyX2_ok : ∀ k, k < 6 → parseFieldDescriptor (TX2 k).2.2.1 = some (tyX2 k) := by decide +kernel
abbrev cX2_init : ByteArray := prog_4_method_1_code
def yX2_init : MethodName := ⟨RX2, "<init>", "()V"⟩
abbrev cX2_search : ByteArray := prog_4_method_2_code
def yX2_search : MethodName := ⟨RX2, "search", "(LFootNotes$Text;LFootNotes$Web;)V"⟩
abbrev cX2_tally : ByteArray := prog_4_method_3_code
def yX2_tally : MethodName := ⟨RX2, "tally", "(LFootNotes$Text;LFootNotes$Web;)V"⟩
abbrev cX2_weighTried : ByteArray := prog_4_method_4_code
def yX2_weighTried : MethodName := ⟨RX2, "weighTried", "()V"⟩
abbrev cX2_moveToNextOrder : ByteArray := prog_4_method_5_code
def yX2_moveToNextOrder : MethodName := ⟨RX2, "moveToNextOrder", "()Z"⟩
abbrev cX2_swap : ByteArray := prog_4_method_6_code
def yX2_swap : MethodName := ⟨RX2, "swap", "(II)V"⟩
def RX3 : String := "FootNotes$Reader"
def TX3 : u_T := fun k => match k with
  | 0 => ("FootNotes$Reader", "tape", "LFootNotes$Tape;", true)
  | 1 => ("FootNotes$Reader", "told", "LFootNotes$Text;", true)
  | 2 => ("FootNotes$Reader", "fault", "I", false)
  | _ => ("FootNotes$Reader", "faultPlace", "I", false)
def tyX3 : Nat → FieldType := fun k => match k with
  | 0 => .object "FootNotes$Tape"
  | 1 => .object "FootNotes$Text"
  | 2 => .int
  | _ => .int
abbrev wsX30 : List Cond := u_ws RX3 TX3 4
theorem nmX3 : ∀ a, a < 4 → ∀ b, b < 4 → a ≠ b → (TX3 a).2.1 ≠ (TX3 b).2.1 := by decide +kernel
theorem tyX3_ok : ∀ k, k < 4 → parseFieldDescriptor (TX3 k).2.2.1 = some (tyX3 k) := by decide +kernel
abbrev cX3_init : ByteArray := prog_5_method_1_code
def yX3_init : MethodName := ⟨RX3, "<init>", "()V"⟩
abbrev cX3_readLines : ByteArray := prog_5_method_2_code
def yX3_readLines : MethodName := ⟨RX3, "readLines", "()V"⟩
abbrev cX3_readLine : ByteArray := prog_5_method_3_code
def yX3_readLine : MethodName := ⟨RX3, "readLine", "()V"⟩
abbrev cX3_readTown : ByteArray := prog_5_method_4_code
def yX3_readTown : MethodName := ⟨RX3, "readTown", "()V"⟩
abbrev cX3_readBook : ByteArray := prog_5_method_5_code
def yX3_readBook : MethodName := ⟨RX3, "readBook", "()V"⟩
abbrev cX3_readNote : ByteArray := prog_5_method_6_code
def yX3_readNote : MethodName := ⟨RX3, "readNote", "()V"⟩
abbrev cX3_takeNewMember : ByteArray := prog_5_method_7_code
def yX3_takeNewMember : MethodName := ⟨RX3, "takeNewMember", "(II)I"⟩
abbrev cX3_takeWord : ByteArray := prog_5_method_8_code
def yX3_takeWord : MethodName := ⟨RX3, "takeWord", "(Ljava/lang/String;)V"⟩
abbrev cX3_takeSign : ByteArray := prog_5_method_9_code
def yX3_takeSign : MethodName := ⟨RX3, "takeSign", "()V"⟩
abbrev cX3_takeNumber : ByteArray := prog_5_method_10_code
def yX3_takeNumber : MethodName := ⟨RX3, "takeNumber", "(II)I"⟩
abbrev cX3_blame : ByteArray := prog_5_method_11_code
def yX3_blame : MethodName := ⟨RX3, "blame", "(II)V"⟩
def RX4 : String := "FootNotes$Row"
def TX4 : u_T := fun k => match k with
  | 0 => ("FootNotes$Row", "present", "Z", false)
  | 1 => ("FootNotes$Row", "width", "I", false)
  | 2 => ("FootNotes$Row", "size", "I", false)
  | _ => ("FootNotes$Row", "numbers", "[J", true)
def tyX4 : Nat → FieldType := fun k => match k with
  | 0 => .boolean
  | 1 => .int
  | 2 => .int
  | _ => .array .long
abbrev wsX40 : List Cond := u_ws RX4 TX4 4
theorem nmX4 : ∀ a, a < 4 → ∀ b, b < 4 → a ≠ b → (TX4 a).2.1 ≠ (TX4 b).2.1 := by decide +kernel
theorem tyX4_ok : ∀ k, k < 4 → parseFieldDescriptor (TX4 k).2.2.1 = some (tyX4 k) := by decide +kernel
abbrev cX4_init : ByteArray := prog_6_method_1_code
def yX4_init : MethodName := ⟨RX4, "<init>", "()V"⟩
abbrev cX4_begin : ByteArray := prog_6_method_2_code
def yX4_begin : MethodName := ⟨RX4, "begin", "(II)V"⟩
abbrev cX4_cutToWidth : ByteArray := prog_6_method_3_code
def yX4_cutToWidth : MethodName := ⟨RX4, "cutToWidth", "(J)J"⟩
abbrev cX4_spans : ByteArray := prog_6_method_4_code
def yX4_spans : MethodName := ⟨RX4, "spans", "(II)Z"⟩
def RX5 : String := "FootNotes$Shelf"
def TX5 : u_T := fun k => match k with
  | 0 => ("FootNotes$Shelf", "acts", "I", false)
  | 1 => ("FootNotes$Shelf", "leafCount", "[I", true)
  | 2 => ("FootNotes$Shelf", "content", "[I", true)
  | 3 => ("FootNotes$Shelf", "says", "[I", true)
  | 4 => ("FootNotes$Shelf", "actKind", "[I", true)
  | 5 => ("FootNotes$Shelf", "actOn", "[I", true)
  | 6 => ("FootNotes$Shelf", "actLeaf", "[I", true)
  | _ => ("FootNotes$Shelf", "actWas", "[I", true)
def tyX5 : Nat → FieldType := fun k => match k with
  | 0 => .int
  | 1 => .array .int
  | 2 => .array .int
  | 3 => .array .int
  | 4 => .array .int
  | 5 => .array .int
  | 6 => .array .int
  | _ => .array .int
abbrev wsX50 : List Cond := u_ws RX5 TX5 8
theorem nmX5 : ∀ a, a < 8 → ∀ b, b < 8 → a ≠ b → (TX5 a).2.1 ≠ (TX5 b).2.1 := by decide +kernel
theorem tyX5_ok : ∀ k, k < 8 → parseFieldDescriptor (TX5 k).2.2.1 = some (tyX5 k) := by decide +kernel
abbrev cX5_init : ByteArray := prog_7_method_1_code
def yX5_init : MethodName := ⟨RX5, "<init>", "()V"⟩
abbrev cX5_lay : ByteArray := prog_7_method_2_code
def yX5_lay : MethodName := ⟨RX5, "lay", "(LFootNotes$Text;)V"⟩
abbrev cX5_copyFrom : ByteArray := prog_7_method_3_code
def yX5_copyFrom : MethodName := ⟨RX5, "copyFrom", "(LFootNotes$Shelf;)V"⟩
abbrev cX5_onLeaf : ByteArray := prog_7_method_4_code
def yX5_onLeaf : MethodName := ⟨RX5, "onLeaf", "(II)I"⟩
abbrev cX5_putBlank : ByteArray := prog_7_method_5_code
def yX5_putBlank : MethodName := ⟨RX5, "putBlank", "(II)V"⟩
abbrev cX5_tearOut : ByteArray := prog_7_method_6_code
def yX5_tearOut : MethodName := ⟨RX5, "tearOut", "(II)V"⟩
abbrev cX5_reprint : ByteArray := prog_7_method_7_code
def yX5_reprint : MethodName := ⟨RX5, "reprint", "(II)V"⟩
abbrev cX5_remember : ByteArray := prog_7_method_8_code
def yX5_remember : MethodName := ⟨RX5, "remember", "(IIII)V"⟩
abbrev cX5_takeBack : ByteArray := prog_7_method_9_code
def yX5_takeBack : MethodName := ⟨RX5, "takeBack", "()V"⟩
abbrev cX5_takeOutLeaf : ByteArray := prog_7_method_10_code
def yX5_takeOutLeaf : MethodName := ⟨RX5, "takeOutLeaf", "(II)V"⟩
def RX6 : String := "FootNotes$Tape"
def TX6 : u_T := fun k => match k with
  | 0 => ("FootNotes$Tape", "size", "I", false)
  | 1 => ("FootNotes$Tape", "bytes", "[B", true)
  | 2 => ("FootNotes$Tape", "kind", "I", false)
  | 3 => ("FootNotes$Tape", "start", "I", false)
  | _ => ("FootNotes$Tape", "stop", "I", false)
def tyX6 : Nat → FieldType := fun k => match k with
  | 0 => .int
  | 1 => .array .byte
  | 2 => .int
  | 3 => .int
  | _ => .int
abbrev wsX60 : List Cond := u_ws RX6 TX6 5
theorem nmX6 : ∀ a, a < 5 → ∀ b, b < 5 → a ≠ b → (TX6 a).2.1 ≠ (TX6 b).2.1 := by decide +kernel
theorem tyX6_ok : ∀ k, k < 5 → parseFieldDescriptor (TX6 k).2.2.1 = some (tyX6 k) := by decide +kernel
abbrev cX6_init : ByteArray := prog_8_method_1_code
def yX6_init : MethodName := ⟨RX6, "<init>", "()V"⟩
abbrev cX6_put : ByteArray := prog_8_method_2_code
def yX6_put : MethodName := ⟨RX6, "put", "(I)V"⟩
abbrev cX6_goToFirstToken : ByteArray := prog_8_method_3_code
def yX6_goToFirstToken : MethodName := ⟨RX6, "goToFirstToken", "()V"⟩
abbrev cX6_moveOn : ByteArray := prog_8_method_4_code
def yX6_moveOn : MethodName := ⟨RX6, "moveOn", "()V"⟩
abbrev cX6_kindOf : ByteArray := prog_8_method_5_code
def yX6_kindOf : MethodName := ⟨RX6, "kindOf", "(B)I"⟩
abbrev cX6_isWord : ByteArray := prog_8_method_6_code
def yX6_isWord : MethodName := ⟨RX6, "isWord", "(Ljava/lang/String;)Z"⟩
abbrev cX6_valueOfDigits : ByteArray := prog_8_method_7_code
def yX6_valueOfDigits : MethodName := ⟨RX6, "valueOfDigits", "()I"⟩
def RX7 : String := "FootNotes$Text"
def TX7 : u_T := fun k => match k with
  | 0 => ("FootNotes$Text", "lines", "I", false)
  | 1 => ("FootNotes$Text", "opens", "I", false)
  | 2 => ("FootNotes$Text", "odds", "I", false)
  | 3 => ("FootNotes$Text", "books", "I", false)
  | 4 => ("FootNotes$Text", "pages", "I", false)
  | 5 => ("FootNotes$Text", "notes", "I", false)
  | 6 => ("FootNotes$Text", "facts", "I", false)
  | 7 => ("FootNotes$Text", "dead", "I", false)
  | 8 => ("FootNotes$Text", "denials", "I", false)
  | 9 => ("FootNotes$Text", "scholar", "[I", true)
  | 10 => ("FootNotes$Text", "firstPage", "[I", true)
  | 11 => ("FootNotes$Text", "bookOf", "[I", true)
  | 12 => ("FootNotes$Text", "notePage", "[I", true)
  | 13 => ("FootNotes$Text", "noteBook", "[I", true)
  | _ => ("FootNotes$Text", "noteLeaf", "[I", true)
def tyX7 : Nat → FieldType := fun k => match k with
  | 0 => .int
  | 1 => .int
  | 2 => .int
  | 3 => .int
  | 4 => .int
  | 5 => .int
  | 6 => .int
  | 7 => .int
  | 8 => .int
  | 9 => .array .int
  | 10 => .array .int
  | 11 => .array .int
  | 12 => .array .int
  | 13 => .array .int
  | _ => .array .int
abbrev wsX70 : List Cond := u_ws RX7 TX7 15
theorem nmX7 : ∀ a, a < 15 → ∀ b, b < 15 → a ≠ b → (TX7 a).2.1 ≠ (TX7 b).2.1 := by decide +kernel
theorem tyX7_ok : ∀ k, k < 15 → parseFieldDescriptor (TX7 k).2.2.1 = some (tyX7 k) := by decide +kernel
abbrev cX7_init : ByteArray := prog_9_method_1_code
def yX7_init : MethodName := ⟨RX7, "<init>", "()V"⟩
abbrev cX7_clear : ByteArray := prog_9_method_2_code
def yX7_clear : MethodName := ⟨RX7, "clear", "()V"⟩
abbrev cX7_copyFrom : ByteArray := prog_9_method_3_code
def yX7_copyFrom : MethodName := ⟨RX7, "copyFrom", "(LFootNotes$Text;)V"⟩
abbrev cX7_addBook : ByteArray := prog_9_method_4_code
def yX7_addBook : MethodName := ⟨RX7, "addBook", "(II)V"⟩
abbrev cX7_addNote : ByteArray := prog_9_method_5_code
def yX7_addNote : MethodName := ⟨RX7, "addNote", "(IIIZ)V"⟩
abbrev cX7_hasPage : ByteArray := prog_9_method_6_code
def yX7_hasPage : MethodName := ⟨RX7, "hasPage", "(I)Z"⟩
abbrev cX7_hasBook : ByteArray := prog_9_method_7_code
def yX7_hasBook : MethodName := ⟨RX7, "hasBook", "(I)Z"⟩
abbrev cX7_hasNote : ByteArray := prog_9_method_8_code
def yX7_hasNote : MethodName := ⟨RX7, "hasNote", "(I)Z"⟩
abbrev cX7_pagesIn : ByteArray := prog_9_method_9_code
def yX7_pagesIn : MethodName := ⟨RX7, "pagesIn", "(I)I"⟩
abbrev cX7_scholarOf : ByteArray := prog_9_method_10_code
def yX7_scholarOf : MethodName := ⟨RX7, "scholarOf", "(I)I"⟩
abbrev cX7_notesOn : ByteArray := prog_9_method_11_code
def yX7_notesOn : MethodName := ⟨RX7, "notesOn", "(I)I"⟩
abbrev cX7_targetAtFirst : ByteArray := prog_9_method_12_code
def yX7_targetAtFirst : MethodName := ⟨RX7, "targetAtFirst", "(I)I"⟩
def RX8 : String := "FootNotes$Tour"
def TX8 : u_T := fun k => match k with
  | 0 => ("FootNotes$Tour", "turns", "LFootNotes$Turns;", true)
  | 1 => ("FootNotes$Tour", "size", "I", false)
  | 2 => ("FootNotes$Tour", "stop", "[I", true)
  | _ => ("FootNotes$Tour", "left", "[I", true)
def tyX8 : Nat → FieldType := fun k => match k with
  | 0 => .object "FootNotes$Turns"
  | 1 => .int
  | 2 => .array .int
  | _ => .array .int
abbrev wsX80 : List Cond := u_ws RX8 TX8 4
theorem nmX8 : ∀ a, a < 4 → ∀ b, b < 4 → a ≠ b → (TX8 a).2.1 ≠ (TX8 b).2.1 := by decide +kernel
theorem tyX8_ok : ∀ k, k < 4 → parseFieldDescriptor (TX8 k).2.2.1 = some (tyX8 k) := by decide +kernel
abbrev cX8_init : ByteArray := prog_10_method_1_code
def yX8_init : MethodName := ⟨RX8, "<init>", "()V"⟩
abbrev cX8_begin : ByteArray := prog_10_method_2_code
def yX8_begin : MethodName := ⟨RX8, "begin", "(I)V"⟩
abbrev cX8_addStop : ByteArray := prog_10_method_3_code
def yX8_addStop : MethodName := ⟨RX8, "addStop", "(I)V"⟩
abbrev cX8_all : ByteArray := prog_10_method_4_code
def yX8_all : MethodName := ⟨RX8, "all", "()I"⟩
abbrev cX8_plan : ByteArray := prog_10_method_5_code
def yX8_plan : MethodName := ⟨RX8, "plan", "()V"⟩
abbrev cX8_fewestFrom : ByteArray := prog_10_method_6_code
def yX8_fewestFrom : MethodName := ⟨RX8, "fewestFrom", "(II)I"⟩
abbrev cX8_costBy : ByteArray := prog_10_method_7_code
def yX8_costBy : MethodName := ⟨RX8, "costBy", "(III)I"⟩
abbrev cX8_fewestFor : ByteArray := prog_10_method_8_code
def yX8_fewestFor : MethodName := ⟨RX8, "fewestFor", "(I)I"⟩
abbrev cX8_stopAt : ByteArray := prog_10_method_9_code
def yX8_stopAt : MethodName := ⟨RX8, "stopAt", "(I)I"⟩
abbrev cX8_bestNext : ByteArray := prog_10_method_10_code
def yX8_bestNext : MethodName := ⟨RX8, "bestNext", "(II)I"⟩
abbrev cX8_longerOf : ByteArray := prog_10_method_11_code
def yX8_longerOf : MethodName := ⟨RX8, "longerOf", "(I)I"⟩
abbrev cX8_fairestSet : ByteArray := prog_10_method_12_code
def yX8_fairestSet : MethodName := ⟨RX8, "fairestSet", "()I"⟩
def RX9 : String := "FootNotes$Turns"
def TX9 : u_T := fun k => match k with
  | 0 => ("FootNotes$Turns", "opens", "I", false)
  | 1 => ("FootNotes$Turns", "fromDoors", "[I", true)
  | 2 => ("FootNotes$Turns", "fromPage", "[I", true)
  | 3 => ("FootNotes$Turns", "queue", "[I", true)
  | 4 => ("FootNotes$Turns", "queued", "I", false)
  | _ => ("FootNotes$Turns", "far", "[I", true)
def tyX9 : Nat → FieldType := fun k => match k with
  | 0 => .int
  | 1 => .array .int
  | 2 => .array .int
  | 3 => .array .int
  | 4 => .int
  | _ => .array .int
abbrev wsX90 : List Cond := u_ws RX9 TX9 6
theorem nmX9 : ∀ a, a < 6 → ∀ b, b < 6 → a ≠ b → (TX9 a).2.1 ≠ (TX9 b).2.1 := by decide +kernel
theorem tyX9_ok : ∀ k, k < 6 → parseFieldDescriptor (TX9 k).2.2.1 = some (tyX9 k) := by decide +kernel
abbrev cX9_init : ByteArray := prog_11_method_1_code
def yX9_init : MethodName := ⟨RX9, "<init>", "()V"⟩
abbrev cX9_measureFromDoors : ByteArray := prog_11_method_2_code
def yX9_measureFromDoors : MethodName := ⟨RX9, "measureFromDoors", "(LFootNotes$Text;LFootNotes$Shelf;LFootNotes$Web;)V"⟩
abbrev cX9_measureFrom : ByteArray := prog_11_method_3_code
def yX9_measureFrom : MethodName := ⟨RX9, "measureFrom", "(ILFootNotes$Shelf;LFootNotes$Web;)V"⟩
abbrev cX9_between : ByteArray := prog_11_method_4_code
def yX9_between : MethodName := ⟨RX9, "between", "(II)I"⟩
abbrev cX9_spread : ByteArray := prog_11_method_5_code
def yX9_spread : MethodName := ⟨RX9, "spread", "([ILFootNotes$Shelf;LFootNotes$Web;)V"⟩
abbrev cX9_followNotes : ByteArray := prog_11_method_6_code
def yX9_followNotes : MethodName := ⟨RX9, "followNotes", "([ILFootNotes$Web;II)V"⟩
abbrev cX9_arrive : ByteArray := prog_11_method_7_code
def yX9_arrive : MethodName := ⟨RX9, "arrive", "([III)V"⟩
def RX10 : String := "FootNotes$Web"
def TX10 : u_T := fun k => match k with
  | 0 => ("FootNotes$Web", "pages", "I", false)
  | 1 => ("FootNotes$Web", "standingFacts", "I", false)
  | 2 => ("FootNotes$Web", "place", "[I", true)
  | 3 => ("FootNotes$Web", "target", "[I", true)
  | 4 => ("FootNotes$Web", "next", "[I", true)
  | 5 => ("FootNotes$Web", "steps", "[I", true)
  | _ => ("FootNotes$Web", "reached", "I", false)
def tyX10 : Nat → FieldType := fun k => match k with
  | 0 => .int
  | 1 => .int
  | 2 => .array .int
  | 3 => .array .int
  | 4 => .array .int
  | 5 => .array .int
  | _ => .int
abbrev wsX100 : List Cond := u_ws RX10 TX10 7
theorem nmX10 : ∀ a, a < 7 → ∀ b, b < 7 → a ≠ b → (TX10 a).2.1 ≠ (TX10 b).2.1 := by decide +kernel
theorem tyX10_ok : ∀ k, k < 7 → parseFieldDescriptor (TX10 k).2.2.1 = some (tyX10 k) := by decide +kernel
abbrev cX10_init : ByteArray := prog_12_method_1_code
def yX10_init : MethodName := ⟨RX10, "<init>", "()V"⟩
abbrev cX10_weave : ByteArray := prog_12_method_2_code
def yX10_weave : MethodName := ⟨RX10, "weave", "(LFootNotes$Text;LFootNotes$Shelf;I)V"⟩
abbrev cX10_locatePages : ByteArray := prog_12_method_3_code
def yX10_locatePages : MethodName := ⟨RX10, "locatePages", "(LFootNotes$Text;LFootNotes$Shelf;)V"⟩
abbrev cX10_isTorn : ByteArray := prog_12_method_4_code
def yX10_isTorn : MethodName := ⟨RX10, "isTorn", "(I)Z"⟩
abbrev cX10_walkFrom : ByteArray := prog_12_method_5_code
def yX10_walkFrom : MethodName := ⟨RX10, "walkFrom", "(I)V"⟩
abbrev cX10_reachedFrom : ByteArray := prog_12_method_6_code
def yX10_reachedFrom : MethodName := ⟨RX10, "reachedFrom", "(I)I"⟩
abbrev cX10_stepsBetween : ByteArray := prog_12_method_7_code
def yX10_stepsBetween : MethodName := ⟨RX10, "stepsBetween", "(II)I"⟩
abbrev cX10_farthestFrom : ByteArray := prog_12_method_8_code
def yX10_farthestFrom : MethodName := ⟨RX10, "farthestFrom", "(I)I"⟩
abbrev cX10_wayLength : ByteArray := prog_12_method_9_code
def yX10_wayLength : MethodName := ⟨RX10, "wayLength", "(I)I"⟩
abbrev cX10_nextOnWay : ByteArray := prog_12_method_10_code
def yX10_nextOnWay : MethodName := ⟨RX10, "nextOnWay", "(II)I"⟩
abbrev cX10_groundedWithout : ByteArray := prog_12_method_11_code
def yX10_groundedWithout : MethodName := ⟨RX10, "groundedWithout", "(I)I"⟩
abbrev cX10_lossBy : ByteArray := prog_12_method_12_code
def yX10_lossBy : MethodName := ⟨RX10, "lossBy", "(I)I"⟩
abbrev cX10_leastCut : ByteArray := prog_12_method_13_code
def yX10_leastCut : MethodName := ⟨RX10, "leastCut", "(I)I"⟩
def RX11 : String := "FootNotes"
def TX11 : u_T := fun k => match k with
  | 0 => ("FootNotes", "reader", "LFootNotes$Reader;", true)
  | 1 => ("FootNotes", "text", "LFootNotes$Text;", true)
  | 2 => ("FootNotes", "shelf", "LFootNotes$Shelf;", true)
  | 3 => ("FootNotes", "imageTexts", "[LFootNotes$Text;", true)
  | 4 => ("FootNotes", "imageShelves", "[LFootNotes$Shelf;", true)
  | 5 => ("FootNotes", "imageKept", "[Z", true)
  | 6 => ("FootNotes", "rows", "[LFootNotes$Row;", true)
  | 7 => ("FootNotes", "web", "LFootNotes$Web;", true)
  | 8 => ("FootNotes", "shakenWeb", "LFootNotes$Web;", true)
  | 9 => ("FootNotes", "faith", "LFootNotes$Faith;", true)
  | 10 => ("FootNotes", "tour", "LFootNotes$Tour;", true)
  | 11 => ("FootNotes", "precedence", "LFootNotes$Precedence;", true)
  | _ => ("FootNotes", "ledger", "LFootNotes$Ledger;", true)
def tyX11 : Nat → FieldType := fun k => match k with
  | 0 => .object "FootNotes$Reader"
  | 1 => .object "FootNotes$Text"
  | 2 => .object "FootNotes$Shelf"
  | 3 => .array (.object "FootNotes$Text")
  | 4 => .array (.object "FootNotes$Shelf")
  | 5 => .array .boolean
  | 6 => .array (.object "FootNotes$Row")
  | 7 => .object "FootNotes$Web"
  | 8 => .object "FootNotes$Web"
  | 9 => .object "FootNotes$Faith"
  | 10 => .object "FootNotes$Tour"
  | 11 => .object "FootNotes$Precedence"
  | _ => .object "FootNotes$Ledger"
abbrev wsX110 : List Cond := u_ws RX11 TX11 13
theorem nmX11 : ∀ a, a < 13 → ∀ b, b < 13 → a ≠ b → (TX11 a).2.1 ≠ (TX11 b).2.1 := by decide +kernel
theorem tyX11_ok : ∀ k, k < 13 → parseFieldDescriptor (TX11 k).2.2.1 = some (tyX11 k) := by decide +kernel
abbrev cX11_init : ByteArray := prog_1_method_1_code
def yX11_init : MethodName := ⟨RX11, "<init>", "()V"⟩
abbrev cX11_feed : ByteArray := prog_1_method_2_code
def yX11_feed : MethodName := ⟨RX11, "feed", "(IIIII)I"⟩
abbrev cX11_end : ByteArray := prog_1_method_3_code
def yX11_end : MethodName := ⟨RX11, "end", "(I)I"⟩
abbrev cX11_town : ByteArray := prog_1_method_4_code
def yX11_town : MethodName := ⟨RX11, "town", "()I"⟩
abbrev cX11_fault : ByteArray := prog_1_method_5_code
def yX11_fault : MethodName := ⟨RX11, "fault", "(I)I"⟩
abbrev cX11_settle : ByteArray := prog_1_method_6_code
def yX11_settle : MethodName := ⟨RX11, "settle", "()V"⟩
abbrev cX11_noTown : ByteArray := prog_1_method_7_code
def yX11_noTown : MethodName := ⟨RX11, "noTown", "()Z"⟩
abbrev cX11_bit : ByteArray := prog_1_method_8_code
def yX11_bit : MethodName := ⟨RX11, "bit", "(Z)I"⟩
abbrev cX11_page : ByteArray := prog_1_method_9_code
def yX11_page : MethodName := ⟨RX11, "page", "(II)I"⟩
abbrev cX11_book : ByteArray := prog_1_method_10_code
def yX11_book : MethodName := ⟨RX11, "book", "(II)I"⟩
abbrev cX11_leaf : ByteArray := prog_1_method_11_code
def yX11_leaf : MethodName := ⟨RX11, "leaf", "(II)I"⟩
abbrev cX11_note : ByteArray := prog_1_method_12_code
def yX11_note : MethodName := ⟨RX11, "note", "(II)I"⟩
abbrev cX11_leads : ByteArray := prog_1_method_13_code
def yX11_leads : MethodName := ⟨RX11, "leads", "(I)I"⟩
abbrev cX11_meant : ByteArray := prog_1_method_14_code
def yX11_meant : MethodName := ⟨RX11, "meant", "(I)I"⟩
abbrev cX11_astray : ByteArray := prog_1_method_15_code
def yX11_astray : MethodName := ⟨RX11, "astray", "()I"⟩
abbrev cX11_edition : ByteArray := prog_1_method_16_code
def yX11_edition : MethodName := ⟨RX11, "edition", "(II)I"⟩
abbrev cX11_tear : ByteArray := prog_1_method_17_code
def yX11_tear : MethodName := ⟨RX11, "tear", "(II)I"⟩
abbrev cX11_misprint : ByteArray := prog_1_method_18_code
def yX11_misprint : MethodName := ⟨RX11, "misprint", "(II)I"⟩
abbrev cX11_undo : ByteArray := prog_1_method_19_code
def yX11_undo : MethodName := ⟨RX11, "undo", "()I"⟩
abbrev cX11_anew : ByteArray := prog_1_method_20_code
def yX11_anew : MethodName := ⟨RX11, "anew", "()I"⟩
abbrev cX11_reach : ByteArray := prog_1_method_21_code
def yX11_reach : MethodName := ⟨RX11, "reach", "(I)I"⟩
abbrev cX11_upon : ByteArray := prog_1_method_22_code
def yX11_upon : MethodName := ⟨RX11, "upon", "(I)I"⟩
abbrev cX11_rings : ByteArray := prog_1_method_23_code
def yX11_rings : MethodName := ⟨RX11, "rings", "()I"⟩
abbrev cX11_round : ByteArray := prog_1_method_24_code
def yX11_round : MethodName := ⟨RX11, "round", "(I)I"⟩
abbrev cX11_ring : ByteArray := prog_1_method_25_code
def yX11_ring : MethodName := ⟨RX11, "ring", "(I)I"⟩
abbrev cX11_way : ByteArray := prog_1_method_26_code
def yX11_way : MethodName := ⟨RX11, "way", "(I)I"⟩
abbrev cX11_step : ByteArray := prog_1_method_27_code
def yX11_step : MethodName := ⟨RX11, "step", "(II)I"⟩
abbrev cX11_depth : ByteArray := prog_1_method_28_code
def yX11_depth : MethodName := ⟨RX11, "depth", "(I)I"⟩
abbrev cX11_deepest : ByteArray := prog_1_method_29_code
def yX11_deepest : MethodName := ⟨RX11, "deepest", "()I"⟩
abbrev cX11_grounded : ByteArray := prog_1_method_30_code
def yX11_grounded : MethodName := ⟨RX11, "grounded", "()I"⟩
abbrev cX11_needs : ByteArray := prog_1_method_31_code
def yX11_needs : MethodName := ⟨RX11, "needs", "(I)I"⟩
abbrev cX11_loss : ByteArray := prog_1_method_32_code
def yX11_loss : MethodName := ⟨RX11, "loss", "(I)I"⟩
abbrev cX11_key : ByteArray := prog_1_method_33_code
def yX11_key : MethodName := ⟨RX11, "key", "()I"⟩
abbrev cX11_cut : ByteArray := prog_1_method_34_code
def yX11_cut : MethodName := ⟨RX11, "cut", "(I)I"⟩
abbrev cX11_torn : ByteArray := prog_1_method_35_code
def yX11_torn : MethodName := ⟨RX11, "torn", "(I)I"⟩
abbrev cX11_noSet : ByteArray := prog_1_method_36_code
def yX11_noSet : MethodName := ⟨RX11, "noSet", "(I)Z"⟩
abbrev cX11_holds : ByteArray := prog_1_method_37_code
def yX11_holds : MethodName := ⟨RX11, "holds", "(I)I"⟩
abbrev cX11_ways : ByteArray := prog_1_method_38_code
def yX11_ways : MethodName := ⟨RX11, "ways", "()I"⟩
abbrev cX11_most : ByteArray := prog_1_method_39_code
def yX11_most : MethodName := ⟨RX11, "most", "()I"⟩
abbrev cX11_mostly : ByteArray := prog_1_method_40_code
def yX11_mostly : MethodName := ⟨RX11, "mostly", "()I"⟩
abbrev cX11_sure : ByteArray := prog_1_method_41_code
def yX11_sure : MethodName := ⟨RX11, "sure", "(I)I"⟩
abbrev cX11_loose : ByteArray := prog_1_method_42_code
def yX11_loose : MethodName := ⟨RX11, "loose", "(I)I"⟩
abbrev cX11_loosely : ByteArray := prog_1_method_43_code
def yX11_loosely : MethodName := ⟨RX11, "loosely", "(I)I"⟩
abbrev cX11_leaves : ByteArray := prog_1_method_44_code
def yX11_leaves : MethodName := ⟨RX11, "leaves", "(II)I"⟩
abbrev cX11_reads : ByteArray := prog_1_method_45_code
def yX11_reads : MethodName := ⟨RX11, "reads", "(II)I"⟩
abbrev cX11_order : ByteArray := prog_1_method_46_code
def yX11_order : MethodName := ⟨RX11, "order", "(III)I"⟩
abbrev cX11_shares : ByteArray := prog_1_method_47_code
def yX11_shares : MethodName := ⟨RX11, "shares", "(II)I"⟩
abbrev cX11_first : ByteArray := prog_1_method_48_code
def yX11_first : MethodName := ⟨RX11, "first", "(II)I"⟩
abbrev cX11_tripTrouble : ByteArray := prog_1_method_49_code
def yX11_tripTrouble : MethodName := ⟨RX11, "tripTrouble", "(II)I"⟩
abbrev cX11_planTrip : ByteArray := prog_1_method_50_code
def yX11_planTrip : MethodName := ⟨RX11, "planTrip", "(LFootNotes$Row;I)V"⟩
abbrev cX11_sends : ByteArray := prog_1_method_51_code
def yX11_sends : MethodName := ⟨RX11, "sends", "()I"⟩
abbrev cX11_orders : ByteArray := prog_1_method_52_code
def yX11_orders : MethodName := ⟨RX11, "orders", "()I"⟩
abbrev cX11_earliest : ByteArray := prog_1_method_53_code
def yX11_earliest : MethodName := ⟨RX11, "earliest", "(I)I"⟩
abbrev cX11_noRounds : ByteArray := prog_1_method_54_code
def yX11_noRounds : MethodName := ⟨RX11, "noRounds", "(I)Z"⟩
abbrev cX11_worth : ByteArray := prog_1_method_55_code
def yX11_worth : MethodName := ⟨RX11, "worth", "(II)I"⟩
abbrev cX11_rest : ByteArray := prog_1_method_56_code
def yX11_rest : MethodName := ⟨RX11, "rest", "()I"⟩
abbrev cX11_saint : ByteArray := prog_1_method_57_code
def yX11_saint : MethodName := ⟨RX11, "saint", "(I)I"⟩
abbrev cX11_noPair : ByteArray := prog_1_method_58_code
def yX11_noPair : MethodName := ⟨RX11, "noPair", "(II)Z"⟩
abbrev cX11_meets : ByteArray := prog_1_method_59_code
def yX11_meets : MethodName := ⟨RX11, "meets", "(II)I"⟩
abbrev cX11_nearest : ByteArray := prog_1_method_60_code
def yX11_nearest : MethodName := ⟨RX11, "nearest", "(II)I"⟩
abbrev cX11_third : ByteArray := prog_1_method_61_code
def yX11_third : MethodName := ⟨RX11, "third", "(II)I"⟩
abbrev cX11_stepsTogether : ByteArray := prog_1_method_62_code
def yX11_stepsTogether : MethodName := ⟨RX11, "stepsTogether", "(III)I"⟩
abbrev cX11_noScholar : ByteArray := prog_1_method_63_code
def yX11_noScholar : MethodName := ⟨RX11, "noScholar", "(I)Z"⟩
abbrev cX11_cited : ByteArray := prog_1_method_64_code
def yX11_cited : MethodName := ⟨RX11, "cited", "(I)I"⟩
abbrev cX11_leadsTo : ByteArray := prog_1_method_65_code
def yX11_leadsTo : MethodName := ⟨RX11, "leadsTo", "(I)I"⟩
abbrev cX11_leadsBetween : ByteArray := prog_1_method_66_code
def yX11_leadsBetween : MethodName := ⟨RX11, "leadsBetween", "(II)I"⟩
abbrev cX11_famous : ByteArray := prog_1_method_67_code
def yX11_famous : MethodName := ⟨RX11, "famous", "(I)I"⟩
abbrev cX11_quotes : ByteArray := prog_1_method_68_code
def yX11_quotes : MethodName := ⟨RX11, "quotes", "(II)I"⟩
abbrev cX11_noSeed : ByteArray := prog_1_method_69_code
def yX11_noSeed : MethodName := ⟨RX11, "noSeed", "(I)Z"⟩
abbrev cX11_drawn : ByteArray := prog_1_method_70_code
def yX11_drawn : MethodName := ⟨RX11, "drawn", "(I)I"⟩
abbrev cX11_drawMisprints : ByteArray := prog_1_method_71_code
def yX11_drawMisprints : MethodName := ⟨RX11, "drawMisprints", "(J)I"⟩
abbrev cX11_groundedByDraw : ByteArray := prog_1_method_72_code
def yX11_groundedByDraw : MethodName := ⟨RX11, "groundedByDraw", "(J)I"⟩
abbrev cX11_shaken : ByteArray := prog_1_method_73_code
def yX11_shaken : MethodName := ⟨RX11, "shaken", "(I)I"⟩
abbrev cX11_years : ByteArray := prog_1_method_74_code
def yX11_years : MethodName := ⟨RX11, "years", "(III)I"⟩
abbrev cX11_count : ByteArray := prog_1_method_75_code
def yX11_count : MethodName := ⟨RX11, "count", "(I)I"⟩
abbrev cX11_rowsPresent : ByteArray := prog_1_method_76_code
def yX11_rowsPresent : MethodName := ⟨RX11, "rowsPresent", "()I"⟩
abbrev cX11_noImage : ByteArray := prog_1_method_77_code
def yX11_noImage : MethodName := ⟨RX11, "noImage", "(I)Z"⟩
abbrev cX11_image : ByteArray := prog_1_method_78_code
def yX11_image : MethodName := ⟨RX11, "image", "(I)I"⟩
abbrev cX11_back : ByteArray := prog_1_method_79_code
def yX11_back : MethodName := ⟨RX11, "back", "(I)I"⟩
abbrev cX11_noSlot : ByteArray := prog_1_method_80_code
def yX11_noSlot : MethodName := ⟨RX11, "noSlot", "(I)Z"⟩
abbrev cX11_row : ByteArray := prog_1_method_81_code
def yX11_row : MethodName := ⟨RX11, "row", "(III)I"⟩
abbrev cX11_write : ByteArray := prog_1_method_82_code
def yX11_write : MethodName := ⟨RX11, "write", "(IIJ)I"⟩
abbrev cX11_paste : ByteArray := prog_1_method_83_code
def yX11_paste : MethodName := ⟨RX11, "paste", "(IIIII)I"⟩
def RX12 : String := "FootNotesModel"
def TX12 : u_T := fun k => match k with
  | 0 => ("FootNotesModel", "thrown", "I", false)
  | 1 => ("FootNotesModel", "width", "[I", true)
  | 2 => ("FootNotesModel", "many", "[I", true)
  | 3 => ("FootNotesModel", "cells", "[J", true)
  | 4 => ("FootNotesModel", "moved", "[J", true)
  | 5 => ("FootNotesModel", "tape", "[B", true)
  | 6 => ("FootNotesModel", "taped", "I", false)
  | 7 => ("FootNotesModel", "at", "I", false)
  | 8 => ("FootNotesModel", "token", "I", false)
  | 9 => ("FootNotesModel", "place", "I", false)
  | 10 => ("FootNotesModel", "value", "I", false)
  | 11 => ("FootNotesModel", "word", "J", false)
  | 12 => ("FootNotesModel", "bad", "I", false)
  | 13 => ("FootNotesModel", "badPlace", "I", false)
  | 14 => ("FootNotesModel", "fault", "I", false)
  | 15 => ("FootNotesModel", "faultPlace", "I", false)
  | 16 => ("FootNotesModel", "lines", "[I", true)
  | 17 => ("FootNotesModel", "has", "[I", true)
  | 18 => ("FootNotesModel", "book", "[I", true)
  | 19 => ("FootNotesModel", "bookOf", "[I", true)
  | 20 => ("FootNotesModel", "note", "[I", true)
  | 21 => ("FootNotesModel", "act", "[I", true)
  | 22 => ("FootNotesModel", "isKept", "[Z", true)
  | 23 => ("FootNotesModel", "leaf", "[I", true)
  | 24 => ("FootNotesModel", "many0", "[I", true)
  | 25 => ("FootNotesModel", "says", "[I", true)
  | 26 => ("FootNotesModel", "leads", "[I", true)
  | 27 => ("FootNotesModel", "leafOf", "[I", true)
  | 28 => ("FootNotesModel", "outs", "[I", true)
  | 29 => ("FootNotesModel", "atFirst", "[I", true)
  | 30 => ("FootNotesModel", "far", "[I", true)
  | 31 => ("FootNotesModel", "queue", "[I", true)
  | 32 => ("FootNotesModel", "wayMany", "I", false)
  | 33 => ("FootNotesModel", "wayMost", "I", false)
  | 34 => ("FootNotesModel", "wayAll", "I", false)
  | 35 => ("FootNotesModel", "waySome", "I", false)
  | 36 => ("FootNotesModel", "turns", "[I", true)
  | 37 => ("FootNotesModel", "between", "[I", true)
  | 38 => ("FootNotesModel", "read", "[I", true)
  | 39 => ("FootNotesModel", "sharedBest", "I", false)
  | 40 => ("FootNotesModel", "sharedSet", "I", false)
  | 41 => ("FootNotesModel", "order", "[I", true)
  | 42 => ("FootNotesModel", "best", "[I", true)
  | 43 => ("FootNotesModel", "sendsLeast", "I", false)
  | 44 => ("FootNotesModel", "orderMany", "I", false)
  | 45 => ("FootNotesModel", "worth", "[I", true)
  | 46 => ("FootNotesModel", "worthThen", "[I", true)
  | 47 => ("FootNotesModel", "farOther", "[I", true)
  | 48 => ("FootNotesModel", "meetSet", "I", false)
  | 49 => ("FootNotesModel", "meetLeast", "I", false)
  | _ => ("FootNotesModel", "meetPage", "I", false)
def tyX12 : Nat → FieldType := fun k => match k with
  | 0 => .int
  | 1 => .array .int
  | 2 => .array .int
  | 3 => .array .long
  | 4 => .array .long
  | 5 => .array .byte
  | 6 => .int
  | 7 => .int
  | 8 => .int
  | 9 => .int
  | 10 => .int
  | 11 => .long
  | 12 => .int
  | 13 => .int
  | 14 => .int
  | 15 => .int
  | 16 => .array .int
  | 17 => .array .int
  | 18 => .array .int
  | 19 => .array .int
  | 20 => .array .int
  | 21 => .array .int
  | 22 => .array .boolean
  | 23 => .array .int
  | 24 => .array .int
  | 25 => .array .int
  | 26 => .array .int
  | 27 => .array .int
  | 28 => .array .int
  | 29 => .array .int
  | 30 => .array .int
  | 31 => .array .int
  | 32 => .int
  | 33 => .int
  | 34 => .int
  | 35 => .int
  | 36 => .array .int
  | 37 => .array .int
  | 38 => .array .int
  | 39 => .int
  | 40 => .int
  | 41 => .array .int
  | 42 => .array .int
  | 43 => .int
  | 44 => .int
  | 45 => .array .int
  | 46 => .array .int
  | 47 => .array .int
  | 48 => .int
  | 49 => .int
  | _ => .int
abbrev wsX120 : List Cond := u_ws RX12 TX12 51
theorem nmX12 : ∀ a, a < 51 → ∀ b, b < 51 → a ≠ b → (TX12 a).2.1 ≠ (TX12 b).2.1 := by decide +kernel
theorem tyX12_ok : ∀ k, k < 51 → parseFieldDescriptor (TX12 k).2.2.1 = some (tyX12 k) := by decide +kernel
abbrev cX12_init : ByteArray := prog_14_method_1_code
def yX12_init : MethodName := ⟨RX12, "<init>", "()V"⟩
abbrev cX12_in : ByteArray := prog_14_method_3_code
def yX12_in : MethodName := ⟨RX12, "in", "(JJJ)Z"⟩
abbrev cX12_isSlot : ByteArray := prog_14_method_4_code
def yX12_isSlot : MethodName := ⟨RX12, "isSlot", "(I)Z"⟩
abbrev cX12_row : ByteArray := prog_14_method_5_code
def yX12_row : MethodName := ⟨RX12, "row", "(III)I"⟩
abbrev cX12_cut : ByteArray := prog_14_method_6_code
def yX12_cut : MethodName := ⟨RX12, "cut", "(JI)J"⟩
abbrev cX12_write : ByteArray := prog_14_method_7_code
def yX12_write : MethodName := ⟨RX12, "write", "(IIJ)I"⟩
abbrev cX12_paste : ByteArray := prog_14_method_8_code
def yX12_paste : MethodName := ⟨RX12, "paste", "(IIIII)I"⟩
abbrev cX12_feed : ByteArray := prog_14_method_9_code
def yX12_feed : MethodName := ⟨RX12, "feed", "(IIIII)I"⟩
abbrev cX12_four : ByteArray := prog_14_method_10_code
def yX12_four : MethodName := ⟨RX12, "four", "(I)V"⟩
abbrev cX12_end : ByteArray := prog_14_method_11_code
def yX12_end : MethodName := ⟨RX12, "end", "(I)I"⟩
abbrev cX12_isByte : ByteArray := prog_14_method_12_code
def yX12_isByte : MethodName := ⟨RX12, "isByte", "(III)Z"⟩
abbrev cX12_next : ByteArray := prog_14_method_13_code
def yX12_next : MethodName := ⟨RX12, "next", "()V"⟩
abbrev cX12_isGood : ByteArray := prog_14_method_14_code
def yX12_isGood : MethodName := ⟨RX12, "isGood", "()Z"⟩
abbrev cX12_fails : ByteArray := prog_14_method_15_code
def yX12_fails : MethodName := ⟨RX12, "fails", "(I)V"⟩
abbrev cX12_is : ByteArray := prog_14_method_16_code
def yX12_is : MethodName := ⟨RX12, "is", "(J)Z"⟩
abbrev cX12_takes : ByteArray := prog_14_method_17_code
def yX12_takes : MethodName := ⟨RX12, "takes", "(J)Z"⟩
abbrev cX12_asks : ByteArray := prog_14_method_18_code
def yX12_asks : MethodName := ⟨RX12, "asks", "(J)V"⟩
abbrev cX12_number : ByteArray := prog_14_method_19_code
def yX12_number : MethodName := ⟨RX12, "number", "(II)I"⟩
abbrev cX12_number_ : ByteArray := prog_14_method_20_code
def yX12_number_ : MethodName := ⟨RX12, "number", "(JII)I"⟩
abbrev cX12_ends : ByteArray := prog_14_method_21_code
def yX12_ends : MethodName := ⟨RX12, "ends", "()V"⟩
abbrev cX12_begins : ByteArray := prog_14_method_22_code
def yX12_begins : MethodName := ⟨RX12, "begins", "()V"⟩
abbrev cX12_isOver : ByteArray := prog_14_method_23_code
def yX12_isOver : MethodName := ⟨RX12, "isOver", "()V"⟩
abbrev cX12_fault : ByteArray := prog_14_method_24_code
def yX12_fault : MethodName := ⟨RX12, "fault", "(I)I"⟩
abbrev cX12_hasRead : ByteArray := prog_14_method_25_code
def yX12_hasRead : MethodName := ⟨RX12, "hasRead", "(I)I"⟩
abbrev cX12_tells : ByteArray := prog_14_method_26_code
def yX12_tells : MethodName := ⟨RX12, "tells", "(II)V"⟩
abbrev cX12_pageHere : ByteArray := prog_14_method_27_code
def yX12_pageHere : MethodName := ⟨RX12, "pageHere", "()I"⟩
abbrev cX12_scholarHere : ByteArray := prog_14_method_28_code
def yX12_scholarHere : MethodName := ⟨RX12, "scholarHere", "()I"⟩
abbrev cX12_bookLine : ByteArray := prog_14_method_29_code
def yX12_bookLine : MethodName := ⟨RX12, "bookLine", "()V"⟩
abbrev cX12_noteLine : ByteArray := prog_14_method_30_code
def yX12_noteLine : MethodName := ⟨RX12, "noteLine", "()V"⟩
abbrev cX12_line : ByteArray := prog_14_method_31_code
def yX12_line : MethodName := ⟨RX12, "line", "()V"⟩
abbrev cX12_clears : ByteArray := prog_14_method_32_code
def yX12_clears : MethodName := ⟨RX12, "clears", "()V"⟩
abbrev cX12_town : ByteArray := prog_14_method_33_code
def yX12_town : MethodName := ⟨RX12, "town", "()I"⟩
abbrev cX12_copyRow : ByteArray := prog_14_method_34_code
def yX12_copyRow : MethodName := ⟨RX12, "copyRow", "([IIII)V"⟩
abbrev cX12_copyTown : ByteArray := prog_14_method_35_code
def yX12_copyTown : MethodName := ⟨RX12, "copyTown", "(II)V"⟩
abbrev cX12_isTown : ByteArray := prog_14_method_36_code
def yX12_isTown : MethodName := ⟨RX12, "isTown", "()Z"⟩
abbrev cX12_isBook : ByteArray := prog_14_method_37_code
def yX12_isBook : MethodName := ⟨RX12, "isBook", "(I)Z"⟩
abbrev cX12_isPage : ByteArray := prog_14_method_38_code
def yX12_isPage : MethodName := ⟨RX12, "isPage", "(J)Z"⟩
abbrev cX12_isNote : ByteArray := prog_14_method_39_code
def yX12_isNote : MethodName := ⟨RX12, "isNote", "(I)Z"⟩
abbrev cX12_areTwo : ByteArray := prog_14_method_40_code
def yX12_areTwo : MethodName := ⟨RX12, "areTwo", "(II)Z"⟩
abbrev cX12_isScholar : ByteArray := prog_14_method_41_code
def yX12_isScholar : MethodName := ⟨RX12, "isScholar", "(I)Z"⟩
abbrev cX12_all : ByteArray := prog_14_method_42_code
def yX12_all : MethodName := ⟨RX12, "all", "()I"⟩
abbrev cX12_isSet : ByteArray := prog_14_method_43_code
def yX12_isSet : MethodName := ⟨RX12, "isSet", "(I)Z"⟩
abbrev cX12_isBit : ByteArray := prog_14_method_44_code
def yX12_isBit : MethodName := ⟨RX12, "isBit", "(II)Z"⟩
abbrev cX12_sizeOf : ByteArray := prog_14_method_45_code
def yX12_sizeOf : MethodName := ⟨RX12, "sizeOf", "(I)I"⟩
abbrev cX12_lays : ByteArray := prog_14_method_46_code
def yX12_lays : MethodName := ⟨RX12, "lays", "(I)V"⟩
abbrev cX12_does : ByteArray := prog_14_method_47_code
def yX12_does : MethodName := ⟨RX12, "does", "(III)V"⟩
abbrev cX12_laysLeads : ByteArray := prog_14_method_48_code
def yX12_laysLeads : MethodName := ⟨RX12, "laysLeads", "()V"⟩
abbrev cX12_laysOuts : ByteArray := prog_14_method_49_code
def yX12_laysOuts : MethodName := ⟨RX12, "laysOuts", "()V"⟩
abbrev cX12_laysNow : ByteArray := prog_14_method_50_code
def yX12_laysNow : MethodName := ⟨RX12, "laysNow", "()V"⟩
abbrev cX12_page : ByteArray := prog_14_method_51_code
def yX12_page : MethodName := ⟨RX12, "page", "(II)I"⟩
abbrev cX12_book : ByteArray := prog_14_method_52_code
def yX12_book : MethodName := ⟨RX12, "book", "(II)I"⟩
abbrev cX12_leaf : ByteArray := prog_14_method_53_code
def yX12_leaf : MethodName := ⟨RX12, "leaf", "(II)I"⟩
abbrev cX12_note : ByteArray := prog_14_method_54_code
def yX12_note : MethodName := ⟨RX12, "note", "(II)I"⟩
abbrev cX12_leads : ByteArray := prog_14_method_55_code
def yX12_leads : MethodName := ⟨RX12, "leads", "(I)I"⟩
abbrev cX12_meant : ByteArray := prog_14_method_56_code
def yX12_meant : MethodName := ⟨RX12, "meant", "(I)I"⟩
abbrev cX12_astray : ByteArray := prog_14_method_57_code
def yX12_astray : MethodName := ⟨RX12, "astray", "()I"⟩
abbrev cX12_acts : ByteArray := prog_14_method_58_code
def yX12_acts : MethodName := ⟨RX12, "acts", "(III)V"⟩
abbrev cX12_edition : ByteArray := prog_14_method_59_code
def yX12_edition : MethodName := ⟨RX12, "edition", "(II)I"⟩
abbrev cX12_tear : ByteArray := prog_14_method_60_code
def yX12_tear : MethodName := ⟨RX12, "tear", "(II)I"⟩
abbrev cX12_misprint : ByteArray := prog_14_method_61_code
def yX12_misprint : MethodName := ⟨RX12, "misprint", "(II)I"⟩
abbrev cX12_undo : ByteArray := prog_14_method_62_code
def yX12_undo : MethodName := ⟨RX12, "undo", "()I"⟩
abbrev cX12_anew : ByteArray := prog_14_method_63_code
def yX12_anew : MethodName := ⟨RX12, "anew", "()I"⟩
abbrev cX12_goes : ByteArray := prog_14_method_64_code
def yX12_goes : MethodName := ⟨RX12, "goes", "(II)V"⟩
abbrev cX12_reachOf : ByteArray := prog_14_method_65_code
def yX12_reachOf : MethodName := ⟨RX12, "reachOf", "(I)I"⟩
abbrev cX12_reach : ByteArray := prog_14_method_66_code
def yX12_reach : MethodName := ⟨RX12, "reach", "(I)I"⟩
abbrev cX12_uponOf : ByteArray := prog_14_method_67_code
def yX12_uponOf : MethodName := ⟨RX12, "uponOf", "(I)I"⟩
abbrev cX12_upon : ByteArray := prog_14_method_68_code
def yX12_upon : MethodName := ⟨RX12, "upon", "(I)I"⟩
abbrev cX12_rings : ByteArray := prog_14_method_69_code
def yX12_rings : MethodName := ⟨RX12, "rings", "()I"⟩
abbrev cX12_round : ByteArray := prog_14_method_70_code
def yX12_round : MethodName := ⟨RX12, "round", "(I)I"⟩
abbrev cX12_ring : ByteArray := prog_14_method_71_code
def yX12_ring : MethodName := ⟨RX12, "ring", "(I)I"⟩
abbrev cX12_wayOf : ByteArray := prog_14_method_72_code
def yX12_wayOf : MethodName := ⟨RX12, "wayOf", "(II)I"⟩
abbrev cX12_way : ByteArray := prog_14_method_73_code
def yX12_way : MethodName := ⟨RX12, "way", "(I)I"⟩
abbrev cX12_step : ByteArray := prog_14_method_74_code
def yX12_step : MethodName := ⟨RX12, "step", "(II)I"⟩
abbrev cX12_depthOf : ByteArray := prog_14_method_75_code
def yX12_depthOf : MethodName := ⟨RX12, "depthOf", "(I)I"⟩
abbrev cX12_depth : ByteArray := prog_14_method_76_code
def yX12_depth : MethodName := ⟨RX12, "depth", "(I)I"⟩
abbrev cX12_deepest : ByteArray := prog_14_method_77_code
def yX12_deepest : MethodName := ⟨RX12, "deepest", "()I"⟩
abbrev cX12_groundedBut : ByteArray := prog_14_method_78_code
def yX12_groundedBut : MethodName := ⟨RX12, "groundedBut", "(I)I"⟩
abbrev cX12_grounded : ByteArray := prog_14_method_79_code
def yX12_grounded : MethodName := ⟨RX12, "grounded", "()I"⟩
abbrev cX12_needs : ByteArray := prog_14_method_80_code
def yX12_needs : MethodName := ⟨RX12, "needs", "(I)I"⟩
abbrev cX12_lossOf : ByteArray := prog_14_method_81_code
def yX12_lossOf : MethodName := ⟨RX12, "lossOf", "(I)I"⟩
abbrev cX12_loss : ByteArray := prog_14_method_82_code
def yX12_loss : MethodName := ⟨RX12, "loss", "(I)I"⟩
abbrev cX12_key : ByteArray := prog_14_method_83_code
def yX12_key : MethodName := ⟨RX12, "key", "()I"⟩
abbrev cX12_cutOf : ByteArray := prog_14_method_84_code
def yX12_cutOf : MethodName := ⟨RX12, "cutOf", "(I)I"⟩
abbrev cX12_cut_ : ByteArray := prog_14_method_85_code
def yX12_cut_ : MethodName := ⟨RX12, "cut", "(I)I"⟩
abbrev cX12_torn : ByteArray := prog_14_method_86_code
def yX12_torn : MethodName := ⟨RX12, "torn", "(I)I"⟩
abbrev cX12_brokenOf : ByteArray := prog_14_method_87_code
def yX12_brokenOf : MethodName := ⟨RX12, "brokenOf", "(I)I"⟩
abbrev cX12_holds : ByteArray := prog_14_method_88_code
def yX12_holds : MethodName := ⟨RX12, "holds", "(I)I"⟩
abbrev cX12_laysWays : ByteArray := prog_14_method_89_code
def yX12_laysWays : MethodName := ⟨RX12, "laysWays", "()V"⟩
abbrev cX12_ways : ByteArray := prog_14_method_90_code
def yX12_ways : MethodName := ⟨RX12, "ways", "()I"⟩
abbrev cX12_most : ByteArray := prog_14_method_91_code
def yX12_most : MethodName := ⟨RX12, "most", "()I"⟩
abbrev cX12_mostly : ByteArray := prog_14_method_92_code
def yX12_mostly : MethodName := ⟨RX12, "mostly", "()I"⟩
abbrev cX12_sure : ByteArray := prog_14_method_93_code
def yX12_sure : MethodName := ⟨RX12, "sure", "(I)I"⟩
abbrev cX12_looseSet : ByteArray := prog_14_method_94_code
def yX12_looseSet : MethodName := ⟨RX12, "looseSet", "(I)I"⟩
abbrev cX12_loose : ByteArray := prog_14_method_95_code
def yX12_loose : MethodName := ⟨RX12, "loose", "(I)I"⟩
abbrev cX12_loosely : ByteArray := prog_14_method_96_code
def yX12_loosely : MethodName := ⟨RX12, "loosely", "(I)I"⟩
abbrev cX12_turnsFrom : ByteArray := prog_14_method_97_code
def yX12_turnsFrom : MethodName := ⟨RX12, "turnsFrom", "(I)V"⟩
abbrev cX12_betters : ByteArray := prog_14_method_98_code
def yX12_betters : MethodName := ⟨RX12, "betters", "(II)Z"⟩
abbrev cX12_spreads : ByteArray := prog_14_method_99_code
def yX12_spreads : MethodName := ⟨RX12, "spreads", "(II)Z"⟩
abbrev cX12_turnsTo : ByteArray := prog_14_method_100_code
def yX12_turnsTo : MethodName := ⟨RX12, "turnsTo", "(I)I"⟩
abbrev cX12_leaves : ByteArray := prog_14_method_101_code
def yX12_leaves : MethodName := ⟨RX12, "leaves", "(II)I"⟩
abbrev cX12_whyNot : ByteArray := prog_14_method_102_code
def yX12_whyNot : MethodName := ⟨RX12, "whyNot", "(II)I"⟩
abbrev cX12_cellOf : ByteArray := prog_14_method_103_code
def yX12_cellOf : MethodName := ⟨RX12, "cellOf", "(II)I"⟩
abbrev cX12_laysRead : ByteArray := prog_14_method_104_code
def yX12_laysRead : MethodName := ⟨RX12, "laysRead", "(II)Z"⟩
abbrev cX12_readBy : ByteArray := prog_14_method_105_code
def yX12_readBy : MethodName := ⟨RX12, "readBy", "(III)I"⟩
abbrev cX12_reads : ByteArray := prog_14_method_106_code
def yX12_reads : MethodName := ⟨RX12, "reads", "(II)I"⟩
abbrev cX12_order : ByteArray := prog_14_method_107_code
def yX12_order : MethodName := ⟨RX12, "order", "(III)I"⟩
abbrev cX12_laysShared : ByteArray := prog_14_method_108_code
def yX12_laysShared : MethodName := ⟨RX12, "laysShared", "(I)V"⟩
abbrev cX12_shares : ByteArray := prog_14_method_109_code
def yX12_shares : MethodName := ⟨RX12, "shares", "(II)I"⟩
abbrev cX12_first : ByteArray := prog_14_method_110_code
def yX12_first : MethodName := ⟨RX12, "first", "(II)I"⟩
abbrev cX12_placeOf : ByteArray := prog_14_method_111_code
def yX12_placeOf : MethodName := ⟨RX12, "placeOf", "(I)I"⟩
abbrev cX12_puts : ByteArray := prog_14_method_112_code
def yX12_puts : MethodName := ⟨RX12, "puts", "(II)V"⟩
abbrev cX12_laysOrders : ByteArray := prog_14_method_113_code
def yX12_laysOrders : MethodName := ⟨RX12, "laysOrders", "()V"⟩
abbrev cX12_sends : ByteArray := prog_14_method_114_code
def yX12_sends : MethodName := ⟨RX12, "sends", "()I"⟩
abbrev cX12_orders : ByteArray := prog_14_method_115_code
def yX12_orders : MethodName := ⟨RX12, "orders", "()I"⟩
abbrev cX12_earliest : ByteArray := prog_14_method_116_code
def yX12_earliest : MethodName := ⟨RX12, "earliest", "(I)I"⟩
abbrev cX12_gives : ByteArray := prog_14_method_117_code
def yX12_gives : MethodName := ⟨RX12, "gives", "()Z"⟩
abbrev cX12_laysWorth : ByteArray := prog_14_method_118_code
def yX12_laysWorth : MethodName := ⟨RX12, "laysWorth", "(I)V"⟩
abbrev cX12_worth : ByteArray := prog_14_method_119_code
def yX12_worth : MethodName := ⟨RX12, "worth", "(II)I"⟩
abbrev cX12_rest : ByteArray := prog_14_method_120_code
def yX12_rest : MethodName := ⟨RX12, "rest", "()I"⟩
abbrev cX12_saint : ByteArray := prog_14_method_121_code
def yX12_saint : MethodName := ⟨RX12, "saint", "(I)I"⟩
abbrev cX12_laysMeets : ByteArray := prog_14_method_122_code
def yX12_laysMeets : MethodName := ⟨RX12, "laysMeets", "(II)V"⟩
abbrev cX12_meets : ByteArray := prog_14_method_123_code
def yX12_meets : MethodName := ⟨RX12, "meets", "(II)I"⟩
abbrev cX12_nearest : ByteArray := prog_14_method_124_code
def yX12_nearest : MethodName := ⟨RX12, "nearest", "(II)I"⟩
abbrev cX12_third : ByteArray := prog_14_method_125_code
def yX12_third : MethodName := ⟨RX12, "third", "(II)I"⟩
abbrev cX12_scholarOf : ByteArray := prog_14_method_126_code
def yX12_scholarOf : MethodName := ⟨RX12, "scholarOf", "(I)I"⟩
abbrev cX12_citedOf : ByteArray := prog_14_method_127_code
def yX12_citedOf : MethodName := ⟨RX12, "citedOf", "(I)I"⟩
abbrev cX12_cited : ByteArray := prog_14_method_128_code
def yX12_cited : MethodName := ⟨RX12, "cited", "(I)I"⟩
abbrev cX12_famous : ByteArray := prog_14_method_129_code
def yX12_famous : MethodName := ⟨RX12, "famous", "(I)I"⟩
abbrev cX12_quotes : ByteArray := prog_14_method_130_code
def yX12_quotes : MethodName := ⟨RX12, "quotes", "(II)I"⟩
abbrev cX12_drawnOf : ByteArray := prog_14_method_131_code
def yX12_drawnOf : MethodName := ⟨RX12, "drawnOf", "(J)I"⟩
abbrev cX12_isSeed : ByteArray := prog_14_method_132_code
def yX12_isSeed : MethodName := ⟨RX12, "isSeed", "(I)Z"⟩
abbrev cX12_drawn : ByteArray := prog_14_method_133_code
def yX12_drawn : MethodName := ⟨RX12, "drawn", "(I)I"⟩
abbrev cX12_shaken : ByteArray := prog_14_method_134_code
def yX12_shaken : MethodName := ⟨RX12, "shaken", "(I)I"⟩
abbrev cX12_years : ByteArray := prog_14_method_135_code
def yX12_years : MethodName := ⟨RX12, "years", "(III)I"⟩
abbrev cX12_count : ByteArray := prog_14_method_136_code
def yX12_count : MethodName := ⟨RX12, "count", "(I)I"⟩
abbrev cX12_image : ByteArray := prog_14_method_137_code
def yX12_image : MethodName := ⟨RX12, "image", "(I)I"⟩
abbrev cX12_back : ByteArray := prog_14_method_138_code
def yX12_back : MethodName := ⟨RX12, "back", "(I)I"⟩
def RJx145de : String := "java/io/Serializable"
def TJx145de : u_T := fun k => match k with
  | _ => ("", "", "", false)
def tyJx145de : Nat → FieldType := fun k => match k with
  | _ => .int
theorem nmJx145de : ∀ a, a < 0 → ∀ b, b < 0 → a ≠ b → (TJx145de a).2.1 ≠ (TJx145de b).2.1 := by decide +kernel
theorem tyJx145de_ok : ∀ k, k < 0 → parseFieldDescriptor (TJx145de k).2.2.1 = some (tyJx145de k) := by decide +kernel
def RJx9f9b0 : String := "java/lang/CharSequence"
def TJx9f9b0 : u_T := fun k => match k with
  | _ => ("", "", "", false)
def tyJx9f9b0 : Nat → FieldType := fun k => match k with
  | _ => .int
theorem nmJx9f9b0 : ∀ a, a < 0 → ∀ b, b < 0 → a ≠ b → (TJx9f9b0 a).2.1 ≠ (TJx9f9b0 b).2.1 := by decide +kernel
theorem tyJx9f9b0_ok : ∀ k, k < 0 → parseFieldDescriptor (TJx9f9b0 k).2.2.1 = some (tyJx9f9b0 k) := by decide +kernel
def RJxb160c : String := "java/lang/Comparable"
def TJxb160c : u_T := fun k => match k with
  | _ => ("", "", "", false)
def tyJxb160c : Nat → FieldType := fun k => match k with
  | _ => .int
theorem nmJxb160c : ∀ a, a < 0 → ∀ b, b < 0 → a ≠ b → (TJxb160c a).2.1 ≠ (TJxb160c b).2.1 := by decide +kernel
theorem tyJxb160c_ok : ∀ k, k < 0 → parseFieldDescriptor (TJxb160c k).2.2.1 = some (tyJxb160c k) := by decide +kernel
def RJ6 : String := "java/lang/Integer"
def TJ6 : u_T := fun k => match k with
  | _ => ("", "", "", false)
def tyJ6 : Nat → FieldType := fun k => match k with
  | _ => .int
theorem nmJ6 : ∀ a, a < 0 → ∀ b, b < 0 → a ≠ b → (TJ6 a).2.1 ≠ (TJ6 b).2.1 := by decide +kernel
theorem tyJ6_ok : ∀ k, k < 0 → parseFieldDescriptor (TJ6 k).2.2.1 = some (tyJ6 k) := by decide +kernel
abbrev cJ6_bitCount_0f7a4 : ByteArray := prog_15_method_49_code
def yJ6_bitCount_0f7a4 : MethodName := ⟨RJ6, "bitCount", "(I)I"⟩
def RJ9 : String := "java/lang/Math"
def TJ9 : u_T := fun k => match k with
  | _ => ("", "", "", false)
def tyJ9 : Nat → FieldType := fun k => match k with
  | _ => .int
theorem nmJ9 : ∀ a, a < 0 → ∀ b, b < 0 → a ≠ b → (TJ9 a).2.1 ≠ (TJ9 b).2.1 := by decide +kernel
theorem tyJ9_ok : ∀ k, k < 0 → parseFieldDescriptor (TJ9 k).2.2.1 = some (tyJ9 k) := by decide +kernel
abbrev cJ9_max_7cf53 : ByteArray := prog_16_method_65_code
def yJ9_max_7cf53 : MethodName := ⟨RJ9, "max", "(II)I"⟩
abbrev cJ9_min_7cf53 : ByteArray := prog_16_method_69_code
def yJ9_min_7cf53 : MethodName := ⟨RJ9, "min", "(II)I"⟩
def RJ0 : String := "java/lang/String"
def TJ0 : u_T := fun k => match k with
  | _ => ("", "", "", false)
def tyJ0 : Nat → FieldType := fun k => match k with
  | _ => .int
theorem nmJ0 : ∀ a, a < 0 → ∀ b, b < 0 → a ≠ b → (TJ0 a).2.1 ≠ (TJ0 b).2.1 := by decide +kernel
theorem tyJ0_ok : ∀ k, k < 0 → parseFieldDescriptor (TJ0 k).2.2.1 = some (tyJ0 k) := by decide +kernel
abbrev cJ0_length_8abf5 : ByteArray := prog_17_method_54_code
def yJ0_length_8abf5 : MethodName := ⟨RJ0, "length", "()I"⟩
abbrev cJ0_charAt_5068e : ByteArray := prog_17_method_56_code
def yJ0_charAt_5068e : MethodName := ⟨RJ0, "charAt", "(I)C"⟩
abbrev cJ0_coder_7d493 : ByteArray := prog_17_method_152_code
def yJ0_coder_7d493 : MethodName := ⟨RJ0, "coder", "()B"⟩
abbrev cJ0_isLatin1_aae02 : ByteArray := prog_17_method_154_code
def yJ0_isLatin1_aae02 : MethodName := ⟨RJ0, "isLatin1", "()Z"⟩
abbrev cJ0_checkIndex_df160 : ByteArray := prog_17_method_155_code
def yJ0_checkIndex_df160 : MethodName := ⟨RJ0, "checkIndex", "(II)V"⟩
def RJ1 : String := "java/lang/StringLatin1"
def TJ1 : u_T := fun k => match k with
  | _ => ("", "", "", false)
def tyJ1 : Nat → FieldType := fun k => match k with
  | _ => .int
theorem nmJ1 : ∀ a, a < 0 → ∀ b, b < 0 → a ≠ b → (TJ1 a).2.1 ≠ (TJ1 b).2.1 := by decide +kernel
theorem tyJ1_ok : ∀ k, k < 0 → parseFieldDescriptor (TJ1 k).2.2.1 = some (tyJ1 k) := by decide +kernel
abbrev cJ1_charAt_3b067 : ByteArray := prog_18_method_2_code
def yJ1_charAt_3b067 : MethodName := ⟨RJ1, "charAt", "([BI)C"⟩
def RJ2 : String := "java/lang/StringUTF16"
def TJ2 : u_T := fun k => match k with
  | _ => ("", "", "", false)
def tyJ2 : Nat → FieldType := fun k => match k with
  | _ => .int
theorem nmJ2 : ∀ a, a < 0 → ∀ b, b < 0 → a ≠ b → (TJ2 a).2.1 ≠ (TJ2 b).2.1 := by decide +kernel
theorem tyJ2_ok : ∀ k, k < 0 → parseFieldDescriptor (TJ2 k).2.2.1 = some (tyJ2 k) := by decide +kernel
abbrev cJ2_getChar_3b067 : ByteArray := prog_19_method_5_code
def yJ2_getChar_3b067 : MethodName := ⟨RJ2, "getChar", "([BI)C"⟩
abbrev cJ2_length_9d52b : ByteArray := prog_19_method_6_code
def yJ2_length_9d52b : MethodName := ⟨RJ2, "length", "([B)I"⟩
abbrev cJ2_charAt_3b067 : ByteArray := prog_19_method_83_code
def yJ2_charAt_3b067 : MethodName := ⟨RJ2, "charAt", "([BI)C"⟩
abbrev cJ2_checkIndex_2214a : ByteArray := prog_19_method_91_code
def yJ2_checkIndex_2214a : MethodName := ⟨RJ2, "checkIndex", "(I[B)V"⟩
def RJ10 : String := "java/lang/System"
def TJ10 : u_T := fun k => match k with
  | _ => ("", "", "", false)
def tyJ10 : Nat → FieldType := fun k => match k with
  | _ => .int
theorem nmJ10 : ∀ a, a < 0 → ∀ b, b < 0 → a ≠ b → (TJ10 a).2.1 ≠ (TJ10 b).2.1 := by decide +kernel
theorem tyJ10_ok : ∀ k, k < 0 → parseFieldDescriptor (TJ10 k).2.2.1 = some (tyJ10 k) := by decide +kernel
def RJxfd54e : String := "java/lang/constant/Constable"
def TJxfd54e : u_T := fun k => match k with
  | _ => ("", "", "", false)
def tyJxfd54e : Nat → FieldType := fun k => match k with
  | _ => .int
theorem nmJxfd54e : ∀ a, a < 0 → ∀ b, b < 0 → a ≠ b → (TJxfd54e a).2.1 ≠ (TJxfd54e b).2.1 := by decide +kernel
theorem tyJxfd54e_ok : ∀ k, k < 0 → parseFieldDescriptor (TJxfd54e k).2.2.1 = some (tyJxfd54e k) := by decide +kernel
def RJx3cf43 : String := "java/lang/constant/ConstantDesc"
def TJx3cf43 : u_T := fun k => match k with
  | _ => ("", "", "", false)
def tyJx3cf43 : Nat → FieldType := fun k => match k with
  | _ => .int
theorem nmJx3cf43 : ∀ a, a < 0 → ∀ b, b < 0 → a ≠ b → (TJx3cf43 a).2.1 ≠ (TJx3cf43 b).2.1 := by decide +kernel
theorem tyJx3cf43_ok : ∀ k, k < 0 → parseFieldDescriptor (TJx3cf43 k).2.2.1 = some (tyJx3cf43 k) := by decide +kernel
def RJ7 : String := "java/util/Arrays"
def TJ7 : u_T := fun k => match k with
  | _ => ("", "", "", false)
def tyJ7 : Nat → FieldType := fun k => match k with
  | _ => .int
theorem nmJ7 : ∀ a, a < 0 → ∀ b, b < 0 → a ≠ b → (TJ7 a).2.1 ≠ (TJ7 b).2.1 := by decide +kernel
theorem tyJ7_ok : ∀ k, k < 0 → parseFieldDescriptor (TJ7 k).2.2.1 = some (tyJ7 k) := by decide +kernel
abbrev cJ7_fill_d0a16 : ByteArray := prog_21_method_101_code
def yJ7_fill_d0a16 : MethodName := ⟨RJ7, "fill", "([JJ)V"⟩
abbrev cJ7_fill_53178 : ByteArray := prog_21_method_103_code
def yJ7_fill_53178 : MethodName := ⟨RJ7, "fill", "([II)V"⟩
def RJ3 : String := "jdk/internal/util/Preconditions"
def TJ3 : u_T := fun k => match k with
  | _ => ("", "", "", false)
def tyJ3 : Nat → FieldType := fun k => match k with
  | _ => .int
theorem nmJ3 : ∀ a, a < 0 → ∀ b, b < 0 → a ≠ b → (TJ3 a).2.1 ≠ (TJ3 b).2.1 := by decide +kernel
theorem tyJ3_ok : ∀ k, k < 0 → parseFieldDescriptor (TJ3 k).2.2.1 = some (tyJ3 k) := by decide +kernel
abbrev cJ3_checkIndex_8e157 : ByteArray := prog_22_method_11_code
def yJ3_checkIndex_8e157 : MethodName := ⟨RJ3, "checkIndex", "(IILjava/util/function/BiFunction;)I"⟩
def RL : String := "FootNotesLaw"
abbrev cL_law : ByteArray := code
def yL_law : MethodName := ⟨RL, "law", "([I)Z"⟩
set_option maxRecDepth 20000 in
abbrev vwCl : List vw_C := [(RX0, TX0, 12), (RX1, TX1, 4), (RX2, TX2, 6), (RX3, TX3, 4), (RX4, TX4, 4), (RX5, TX5, 8), (RX6, TX6, 5), (RX7, TX7, 15), (RX8, TX8, 4), (RX9, TX9, 6), (RX10, TX10, 7), (RX11, TX11, 13), (RX12, TX12, 51)]
/-- the links between the classes of one nest -/
def fn_nws : List Cond := [Cond.methodLinkNest "FootNotes" 9 ⟨"FootNotes$Reader", "<init>", "()V"⟩ "FootNotes",
  Cond.methodLinkNest "FootNotes$Reader" 11 ⟨"FootNotes$Tape", "<init>", "()V"⟩ "FootNotes",
  Cond.fieldLinkNest "FootNotes" 91 "FootNotes$Tape" "size" "I" "FootNotes",
  Cond.fieldLinkNest "FootNotes$Reader" 38 "FootNotes$Tape" "kind" "I" "FootNotes",
  Cond.fieldLinkNest "FootNotes$Reader" 87 "FootNotes$Tape" "start" "I" "FootNotes",
  Cond.methodLinkNest "FootNotes$Reader" 20 ⟨"FootNotes$Text", "<init>", "()V"⟩ "FootNotes",
  Cond.fieldLinkNest "FootNotes$Reader" 47 "FootNotes$Text" "lines" "I" "FootNotes",
  Cond.fieldLinkNest "FootNotes" 120 "FootNotes$Text" "lines" "I" "FootNotes",
  Cond.fieldLinkNest "FootNotes$Turns" 24 "FootNotes$Text" "opens" "I" "FootNotes",
  Cond.fieldLinkNest "FootNotes$Reader" 101 "FootNotes$Text" "opens" "I" "FootNotes",
  Cond.fieldLinkNest "FootNotes" 440 "FootNotes$Text" "opens" "I" "FootNotes",
  Cond.fieldLinkNest "FootNotes$Reader" 105 "FootNotes$Text" "odds" "I" "FootNotes",
  Cond.fieldLinkNest "FootNotes" 434 "FootNotes$Text" "odds" "I" "FootNotes",
  Cond.fieldLinkNest "FootNotes$Precedence" 21 "FootNotes$Text" "books" "I" "FootNotes",
  Cond.fieldLinkNest "FootNotes$Shelf" 37 "FootNotes$Text" "books" "I" "FootNotes",
  Cond.fieldLinkNest "FootNotes$Turns" 40 "FootNotes$Text" "books" "I" "FootNotes",
  Cond.fieldLinkNest "FootNotes$Web" 62 "FootNotes$Text" "books" "I" "FootNotes",
  Cond.fieldLinkNest "FootNotes$Reader" 107 "FootNotes$Text" "books" "I" "FootNotes",
  Cond.fieldLinkNest "FootNotes" 364 "FootNotes$Text" "books" "I" "FootNotes",
  Cond.fieldLinkNest "FootNotes$Web" 24 "FootNotes$Text" "pages" "I" "FootNotes",
  Cond.fieldLinkNest "FootNotes$Faith" 21 "FootNotes$Text" "pages" "I" "FootNotes",
  Cond.fieldLinkNest "FootNotes$Reader" 76 "FootNotes$Text" "pages" "I" "FootNotes",
  Cond.fieldLinkNest "FootNotes$Ledger" 52 "FootNotes$Text" "pages" "I" "FootNotes",
  Cond.fieldLinkNest "FootNotes" 218 "FootNotes$Text" "pages" "I" "FootNotes",
  Cond.fieldLinkNest "FootNotes$Ledger" 30 "FootNotes$Text" "notes" "I" "FootNotes",
  Cond.fieldLinkNest "FootNotes$Web" 41 "FootNotes$Text" "notes" "I" "FootNotes",
  Cond.fieldLinkNest "FootNotes$Faith" 37 "FootNotes$Text" "notes" "I" "FootNotes",
  Cond.fieldLinkNest "FootNotes$Precedence" 51 "FootNotes$Text" "notes" "I" "FootNotes",
  Cond.fieldLinkNest "FootNotes$Reader" 116 "FootNotes$Text" "notes" "I" "FootNotes",
  Cond.fieldLinkNest "FootNotes" 192 "FootNotes$Text" "notes" "I" "FootNotes",
  Cond.fieldLinkNest "FootNotes$Faith" 30 "FootNotes$Text" "facts" "I" "FootNotes",
  Cond.fieldLinkNest "FootNotes$Web" 68 "FootNotes$Text" "facts" "I" "FootNotes",
  Cond.fieldLinkNest "FootNotes$Reader" 73 "FootNotes$Text" "facts" "I" "FootNotes",
  Cond.fieldLinkNest "FootNotes" 145 "FootNotes$Text" "facts" "I" "FootNotes",
  Cond.fieldLinkNest "FootNotes$Reader" 85 "FootNotes$Text" "dead" "I" "FootNotes",
  Cond.fieldLinkNest "FootNotes" 160 "FootNotes$Text" "dead" "I" "FootNotes",
  Cond.fieldLinkNest "FootNotes$Faith" 46 "FootNotes$Text" "denials" "I" "FootNotes",
  Cond.fieldLinkNest "FootNotes" 179 "FootNotes$Text" "denials" "I" "FootNotes",
  Cond.fieldLinkNest "FootNotes" 151 "FootNotes$Text" "scholar" "[I" "FootNotes",
  Cond.fieldLinkNest "FootNotes$Shelf" 46 "FootNotes$Text" "firstPage" "[I" "FootNotes",
  Cond.fieldLinkNest "FootNotes$Precedence" 59 "FootNotes$Text" "bookOf" "[I" "FootNotes",
  Cond.fieldLinkNest "FootNotes" 134 "FootNotes$Text" "bookOf" "[I" "FootNotes",
  Cond.fieldLinkNest "FootNotes$Web" 44 "FootNotes$Text" "notePage" "[I" "FootNotes",
  Cond.fieldLinkNest "FootNotes$Ledger" 41 "FootNotes$Text" "notePage" "[I" "FootNotes",
  Cond.fieldLinkNest "FootNotes$Faith" 43 "FootNotes$Text" "notePage" "[I" "FootNotes",
  Cond.fieldLinkNest "FootNotes$Precedence" 62 "FootNotes$Text" "notePage" "[I" "FootNotes",
  Cond.fieldLinkNest "FootNotes" 170 "FootNotes$Text" "notePage" "[I" "FootNotes",
  Cond.fieldLinkNest "FootNotes$Web" 52 "FootNotes$Text" "noteBook" "[I" "FootNotes",
  Cond.fieldLinkNest "FootNotes" 173 "FootNotes$Text" "noteBook" "[I" "FootNotes",
  Cond.fieldLinkNest "FootNotes$Shelf" 49 "FootNotes$Text" "noteLeaf" "[I" "FootNotes",
  Cond.fieldLinkNest "FootNotes" 87 "FootNotes$Reader" "tape" "LFootNotes$Tape;" "FootNotes",
  Cond.fieldLinkNest "FootNotes" 107 "FootNotes$Reader" "told" "LFootNotes$Text;" "FootNotes",
  Cond.fieldLinkNest "FootNotes" 104 "FootNotes$Reader" "fault" "I" "FootNotes",
  Cond.fieldLinkNest "FootNotes" 123 "FootNotes$Reader" "faultPlace" "I" "FootNotes",
  Cond.methodLinkNest "FootNotes" 18 ⟨"FootNotes$Text", "<init>", "()V"⟩ "FootNotes",
  Cond.methodLinkNest "FootNotes" 25 ⟨"FootNotes$Shelf", "<init>", "()V"⟩ "FootNotes",
  Cond.fieldLinkNest "FootNotes" 199 "FootNotes$Shelf" "acts" "I" "FootNotes",
  Cond.fieldLinkNest "FootNotes$Web" 65 "FootNotes$Shelf" "leafCount" "[I" "FootNotes",
  Cond.fieldLinkNest "FootNotes$Turns" 63 "FootNotes$Shelf" "leafCount" "[I" "FootNotes",
  Cond.fieldLinkNest "FootNotes" 154 "FootNotes$Shelf" "leafCount" "[I" "FootNotes",
  Cond.fieldLinkNest "FootNotes$Web" 47 "FootNotes$Shelf" "says" "[I" "FootNotes",
  Cond.fieldLinkNest "FootNotes" 176 "FootNotes$Shelf" "says" "[I" "FootNotes",
  Cond.methodLinkNest "FootNotes" 50 ⟨"FootNotes$Web", "<init>", "()V"⟩ "FootNotes",
  Cond.fieldLinkNest "FootNotes$Turns" 60 "FootNotes$Web" "pages" "I" "FootNotes",
  Cond.fieldLinkNest "FootNotes$Turns" 57 "FootNotes$Web" "place" "[I" "FootNotes",
  Cond.fieldLinkNest "FootNotes" 138 "FootNotes$Web" "place" "[I" "FootNotes",
  Cond.fieldLinkNest "FootNotes$Ledger" 36 "FootNotes$Web" "target" "[I" "FootNotes",
  Cond.fieldLinkNest "FootNotes$Faith" 38 "FootNotes$Web" "target" "[I" "FootNotes",
  Cond.fieldLinkNest "FootNotes$Precedence" 54 "FootNotes$Web" "target" "[I" "FootNotes",
  Cond.fieldLinkNest "FootNotes" 182 "FootNotes$Web" "target" "[I" "FootNotes",
  Cond.fieldLinkNest "FootNotes$Turns" 76 "FootNotes$Web" "next" "[I" "FootNotes",
  Cond.fieldLinkNest "FootNotes" 224 "FootNotes$Web" "steps" "[I" "FootNotes",
  Cond.methodLinkNest "FootNotes" 60 ⟨"FootNotes$Faith", "<init>", "()V"⟩ "FootNotes",
  Cond.fieldLinkNest "FootNotes" 269 "FootNotes$Faith" "found" "I" "FootNotes",
  Cond.fieldLinkNest "FootNotes" 276 "FootNotes$Faith" "largest" "I" "FootNotes",
  Cond.fieldLinkNest "FootNotes" 279 "FootNotes$Faith" "inAll" "I" "FootNotes",
  Cond.fieldLinkNest "FootNotes" 282 "FootNotes$Faith" "inNone" "I" "FootNotes",
  Cond.fieldLinkNest "FootNotes" 288 "FootNotes$Faith" "fewestDropped" "I" "FootNotes",
  Cond.fieldLinkNest "FootNotes" 291 "FootNotes$Faith" "loosestSet" "I" "FootNotes",
  Cond.methodLinkNest "FootNotes" 67 ⟨"FootNotes$Tour", "<init>", "()V"⟩ "FootNotes",
  Cond.methodLinkNest "FootNotes$Tour" 11 ⟨"FootNotes$Turns", "<init>", "()V"⟩ "FootNotes",
  Cond.fieldLinkNest "FootNotes" 297 "FootNotes$Tour" "turns" "LFootNotes$Turns;" "FootNotes",
  Cond.methodLinkNest "FootNotes" 74 ⟨"FootNotes$Precedence", "<init>", "()V"⟩ "FootNotes",
  Cond.fieldLinkNest "FootNotes" 367 "FootNotes$Precedence" "best" "[I" "FootNotes",
  Cond.fieldLinkNest "FootNotes" 360 "FootNotes$Precedence" "fewest" "I" "FootNotes",
  Cond.fieldLinkNest "FootNotes" 363 "FootNotes$Precedence" "found" "I" "FootNotes",
  Cond.methodLinkNest "FootNotes" 81 ⟨"FootNotes$Ledger", "<init>", "()V"⟩ "FootNotes",
  Cond.fieldLinkNest "FootNotes" 377 "FootNotes$Ledger" "purse" "[I" "FootNotes",
  Cond.methodLinkNest "FootNotes" 86 ⟨"FootNotes$Row", "<init>", "()V"⟩ "FootNotes",
  Cond.fieldLinkNest "FootNotes" 340 "FootNotes$Row" "present" "Z" "FootNotes",
  Cond.fieldLinkNest "FootNotes" 458 "FootNotes$Row" "width" "I" "FootNotes",
  Cond.fieldLinkNest "FootNotes" 327 "FootNotes$Row" "size" "I" "FootNotes",
  Cond.fieldLinkNest "FootNotes" 344 "FootNotes$Row" "numbers" "[J" "FootNotes",
  Cond.methodLinkNest "FootNotes" 97 ⟨"FootNotes$Tape", "put", "(I)V"⟩ "FootNotes",
  Cond.methodLinkNest "FootNotes" 101 ⟨"FootNotes$Reader", "readLines", "()V"⟩ "FootNotes",
  Cond.methodLinkNest "FootNotes$Reader" 32 ⟨"FootNotes$Text", "clear", "()V"⟩ "FootNotes",
  Cond.methodLinkNest "FootNotes$Reader" 35 ⟨"FootNotes$Tape", "goToFirstToken", "()V"⟩ "FootNotes",
  Cond.methodLinkNest "FootNotes$Reader" 55 ⟨"FootNotes$Tape", "isWord", "(Ljava/lang/String;)Z"⟩ "FootNotes",
  Cond.methodLinkNest "FootNotes$Reader" 127 ⟨"FootNotes$Tape", "moveOn", "()V"⟩ "FootNotes",
  Cond.methodLinkNest "FootNotes$Reader" 130 ⟨"FootNotes$Tape", "valueOfDigits", "()I"⟩ "FootNotes",
  Cond.methodLinkNest "FootNotes$Reader" 113 ⟨"FootNotes$Text", "addBook", "(II)V"⟩ "FootNotes",
  Cond.methodLinkNest "FootNotes$Reader" 123 ⟨"FootNotes$Text", "addNote", "(IIIZ)V"⟩ "FootNotes",
  Cond.methodLinkNest "FootNotes$Text" 64 ⟨"FootNotes", "bit", "(Z)I"⟩ "FootNotes",
  Cond.methodLinkNest "FootNotes" 110 ⟨"FootNotes$Text", "copyFrom", "(LFootNotes$Text;)V"⟩ "FootNotes",
  Cond.methodLinkNest "FootNotes" 114 ⟨"FootNotes$Shelf", "lay", "(LFootNotes$Text;)V"⟩ "FootNotes",
  Cond.methodLinkNest "FootNotes$Shelf" 42 ⟨"FootNotes$Text", "pagesIn", "(I)I"⟩ "FootNotes",
  Cond.methodLinkNest "FootNotes" 126 ⟨"FootNotes$Web", "weave", "(LFootNotes$Text;LFootNotes$Shelf;I)V"⟩ "FootNotes",
  Cond.methodLinkNest "FootNotes$Web" 55 ⟨"FootNotes$Shelf", "onLeaf", "(II)I"⟩ "FootNotes",
  Cond.methodLinkNest "FootNotes" 130 ⟨"FootNotes$Text", "hasPage", "(I)Z"⟩ "FootNotes",
  Cond.methodLinkNest "FootNotes" 141 ⟨"FootNotes$Text", "notesOn", "(I)I"⟩ "FootNotes",
  Cond.methodLinkNest "FootNotes" 148 ⟨"FootNotes$Text", "hasBook", "(I)Z"⟩ "FootNotes",
  Cond.methodLinkNest "FootNotes" 157 ⟨"FootNotes$Text", "pagesIn", "(I)I"⟩ "FootNotes",
  Cond.methodLinkNest "FootNotes" 163 ⟨"FootNotes$Shelf", "onLeaf", "(II)I"⟩ "FootNotes",
  Cond.methodLinkNest "FootNotes" 167 ⟨"FootNotes$Text", "hasNote", "(I)Z"⟩ "FootNotes",
  Cond.methodLinkNest "FootNotes" 185 ⟨"FootNotes$Text", "targetAtFirst", "(I)I"⟩ "FootNotes",
  Cond.methodLinkNest "FootNotes" 202 ⟨"FootNotes$Shelf", "putBlank", "(II)V"⟩ "FootNotes",
  Cond.methodLinkNest "FootNotes" 206 ⟨"FootNotes$Shelf", "tearOut", "(II)V"⟩ "FootNotes",
  Cond.methodLinkNest "FootNotes" 209 ⟨"FootNotes$Shelf", "reprint", "(II)V"⟩ "FootNotes",
  Cond.methodLinkNest "FootNotes" 212 ⟨"FootNotes$Shelf", "takeBack", "()V"⟩ "FootNotes",
  Cond.methodLinkNest "FootNotes" 215 ⟨"FootNotes$Web", "reachedFrom", "(I)I"⟩ "FootNotes",
  Cond.methodLinkNest "FootNotes" 221 ⟨"FootNotes$Web", "walkFrom", "(I)V"⟩ "FootNotes",
  Cond.methodLinkNest "FootNotes" 230 ⟨"FootNotes$Web", "wayLength", "(I)I"⟩ "FootNotes",
  Cond.methodLinkNest "FootNotes" 233 ⟨"FootNotes$Web", "nextOnWay", "(II)I"⟩ "FootNotes",
  Cond.methodLinkNest "FootNotes" 236 ⟨"FootNotes$Web", "farthestFrom", "(I)I"⟩ "FootNotes",
  Cond.methodLinkNest "FootNotes" 239 ⟨"FootNotes$Web", "groundedWithout", "(I)I"⟩ "FootNotes",
  Cond.methodLinkNest "FootNotes" 242 ⟨"FootNotes$Web", "lossBy", "(I)I"⟩ "FootNotes",
  Cond.methodLinkNest "FootNotes" 253 ⟨"FootNotes$Web", "leastCut", "(I)I"⟩ "FootNotes",
  Cond.methodLinkNest "FootNotes" 259 ⟨"FootNotes$Faith", "take", "(LFootNotes$Text;LFootNotes$Web;)V"⟩ "FootNotes",
  Cond.methodLinkNest "FootNotes" 263 ⟨"FootNotes$Faith", "canHold", "(I)Z"⟩ "FootNotes",
  Cond.methodLinkNest "FootNotes" 266 ⟨"FootNotes$Faith", "searchWays", "()V"⟩ "FootNotes",
  Cond.methodLinkNest "FootNotes" 285 ⟨"FootNotes$Faith", "searchLoosest", "(I)V"⟩ "FootNotes",
  Cond.methodLinkNest "FootNotes" 294 ⟨"FootNotes$Web", "isTorn", "(I)Z"⟩ "FootNotes",
  Cond.methodLinkNest "FootNotes" 301 ⟨"FootNotes$Turns", "measureFromDoors", "(LFootNotes$Text;LFootNotes$Shelf;LFootNotes$Web;)V"⟩ "FootNotes",
  Cond.methodLinkNest "FootNotes$Turns" 68 ⟨"FootNotes$Shelf", "onLeaf", "(II)I"⟩ "FootNotes",
  Cond.methodLinkNest "FootNotes" 307 ⟨"FootNotes$Turns", "measureFrom", "(ILFootNotes$Shelf;LFootNotes$Web;)V"⟩ "FootNotes",
  Cond.methodLinkNest "FootNotes$Turns" 51 ⟨"FootNotes$Web", "isTorn", "(I)Z"⟩ "FootNotes",
  Cond.methodLinkNest "FootNotes" 311 ⟨"FootNotes$Turns", "between", "(II)I"⟩ "FootNotes",
  Cond.methodLinkNest "FootNotes" 348 ⟨"FootNotes$Tour", "begin", "(I)V"⟩ "FootNotes",
  Cond.methodLinkNest "FootNotes" 351 ⟨"FootNotes$Tour", "addStop", "(I)V"⟩ "FootNotes",
  Cond.methodLinkNest "FootNotes" 354 ⟨"FootNotes$Tour", "plan", "()V"⟩ "FootNotes",
  Cond.methodLinkNest "FootNotes$Tour" 41 ⟨"FootNotes$Turns", "between", "(II)I"⟩ "FootNotes",
  Cond.methodLinkNest "FootNotes" 321 ⟨"FootNotes$Tour", "all", "()I"⟩ "FootNotes",
  Cond.methodLinkNest "FootNotes" 324 ⟨"FootNotes$Tour", "fewestFor", "(I)I"⟩ "FootNotes",
  Cond.methodLinkNest "FootNotes" 328 ⟨"FootNotes$Tour", "stopAt", "(I)I"⟩ "FootNotes",
  Cond.methodLinkNest "FootNotes" 331 ⟨"FootNotes$Tour", "fairestSet", "()I"⟩ "FootNotes",
  Cond.methodLinkNest "FootNotes" 334 ⟨"FootNotes$Tour", "longerOf", "(I)I"⟩ "FootNotes",
  Cond.methodLinkNest "FootNotes" 357 ⟨"FootNotes$Precedence", "search", "(LFootNotes$Text;LFootNotes$Web;)V"⟩ "FootNotes",
  Cond.methodLinkNest "FootNotes" 373 ⟨"FootNotes$Ledger", "runRounds", "(LFootNotes$Text;LFootNotes$Web;I)V"⟩ "FootNotes",
  Cond.methodLinkNest "FootNotes" 380 ⟨"FootNotes$Ledger", "open", "(LFootNotes$Text;LFootNotes$Web;)V"⟩ "FootNotes",
  Cond.methodLinkNest "FootNotes" 383 ⟨"FootNotes$Ledger", "roundChanges", "(LFootNotes$Text;LFootNotes$Web;)Z"⟩ "FootNotes",
  Cond.methodLinkNest "FootNotes" 401 ⟨"FootNotes$Web", "stepsBetween", "(II)I"⟩ "FootNotes",
  Cond.methodLinkNest "FootNotes" 413 ⟨"FootNotes$Text", "scholarOf", "(I)I"⟩ "FootNotes",
  Cond.methodLinkNest "FootNotes" 449 ⟨"FootNotes$Shelf", "copyFrom", "(LFootNotes$Shelf;)V"⟩ "FootNotes",
  Cond.methodLinkNest "FootNotes" 452 ⟨"FootNotes$Row", "begin", "(II)V"⟩ "FootNotes",
  Cond.methodLinkNest "FootNotes" 454 ⟨"FootNotes$Row", "cutToWidth", "(J)J"⟩ "FootNotes",
  Cond.methodLinkNest "FootNotes" 461 ⟨"FootNotes$Row", "spans", "(II)Z"⟩ "FootNotes"]
/-- the words that stay good over calls -/
def fn_big : List Cond := lw_tbl.filter goodWord
abbrev fn_ws (y : MethodName) (cc : ByteArray) (n : Nat) (ret : Option FieldType) : List Cond := Cond.code y cc n ret :: fn_big
theorem fn_l1 {w : Cond} (h : w ∈ tables_1_1) : w ∈ tables_1 := List.mem_append_left _ h
theorem fn_l2 {w : Cond} (h : w ∈ tables_1_2) : w ∈ tables_1 := List.mem_append_right _ (List.mem_append_left _ h)
theorem fn_l3 {w : Cond} (h : w ∈ tables_1_3) : w ∈ tables_1 := List.mem_append_right _ (List.mem_append_right _ (List.mem_append_left _ h))
theorem fn_l4 {w : Cond} (h : w ∈ tables_1_4) : w ∈ tables_1 := List.mem_append_right _ (List.mem_append_right _ (List.mem_append_right _ (List.mem_append_left _ h)))
theorem fn_l5 {w : Cond} (h : w ∈ tables_1_5) : w ∈ tables_1 := List.mem_append_right _ (List.mem_append_right _ (List.mem_append_right _ (List.mem_append_right _ (List.mem_append_left _ h))))
theorem fn_l6 {w : Cond} (h : w ∈ tables_1_6) : w ∈ tables_1 := List.mem_append_right _ (List.mem_append_right _ (List.mem_append_right _ (List.mem_append_right _ (List.mem_append_right _ (List.mem_append_left _ h)))))
theorem fn_l7 {w : Cond} (h : w ∈ tables_1_7) : w ∈ tables_1 := List.mem_append_right _ (List.mem_append_right _ (List.mem_append_right _ (List.mem_append_right _ (List.mem_append_right _ (List.mem_append_right _ (List.mem_append_left _ h))))))
theorem fn_l8 {w : Cond} (h : w ∈ tables_1_8) : w ∈ tables_1 := List.mem_append_right _ (List.mem_append_right _ (List.mem_append_right _ (List.mem_append_right _ (List.mem_append_right _ (List.mem_append_right _ (List.mem_append_right _ (List.mem_append_left _ h)))))))
theorem fn_l9 {w : Cond} (h : w ∈ tables_1_9) : w ∈ tables_1 := List.mem_append_right _ (List.mem_append_right _ (List.mem_append_right _ (List.mem_append_right _ (List.mem_append_right _ (List.mem_append_right _ (List.mem_append_right _ (List.mem_append_right _ (h))))))))
theorem fn_tb {w : Cond} (h : w ∈ tables_1) (g : goodWord w = true) : w ∈ fn_big := List.mem_filter.mpr ⟨List.mem_append_right _ h, g⟩
theorem fn_one {w : Cond} (i : Nat) (h : tables_1[i]? = some w) (g : goodWord w = true) : w ∈ fn_big := fn_tb (List.mem_of_getElem? h) g
theorem fn_sel {q : MethodName × Nat} (i : Nat) (h : lw_privs[i]? = some q) (g : goodWord (Cond.selects q.1.cls q.1 q.1) = true) : Cond.selects q.1.cls q.1 q.1 ∈ fn_big := List.mem_filter.mpr ⟨List.mem_append_left _ (List.mem_map.mpr ⟨q, List.mem_of_getElem? h, rfl⟩), g⟩
theorem fn_sub {ws : List Cond} (ps : List Nat) (h : ws = ps.filterMap (fun i => tables_1[i]?)) (g : ws.all goodWord = true) : ∀ w ∈ ws, w ∈ fn_big := by
  intro w hw
  have h1 := List.all_eq_true.mp g w hw
  rw [h] at hw
  obtain ⟨i, -, hi⟩ := List.mem_filterMap.mp hw
  exact fn_tb (List.mem_of_getElem? hi) h1
theorem fn_gin {y : MethodName} {cc : ByteArray} {n : Nat} {ret : Option FieldType} (h : Cond.code y cc n ret ∈ fn_big) : GoodIn fn_big (fn_ws y cc n ret) := by
  intro w hw
  rcases List.mem_cons.mp hw with rfl | hw
  · exact ⟨h, good_of_word (List.mem_filter.mp h).2⟩
  · exact ⟨hw, good_of_word (List.mem_filter.mp hw).2⟩
theorem fn_big_in : ∀ w ∈ fn_big, w ∈ lw_tbl := fun w h => (List.mem_filter.mp h).1
theorem inb_X0 : ∀ w ∈ wsX00, w ∈ fn_big := fn_sub [281, 283, 285, 287, 289, 291, 293, 295, 297, 299, 301, 303] (by decide +kernel) (by decide +kernel)
theorem inb_X1 : ∀ w ∈ wsX10, w ∈ fn_big := fn_sub [390, 392, 394, 396] (by decide +kernel) (by decide +kernel)
theorem inb_X2 : ∀ w ∈ wsX20, w ∈ fn_big := fn_sub [366, 368, 370, 372, 374, 376] (by decide +kernel) (by decide +kernel)
theorem inb_X3 : ∀ w ∈ wsX30, w ∈ fn_big := fn_sub [167, 169, 171, 173] (by decide +kernel) (by decide +kernel)
theorem inb_X4 : ∀ w ∈ wsX40, w ∈ fn_big := fn_sub [412, 414, 416, 418] (by decide +kernel) (by decide +kernel)
theorem inb_X5 : ∀ w ∈ wsX50, w ∈ fn_big := fn_sub [198, 200, 202, 204, 206, 208, 210, 212] (by decide +kernel) (by decide +kernel)
theorem inb_X6 : ∀ w ∈ wsX60, w ∈ fn_big := fn_sub [50, 52, 54, 56, 58] (by decide +kernel) (by decide +kernel)
theorem inb_X7 : ∀ w ∈ wsX70, w ∈ fn_big := fn_sub [127, 129, 131, 133, 135, 137, 139, 141, 143, 145, 147, 149, 151, 153, 155] (by decide +kernel) (by decide +kernel)
theorem inb_X8 : ∀ w ∈ wsX80, w ∈ fn_big := fn_sub [342, 344, 346, 348] (by decide +kernel) (by decide +kernel)
theorem inb_X9 : ∀ w ∈ wsX90, w ∈ fn_big := fn_sub [324, 326, 328, 330, 332, 334] (by decide +kernel) (by decide +kernel)
theorem inb_X10 : ∀ w ∈ wsX100, w ∈ fn_big := fn_sub [241, 243, 245, 247, 249, 251, 253] (by decide +kernel) (by decide +kernel)
theorem inb_X11 : ∀ w ∈ wsX110, w ∈ fn_big := fn_sub [435, 437, 439, 441, 443, 445, 447, 449, 451, 453, 455, 457, 459] (by decide +kernel) (by decide +kernel)
theorem inb_X12 : ∀ w ∈ wsX120, w ∈ fn_big := fn_sub [1285, 1287, 1289, 1291, 1293, 1295, 1297, 1299, 1301, 1303, 1305, 1307, 1309, 1311, 1313, 1315, 1317, 1319, 1321, 1323, 1325, 1327, 1329, 1331, 1333, 1335, 1337, 1339, 1341, 1343, 1345, 1347, 1349, 1351, 1353, 1355, 1357, 1359, 1361, 1363, 1365, 1367, 1369, 1371, 1373, 1375, 1377, 1379, 1381, 1383, 1385] (by decide +kernel) (by decide +kernel)
