theorem goodIn_r {big : List Cond} (ws : List Cond) (ps : List Nat) (hp : ws = ps.filterMap (fun i => big[i]?)) (h : ws.all goodWord = true) : GoodIn big ws := by
  intro w hw
  have h1 := List.all_eq_true.mp h w hw
  rw [hp] at hw
  obtain ⟨i, -, hi⟩ := List.mem_filterMap.mp hw
  have hm : w ∈ big := by first | exact List.mem_of_getElem? hi | exact List.getElem?_mem hi
  exact ⟨hm, good_of_word h1⟩
theorem goodIn_app {big a b : List Cond} (ha : GoodIn big a) (hb : GoodIn big b) : GoodIn big (a ++ b) := fun w h => (List.mem_append.mp h).elim (ha w) (hb w)
theorem goodIn_ca {big a b : List Cond} {c : Cond} (ha : GoodIn big (c :: a)) (hb : GoodIn big b) : GoodIn big (c :: (a ++ b)) := fun w h => (List.mem_cons.mp h).elim (fun e => ha w (List.mem_cons.mpr (Or.inl e))) (fun h => (List.mem_append.mp h).elim (fun h => ha w (List.mem_cons.mpr (Or.inr h))) (hb w))
theorem goodIn_sub {big ws : List Cond} (hm : ∀ w ∈ ws, w ∈ big) (h : ws.all goodWord = true) : GoodIn big ws := fun w hw => ⟨hm w hw, good_of_word (List.all_eq_true.mp h w hw)⟩
def RX0 : String := "MothAudit$Dresser"
def TX0 : u_T := fun k => match k with
  | 0 => ("MothAudit$Dresser", "fewest", "[I", true)
  | _ => ("MothAudit$Dresser", "next", "[I", true)
def tyX0 : Nat → FieldType := fun k => match k with
  | 0 => .array .int
  | _ => .array .int
abbrev wsX00 : List Cond := u_ws RX0 TX0 2
theorem nmX0 : ∀ a, a < 2 → ∀ b, b < 2 → a ≠ b → (TX0 a).2.1 ≠ (TX0 b).2.1 := by decide +kernel
theorem tyX0_ok : ∀ k, k < 2 → parseFieldDescriptor (TX0 k).2.2.1 = some (tyX0 k) := by decide +kernel
abbrev cX0_init : ByteArray := prog_2_method_1_code
def yX0_init : MethodName := ⟨RX0, "<init>", "()V"⟩
abbrev cX0_plan : ByteArray := prog_2_method_2_code
def yX0_plan : MethodName := ⟨RX0, "plan", "(LMothAudit$Wardrobe;)V"⟩
abbrev cX0_planBehind : ByteArray := prog_2_method_3_code
def yX0_planBehind : MethodName := ⟨RX0, "planBehind", "(LMothAudit$Wardrobe;I)V"⟩
abbrev cX0_fewestSeen : ByteArray := prog_2_method_4_code
def yX0_fewestSeen : MethodName := ⟨RX0, "fewestSeen", "()I"⟩
abbrev cX0_robeFor : ByteArray := prog_2_method_5_code
def yX0_robeFor : MethodName := ⟨RX0, "robeFor", "(I)I"⟩
def RX1 : String := "MothAudit$Odds"
def TX1 : u_T := fun k => match k with
  | _ => ("MothAudit$Odds", "ways", "[J", true)
def tyX1 : Nat → FieldType := fun k => match k with
  | _ => .array .long
abbrev wsX10 : List Cond := u_ws RX1 TX1 1
theorem nmX1 : ∀ a, a < 1 → ∀ b, b < 1 → a ≠ b → (TX1 a).2.1 ≠ (TX1 b).2.1 := by decide +kernel
theorem tyX1_ok : ∀ k, k < 1 → parseFieldDescriptor (TX1 k).2.2.1 = some (tyX1 k) := by decide +kernel
abbrev cX1_init : ByteArray := prog_3_method_1_code
def yX1_init : MethodName := ⟨RX1, "<init>", "()V"⟩
abbrev cX1_partOfAtLeast : ByteArray := prog_3_method_2_code
def yX1_partOfAtLeast : MethodName := ⟨RX1, "partOfAtLeast", "(IIII)J"⟩
abbrev cX1_countWays : ByteArray := prog_3_method_3_code
def yX1_countWays : MethodName := ⟨RX1, "countWays", "(II)J"⟩
abbrev cX1_greatestDivisor : ByteArray := prog_3_method_4_code
def yX1_greatestDivisor : MethodName := ⟨RX1, "greatestDivisor", "(JJ)J"⟩
def RX2 : String := "MothAudit$Pad"
def TX2 : u_T := fun k => match k with
  | 0 => ("MothAudit$Pad", "signs", "[I", true)
  | _ => ("MothAudit$Pad", "count", "I", false)
def tyX2 : Nat → FieldType := fun k => match k with
  | 0 => .array .int
  | _ => .int
abbrev wsX20 : List Cond := u_ws RX2 TX2 2
theorem nmX2 : ∀ a, a < 2 → ∀ b, b < 2 → a ≠ b → (TX2 a).2.1 ≠ (TX2 b).2.1 := by decide +kernel
theorem tyX2_ok : ∀ k, k < 2 → parseFieldDescriptor (TX2 k).2.2.1 = some (tyX2 k) := by decide +kernel
abbrev cX2_init : ByteArray := prog_4_method_1_code
def yX2_init : MethodName := ⟨RX2, "<init>", "()V"⟩
abbrev cX2_add : ByteArray := prog_4_method_2_code
def yX2_add : MethodName := ⟨RX2, "add", "(I)V"⟩
abbrev cX2_signAt : ByteArray := prog_4_method_3_code
def yX2_signAt : MethodName := ⟨RX2, "signAt", "(I)I"⟩
abbrev cX2_isLetter : ByteArray := prog_4_method_4_code
def yX2_isLetter : MethodName := ⟨RX2, "isLetter", "(I)Z"⟩
abbrev cX2_isDigit : ByteArray := prog_4_method_5_code
def yX2_isDigit : MethodName := ⟨RX2, "isDigit", "(I)Z"⟩
abbrev cX2_isRobeAct : ByteArray := prog_4_method_6_code
def yX2_isRobeAct : MethodName := ⟨RX2, "isRobeAct", "(I)Z"⟩
abbrev cX2_firstFault : ByteArray := prog_4_method_7_code
def yX2_firstFault : MethodName := ⟨RX2, "firstFault", "()I"⟩
abbrev cX2_hasLetterAt : ByteArray := prog_4_method_8_code
def yX2_hasLetterAt : MethodName := ⟨RX2, "hasLetterAt", "(I)Z"⟩
abbrev cX2_kindAt : ByteArray := prog_4_method_9_code
def yX2_kindAt : MethodName := ⟨RX2, "kindAt", "(I)I"⟩
abbrev cX2_subjectAt : ByteArray := prog_4_method_10_code
def yX2_subjectAt : MethodName := ⟨RX2, "subjectAt", "(I)I"⟩
def RX3 : String := "MothAudit$Rehearsal"
def TX3 : u_T := fun k => match k with
  | 0 => ("MothAudit$Rehearsal", "wardrobe", "LMothAudit$Wardrobe;", true)
  | 1 => ("MothAudit$Rehearsal", "acts", "I", false)
  | 2 => ("MothAudit$Rehearsal", "stoppedAt", "I", false)
  | 3 => ("MothAudit$Rehearsal", "why", "I", false)
  | 4 => ("MothAudit$Rehearsal", "cellsEaten", "I", false)
  | 5 => ("MothAudit$Rehearsal", "baredAt", "I", false)
  | _ => ("MothAudit$Rehearsal", "baredRobe", "I", false)
def tyX3 : Nat → FieldType := fun k => match k with
  | 0 => .object "MothAudit$Wardrobe"
  | 1 => .int
  | 2 => .int
  | 3 => .int
  | 4 => .int
  | 5 => .int
  | _ => .int
abbrev wsX30 : List Cond := u_ws RX3 TX3 7
theorem nmX3 : ∀ a, a < 7 → ∀ b, b < 7 → a ≠ b → (TX3 a).2.1 ≠ (TX3 b).2.1 := by decide +kernel
theorem tyX3_ok : ∀ k, k < 7 → parseFieldDescriptor (TX3 k).2.2.1 = some (tyX3 k) := by decide +kernel
abbrev cX3_init : ByteArray := prog_5_method_1_code
def yX3_init : MethodName := ⟨RX3, "<init>", "()V"⟩
abbrev cX3_begin : ByteArray := prog_5_method_2_code
def yX3_begin : MethodName := ⟨RX3, "begin", "(LMothAudit$Wardrobe;)V"⟩
abbrev cX3_follow : ByteArray := prog_5_method_3_code
def yX3_follow : MethodName := ⟨RX3, "follow", "(LMothAudit$Pad;)V"⟩
abbrev cX3_drawActs : ByteArray := prog_5_method_4_code
def yX3_drawActs : MethodName := ⟨RX3, "drawActs", "(II)V"⟩
abbrev cX3_reasonAgainst : ByteArray := prog_5_method_5_code
def yX3_reasonAgainst : MethodName := ⟨RX3, "reasonAgainst", "(II)I"⟩
abbrev cX3_reasonAgainstRobeAct : ByteArray := prog_5_method_6_code
def yX3_reasonAgainstRobeAct : MethodName := ⟨RX3, "reasonAgainstRobeAct", "(II)I"⟩
abbrev cX3_carryOut : ByteArray := prog_5_method_7_code
def yX3_carryOut : MethodName := ⟨RX3, "carryOut", "(II)V"⟩
abbrev cX3_carryOutOnRobe : ByteArray := prog_5_method_8_code
def yX3_carryOutOnRobe : MethodName := ⟨RX3, "carryOutOnRobe", "(II)V"⟩
abbrev cX3_letMothsIn : ByteArray := prog_5_method_9_code
def yX3_letMothsIn : MethodName := ⟨RX3, "letMothsIn", "()V"⟩
abbrev cX3_eat : ByteArray := prog_5_method_10_code
def yX3_eat : MethodName := ⟨RX3, "eat", "(III)V"⟩
abbrev cX3_endYear : ByteArray := prog_5_method_11_code
def yX3_endYear : MethodName := ⟨RX3, "endYear", "()V"⟩
def RX4 : String := "MothAudit$Suspicion"
def TX4 : u_T := fun k => match k with
  | 0 => ("MothAudit$Suspicion", "setsWith", "[I", true)
  | 1 => ("MothAudit$Suspicion", "sets", "I", false)
  | 2 => ("MothAudit$Suspicion", "inSome", "I", false)
  | _ => ("MothAudit$Suspicion", "inAll", "I", false)
def tyX4 : Nat → FieldType := fun k => match k with
  | 0 => .array .int
  | 1 => .int
  | 2 => .int
  | _ => .int
abbrev wsX40 : List Cond := u_ws RX4 TX4 4
theorem nmX4 : ∀ a, a < 4 → ∀ b, b < 4 → a ≠ b → (TX4 a).2.1 ≠ (TX4 b).2.1 := by decide +kernel
theorem tyX4_ok : ∀ k, k < 4 → parseFieldDescriptor (TX4 k).2.2.1 = some (tyX4 k) := by decide +kernel
abbrev cX4_init : ByteArray := prog_6_method_1_code
def yX4_init : MethodName := ⟨RX4, "<init>", "()V"⟩
abbrev cX4_fewestToBlame : ByteArray := prog_6_method_2_code
def yX4_fewestToBlame : MethodName := ⟨RX4, "fewestToBlame", "(LMothAudit$Wardrobe;I)I"⟩
abbrev cX4_weigh : ByteArray := prog_6_method_3_code
def yX4_weigh : MethodName := ⟨RX4, "weigh", "(LMothAudit$Wardrobe;I)V"⟩
abbrev cX4_count : ByteArray := prog_6_method_4_code
def yX4_count : MethodName := ⟨RX4, "count", "(I)V"⟩
abbrev cX4_mostLeft : ByteArray := prog_6_method_5_code
def yX4_mostLeft : MethodName := ⟨RX4, "mostLeft", "(I)I"⟩
abbrev cX4_sayingToTry : ByteArray := prog_6_method_6_code
def yX4_sayingToTry : MethodName := ⟨RX4, "sayingToTry", "()I"⟩
def RX5 : String := "MothAudit$Tailor"
def TX5 : u_T := fun k => match k with
  | _ => ("MothAudit$Tailor", "most", "[I", true)
def tyX5 : Nat → FieldType := fun k => match k with
  | _ => .array .int
abbrev wsX50 : List Cond := u_ws RX5 TX5 1
theorem nmX5 : ∀ a, a < 1 → ∀ b, b < 1 → a ≠ b → (TX5 a).2.1 ≠ (TX5 b).2.1 := by decide +kernel
theorem tyX5_ok : ∀ k, k < 1 → parseFieldDescriptor (TX5 k).2.2.1 = some (tyX5 k) := by decide +kernel
abbrev cX5_init : ByteArray := prog_7_method_1_code
def yX5_init : MethodName := ⟨RX5, "<init>", "()V"⟩
abbrev cX5_mostWorth : ByteArray := prog_7_method_2_code
def yX5_mostWorth : MethodName := ⟨RX5, "mostWorth", "(IIIII)I"⟩
abbrev cX5_winningDarn : ByteArray := prog_7_method_3_code
def yX5_winningDarn : MethodName := ⟨RX5, "winningDarn", "(I)I"⟩
abbrev cX5_nimOf : ByteArray := prog_7_method_4_code
def yX5_nimOf : MethodName := ⟨RX5, "nimOf", "(I)I"⟩
abbrev cX5_nimOfRow : ByteArray := prog_7_method_5_code
def yX5_nimOfRow : MethodName := ⟨RX5, "nimOfRow", "(I)I"⟩
def RX6 : String := "MothAudit$Wardrobe"
def TX6 : u_T := fun k => match k with
  | 0 => ("MothAudit$Wardrobe", "holes", "[I", true)
  | 1 => ("MothAudit$Wardrobe", "camphor", "[I", true)
  | 2 => ("MothAudit$Wardrobe", "press", "I", false)
  | 3 => ("MothAudit$Wardrobe", "years", "I", false)
  | 4 => ("MothAudit$Wardrobe", "robeOf", "[I", true)
  | 5 => ("MothAudit$Wardrobe", "shape", "[I", true)
  | 6 => ("MothAudit$Wardrobe", "untruth", "[I", true)
  | 7 => ("MothAudit$Wardrobe", "shown", "[I", true)
  | 8 => ("MothAudit$Wardrobe", "sights", "[I", true)
  | 9 => ("MothAudit$Wardrobe", "bittenSights", "I", false)
  | _ => ("MothAudit$Wardrobe", "sightCount", "I", false)
def tyX6 : Nat → FieldType := fun k => match k with
  | 0 => .array .int
  | 1 => .array .int
  | 2 => .int
  | 3 => .int
  | 4 => .array .int
  | 5 => .array .int
  | 6 => .array .int
  | 7 => .array .int
  | 8 => .array .int
  | 9 => .int
  | _ => .int
abbrev wsX60 : List Cond := u_ws RX6 TX6 11
theorem nmX6 : ∀ a, a < 11 → ∀ b, b < 11 → a ≠ b → (TX6 a).2.1 ≠ (TX6 b).2.1 := by decide +kernel
theorem tyX6_ok : ∀ k, k < 11 → parseFieldDescriptor (TX6 k).2.2.1 = some (tyX6 k) := by decide +kernel
abbrev cX6_init : ByteArray := prog_8_method_1_code
def yX6_init : MethodName := ⟨RX6, "<init>", "()V"⟩
abbrev cX6_copyFrom : ByteArray := prog_8_method_2_code
def yX6_copyFrom : MethodName := ⟨RX6, "copyFrom", "(LMothAudit$Wardrobe;)V"⟩
abbrev cX6_isInPress : ByteArray := prog_8_method_3_code
def yX6_isInPress : MethodName := ⟨RX6, "isInPress", "(I)Z"⟩
abbrev cX6_wholeCells : ByteArray := prog_8_method_4_code
def yX6_wholeCells : MethodName := ⟨RX6, "wholeCells", "()I"⟩
abbrev cX6_bareRobes : ByteArray := prog_8_method_5_code
def yX6_bareRobes : MethodName := ⟨RX6, "bareRobes", "()I"⟩
abbrev cX6_falseSayings : ByteArray := prog_8_method_6_code
def yX6_falseSayings : MethodName := ⟨RX6, "falseSayings", "()I"⟩
abbrev cX6_sayingsIn : ByteArray := prog_8_method_7_code
def yX6_sayingsIn : MethodName := ⟨RX6, "sayingsIn", "(I)I"⟩
abbrev cX6_shapeOfAll : ByteArray := prog_8_method_8_code
def yX6_shapeOfAll : MethodName := ⟨RX6, "shapeOfAll", "(I)I"⟩
abbrev cX6_addSight : ByteArray := prog_8_method_9_code
def yX6_addSight : MethodName := ⟨RX6, "addSight", "(IZ)V"⟩
abbrev cX6_fitsSights : ByteArray := prog_8_method_10_code
def yX6_fitsSights : MethodName := ⟨RX6, "fitsSights", "(I)Z"⟩
def RX7 : String := "MothAudit"
def TX7 : u_T := fun k => match k with
  | 0 => ("MothAudit", "now", "LMothAudit$Wardrobe;", true)
  | 1 => ("MothAudit", "pad", "LMothAudit$Pad;", true)
  | 2 => ("MothAudit", "trial", "LMothAudit$Rehearsal;", true)
  | 3 => ("MothAudit", "images", "[LMothAudit$Wardrobe;", true)
  | 4 => ("MothAudit", "suspicion", "LMothAudit$Suspicion;", true)
  | 5 => ("MothAudit", "tailor", "LMothAudit$Tailor;", true)
  | 6 => ("MothAudit", "dresser", "LMothAudit$Dresser;", true)
  | _ => ("MothAudit", "odds", "LMothAudit$Odds;", true)
def tyX7 : Nat → FieldType := fun k => match k with
  | 0 => .object "MothAudit$Wardrobe"
  | 1 => .object "MothAudit$Pad"
  | 2 => .object "MothAudit$Rehearsal"
  | 3 => .array (.object "MothAudit$Wardrobe")
  | 4 => .object "MothAudit$Suspicion"
  | 5 => .object "MothAudit$Tailor"
  | 6 => .object "MothAudit$Dresser"
  | _ => .object "MothAudit$Odds"
abbrev wsX70 : List Cond := u_ws RX7 TX7 8
theorem nmX7 : ∀ a, a < 8 → ∀ b, b < 8 → a ≠ b → (TX7 a).2.1 ≠ (TX7 b).2.1 := by decide +kernel
theorem tyX7_ok : ∀ k, k < 8 → parseFieldDescriptor (TX7 k).2.2.1 = some (tyX7 k) := by decide +kernel
abbrev cX7_init : ByteArray := prog_1_method_1_code
def yX7_init : MethodName := ⟨RX7, "<init>", "()V"⟩
abbrev cX7_robe : ByteArray := prog_1_method_2_code
def yX7_robe : MethodName := ⟨RX7, "robe", "(III)I"⟩
abbrev cX7_saying : ByteArray := prog_1_method_3_code
def yX7_saying : MethodName := ⟨RX7, "saying", "(IIII)I"⟩
abbrev cX7_occasion : ByteArray := prog_1_method_4_code
def yX7_occasion : MethodName := ⟨RX7, "occasion", "(II)I"⟩
abbrev cX7_say : ByteArray := prog_1_method_5_code
def yX7_say : MethodName := ⟨RX7, "say", "(I)I"⟩
abbrev cX7_wipe : ByteArray := prog_1_method_6_code
def yX7_wipe : MethodName := ⟨RX7, "wipe", "()I"⟩
abbrev cX7_fault : ByteArray := prog_1_method_7_code
def yX7_fault : MethodName := ⟨RX7, "fault", "()I"⟩
abbrev cX7_judge : ByteArray := prog_1_method_8_code
def yX7_judge : MethodName := ⟨RX7, "judge", "(I)I"⟩
abbrev cX7_done : ByteArray := prog_1_method_9_code
def yX7_done : MethodName := ⟨RX7, "done", "()I"⟩
abbrev cX7_behind : ByteArray := prog_1_method_10_code
def yX7_behind : MethodName := ⟨RX7, "behind", "(II)I"⟩
abbrev cX7_untrue : ByteArray := prog_1_method_11_code
def yX7_untrue : MethodName := ⟨RX7, "untrue", "(I)I"⟩
abbrev cX7_eaten : ByteArray := prog_1_method_12_code
def yX7_eaten : MethodName := ⟨RX7, "eaten", "(I)I"⟩
abbrev cX7_blame : ByteArray := prog_1_method_13_code
def yX7_blame : MethodName := ⟨RX7, "blame", "(II)I"⟩
abbrev cX7_cuts : ByteArray := prog_1_method_14_code
def yX7_cuts : MethodName := ⟨RX7, "cuts", "(IIIII)I"⟩
abbrev cX7_wear : ByteArray := prog_1_method_15_code
def yX7_wear : MethodName := ⟨RX7, "wear", "(I)I"⟩
abbrev cX7_seen : ByteArray := prog_1_method_16_code
def yX7_seen : MethodName := ⟨RX7, "seen", "(IZ)I"⟩
abbrev cX7_forget : ByteArray := prog_1_method_17_code
def yX7_forget : MethodName := ⟨RX7, "forget", "()I"⟩
abbrev cX7_liars : ByteArray := prog_1_method_18_code
def yX7_liars : MethodName := ⟨RX7, "liars", "(II)I"⟩
abbrev cX7_tries : ByteArray := prog_1_method_19_code
def yX7_tries : MethodName := ⟨RX7, "tries", "(II)I"⟩
abbrev cX7_darns : ByteArray := prog_1_method_20_code
def yX7_darns : MethodName := ⟨RX7, "darns", "(II)I"⟩
abbrev cX7_chance : ByteArray := prog_1_method_21_code
def yX7_chance : MethodName := ⟨RX7, "chance", "(IIII)J"⟩
abbrev cX7_year : ByteArray := prog_1_method_22_code
def yX7_year : MethodName := ⟨RX7, "year", "(III)I"⟩
abbrev cX7_image : ByteArray := prog_1_method_23_code
def yX7_image : MethodName := ⟨RX7, "image", "(I)I"⟩
abbrev cX7_restore : ByteArray := prog_1_method_24_code
def yX7_restore : MethodName := ⟨RX7, "restore", "(I)I"⟩
abbrev cX7_told : ByteArray := prog_1_method_25_code
def yX7_told : MethodName := ⟨RX7, "told", "(I)I"⟩
abbrev cX7_toldOfAll : ByteArray := prog_1_method_26_code
def yX7_toldOfAll : MethodName := ⟨RX7, "toldOfAll", "(I)I"⟩
abbrev cX7_toldOfRobe : ByteArray := prog_1_method_27_code
def yX7_toldOfRobe : MethodName := ⟨RX7, "toldOfRobe", "(II)I"⟩
abbrev cX7_toldOfSaying : ByteArray := prog_1_method_28_code
def yX7_toldOfSaying : MethodName := ⟨RX7, "toldOfSaying", "(II)I"⟩
abbrev cX7_rehearse : ByteArray := prog_1_method_29_code
def yX7_rehearse : MethodName := ⟨RX7, "rehearse", "()V"⟩
abbrev cX7_canAllBe : ByteArray := prog_1_method_30_code
def yX7_canAllBe : MethodName := ⟨RX7, "canAllBe", "()Z"⟩
abbrev cX7_isWithin : ByteArray := prog_1_method_31_code
def yX7_isWithin : MethodName := ⟨RX7, "isWithin", "(III)Z"⟩
abbrev cX7_isRobe : ByteArray := prog_1_method_32_code
def yX7_isRobe : MethodName := ⟨RX7, "isRobe", "(I)Z"⟩
abbrev cX7_isSaying : ByteArray := prog_1_method_33_code
def yX7_isSaying : MethodName := ⟨RX7, "isSaying", "(I)Z"⟩
abbrev cX7_isOccasion : ByteArray := prog_1_method_34_code
def yX7_isOccasion : MethodName := ⟨RX7, "isOccasion", "(I)Z"⟩
abbrev cX7_leastIn : ByteArray := prog_1_method_35_code
def yX7_leastIn : MethodName := ⟨RX7, "leastIn", "(I)I"⟩
def RX8 : String := "MothAuditModel"
def TX8 : u_T := fun k => match k with
  | 0 => ("MothAuditModel", "book", "[I", true)
  | 1 => ("MothAuditModel", "now", "[I", true)
  | 2 => ("MothAuditModel", "where", "[I", true)
  | 3 => ("MothAuditModel", "shape", "[I", true)
  | 4 => ("MothAuditModel", "seenThen", "[I", true)
  | 5 => ("MothAuditModel", "sights", "I", false)
  | 6 => ("MothAuditModel", "sight", "[I", true)
  | 7 => ("MothAuditModel", "signs", "I", false)
  | 8 => ("MothAuditModel", "pad", "[I", true)
  | 9 => ("MothAuditModel", "bitten", "I", false)
  | 10 => ("MothAuditModel", "goneAt", "I", false)
  | 11 => ("MothAuditModel", "goneRobe", "I", false)
  | 12 => ("MothAuditModel", "reason", "I", false)
  | 13 => ("MothAuditModel", "acts", "I", false)
  | 14 => ("MothAuditModel", "worth", "[I", true)
  | 15 => ("MothAuditModel", "counts", "[I", true)
  | 16 => ("MothAuditModel", "row", "[I", true)
  | 17 => ("MothAuditModel", "isMet", "[Z", true)
  | 18 => ("MothAuditModel", "ways", "[J", true)
  | 19 => ("MothAuditModel", "image", "[I", true)
  | _ => ("MothAuditModel", "isKept", "[Z", true)
def tyX8 : Nat → FieldType := fun k => match k with
  | 0 => .array .int
  | 1 => .array .int
  | 2 => .array .int
  | 3 => .array .int
  | 4 => .array .int
  | 5 => .int
  | 6 => .array .int
  | 7 => .int
  | 8 => .array .int
  | 9 => .int
  | 10 => .int
  | 11 => .int
  | 12 => .int
  | 13 => .int
  | 14 => .array .int
  | 15 => .array .int
  | 16 => .array .int
  | 17 => .array .boolean
  | 18 => .array .long
  | 19 => .array .int
  | _ => .array .boolean
abbrev wsX80 : List Cond := u_ws RX8 TX8 21
theorem nmX8 : ∀ a, a < 21 → ∀ b, b < 21 → a ≠ b → (TX8 a).2.1 ≠ (TX8 b).2.1 := by decide +kernel
theorem tyX8_ok : ∀ k, k < 21 → parseFieldDescriptor (TX8 k).2.2.1 = some (tyX8 k) := by decide +kernel
abbrev cX8_init : ByteArray := prog_10_method_1_code
def yX8_init : MethodName := ⟨RX8, "<init>", "()V"⟩
abbrev cX8_in : ByteArray := prog_10_method_2_code
def yX8_in : MethodName := ⟨RX8, "in", "(III)Z"⟩
abbrev cX8_has : ByteArray := prog_10_method_3_code
def yX8_has : MethodName := ⟨RX8, "has", "(II)Z"⟩
abbrev cX8_bits : ByteArray := prog_10_method_4_code
def yX8_bits : MethodName := ⟨RX8, "bits", "(I)I"⟩
abbrev cX8_isRobe : ByteArray := prog_10_method_5_code
def yX8_isRobe : MethodName := ⟨RX8, "isRobe", "(I)Z"⟩
abbrev cX8_isSaying : ByteArray := prog_10_method_6_code
def yX8_isSaying : MethodName := ⟨RX8, "isSaying", "(I)Z"⟩
abbrev cX8_robe : ByteArray := prog_10_method_7_code
def yX8_robe : MethodName := ⟨RX8, "robe", "(III)I"⟩
abbrev cX8_saying : ByteArray := prog_10_method_8_code
def yX8_saying : MethodName := ⟨RX8, "saying", "(IIII)I"⟩
abbrev cX8_occasion : ByteArray := prog_10_method_9_code
def yX8_occasion : MethodName := ⟨RX8, "occasion", "(II)I"⟩
abbrev cX8_say : ByteArray := prog_10_method_10_code
def yX8_say : MethodName := ⟨RX8, "say", "(I)I"⟩
abbrev cX8_wipe : ByteArray := prog_10_method_11_code
def yX8_wipe : MethodName := ⟨RX8, "wipe", "()I"⟩
abbrev cX8_faultOf : ByteArray := prog_10_method_12_code
def yX8_faultOf : MethodName := ⟨RX8, "faultOf", "()I"⟩
abbrev cX8_fault : ByteArray := prog_10_method_13_code
def yX8_fault : MethodName := ⟨RX8, "fault", "()I"⟩
abbrev cX8_asNow : ByteArray := prog_10_method_14_code
def yX8_asNow : MethodName := ⟨RX8, "asNow", "()V"⟩
abbrev cX8_layIn : ByteArray := prog_10_method_15_code
def yX8_layIn : MethodName := ⟨RX8, "layIn", "(I)I"⟩
abbrev cX8_takeOut : ByteArray := prog_10_method_16_code
def yX8_takeOut : MethodName := ⟨RX8, "takeOut", "(I)I"⟩
abbrev cX8_strew : ByteArray := prog_10_method_17_code
def yX8_strew : MethodName := ⟨RX8, "strew", "(I)I"⟩
abbrev cX8_darn : ByteArray := prog_10_method_18_code
def yX8_darn : MethodName := ⟨RX8, "darn", "(I)I"⟩
abbrev cX8_ownUp : ByteArray := prog_10_method_19_code
def yX8_ownUp : MethodName := ⟨RX8, "ownUp", "(I)I"⟩
abbrev cX8_moths : ByteArray := prog_10_method_20_code
def yX8_moths : MethodName := ⟨RX8, "moths", "()I"⟩
abbrev cX8_endYear : ByteArray := prog_10_method_21_code
def yX8_endYear : MethodName := ⟨RX8, "endYear", "()I"⟩
abbrev cX8_goneNow : ByteArray := prog_10_method_22_code
def yX8_goneNow : MethodName := ⟨RX8, "goneNow", "()I"⟩
abbrev cX8_robeAct : ByteArray := prog_10_method_23_code
def yX8_robeAct : MethodName := ⟨RX8, "robeAct", "(II)I"⟩
abbrev cX8_goYears : ByteArray := prog_10_method_24_code
def yX8_goYears : MethodName := ⟨RX8, "goYears", "()I"⟩
abbrev cX8_judge : ByteArray := prog_10_method_25_code
def yX8_judge : MethodName := ⟨RX8, "judge", "(I)I"⟩
abbrev cX8_barOfYears : ByteArray := prog_10_method_26_code
def yX8_barOfYears : MethodName := ⟨RX8, "barOfYears", "()I"⟩
abbrev cX8_done : ByteArray := prog_10_method_27_code
def yX8_done : MethodName := ⟨RX8, "done", "()I"⟩
abbrev cX8_behind : ByteArray := prog_10_method_28_code
def yX8_behind : MethodName := ⟨RX8, "behind", "(II)I"⟩
abbrev cX8_untrue : ByteArray := prog_10_method_29_code
def yX8_untrue : MethodName := ⟨RX8, "untrue", "(I)I"⟩
abbrev cX8_eaten : ByteArray := prog_10_method_30_code
def yX8_eaten : MethodName := ⟨RX8, "eaten", "(I)I"⟩
abbrev cX8_blame : ByteArray := prog_10_method_31_code
def yX8_blame : MethodName := ⟨RX8, "blame", "(II)I"⟩
abbrev cX8_wholeFrom : ByteArray := prog_10_method_32_code
def yX8_wholeFrom : MethodName := ⟨RX8, "wholeFrom", "(II)I"⟩
abbrev cX8_cuts : ByteArray := prog_10_method_33_code
def yX8_cuts : MethodName := ⟨RX8, "cuts", "(IIIII)I"⟩
abbrev cX8_wear : ByteArray := prog_10_method_34_code
def yX8_wear : MethodName := ⟨RX8, "wear", "(I)I"⟩
abbrev cX8_seen : ByteArray := prog_10_method_35_code
def yX8_seen : MethodName := ⟨RX8, "seen", "(IZ)I"⟩
abbrev cX8_forget : ByteArray := prog_10_method_36_code
def yX8_forget : MethodName := ⟨RX8, "forget", "()I"⟩
abbrev cX8_areLies : ByteArray := prog_10_method_37_code
def yX8_areLies : MethodName := ⟨RX8, "areLies", "(II)Z"⟩
abbrev cX8_liars : ByteArray := prog_10_method_38_code
def yX8_liars : MethodName := ⟨RX8, "liars", "(II)I"⟩
abbrev cX8_tries : ByteArray := prog_10_method_39_code
def yX8_tries : MethodName := ⟨RX8, "tries", "(II)I"⟩
abbrev cX8_layRows : ByteArray := prog_10_method_40_code
def yX8_layRows : MethodName := ⟨RX8, "layRows", "()V"⟩
abbrev cX8_worthOf : ByteArray := prog_10_method_41_code
def yX8_worthOf : MethodName := ⟨RX8, "worthOf", "(I)I"⟩
abbrev cX8_darns : ByteArray := prog_10_method_42_code
def yX8_darns : MethodName := ⟨RX8, "darns", "(II)I"⟩
abbrev cX8_chance : ByteArray := prog_10_method_43_code
def yX8_chance : MethodName := ⟨RX8, "chance", "(IIII)J"⟩
abbrev cX8_year : ByteArray := prog_10_method_44_code
def yX8_year : MethodName := ⟨RX8, "year", "(III)I"⟩
abbrev cX8_image : ByteArray := prog_10_method_45_code
def yX8_image : MethodName := ⟨RX8, "image", "(I)I"⟩
abbrev cX8_restore : ByteArray := prog_10_method_46_code
def yX8_restore : MethodName := ⟨RX8, "restore", "(I)I"⟩
abbrev cX8_toldFalse : ByteArray := prog_10_method_47_code
def yX8_toldFalse : MethodName := ⟨RX8, "toldFalse", "()I"⟩
abbrev cX8_told : ByteArray := prog_10_method_48_code
def yX8_told : MethodName := ⟨RX8, "told", "(I)I"⟩
def RJ6 : String := "java/lang/Integer"
def TJ6 : u_T := fun k => match k with
  | _ => ("", "", "", false)
def tyJ6 : Nat → FieldType := fun k => match k with
  | _ => .int
abbrev wsJ60 : List Cond := u_ws RJ6 TJ6 0
theorem nmJ6 : ∀ a, a < 0 → ∀ b, b < 0 → a ≠ b → (TJ6 a).2.1 ≠ (TJ6 b).2.1 := by decide +kernel
theorem tyJ6_ok : ∀ k, k < 0 → parseFieldDescriptor (TJ6 k).2.2.1 = some (tyJ6 k) := by decide +kernel
abbrev cJ6_bitCount_0f7a4 : ByteArray := prog_11_method_49_code
def yJ6_bitCount_0f7a4 : MethodName := ⟨RJ6, "bitCount", "(I)I"⟩
def RJ9 : String := "java/lang/Math"
def TJ9 : u_T := fun k => match k with
  | _ => ("", "", "", false)
def tyJ9 : Nat → FieldType := fun k => match k with
  | _ => .int
abbrev wsJ90 : List Cond := u_ws RJ9 TJ9 0
theorem nmJ9 : ∀ a, a < 0 → ∀ b, b < 0 → a ≠ b → (TJ9 a).2.1 ≠ (TJ9 b).2.1 := by decide +kernel
theorem tyJ9_ok : ∀ k, k < 0 → parseFieldDescriptor (TJ9 k).2.2.1 = some (tyJ9 k) := by decide +kernel
abbrev cJ9_max_7cf53 : ByteArray := prog_12_method_65_code
def yJ9_max_7cf53 : MethodName := ⟨RJ9, "max", "(II)I"⟩
def RJ10 : String := "java/lang/System"
def TJ10 : u_T := fun k => match k with
  | _ => ("", "", "", false)
def tyJ10 : Nat → FieldType := fun k => match k with
  | _ => .int
abbrev wsJ100 : List Cond := u_ws RJ10 TJ10 0
theorem nmJ10 : ∀ a, a < 0 → ∀ b, b < 0 → a ≠ b → (TJ10 a).2.1 ≠ (TJ10 b).2.1 := by decide +kernel
theorem tyJ10_ok : ∀ k, k < 0 → parseFieldDescriptor (TJ10 k).2.2.1 = some (tyJ10 k) := by decide +kernel
def RL : String := "MothAuditLaw"
abbrev cL_law : ByteArray := code
def yL_law : MethodName := ⟨RL, "law", "([I)Z"⟩
def wsL_law_r1 : List Cond := [Cond.classLink RL 7 RX7, Cond.instantiable RX7 8, Cond.initialized RX7, Cond.classLink RL 10 RX8, Cond.instantiable RX8 21, Cond.initialized RX8, Cond.methodLink RL 9 yX7_init, Cond.instanceMethod yX7_init, Cond.code yX7_init cX7_init 1 none, Cond.methodLink RX7 1 objectInit, Cond.instanceMethod objectInit, Cond.code objectInit ⟨#[0xb1]⟩ 1 none, Cond.classLink RX7 7 RX6, Cond.instantiable RX6 11, Cond.initialized RX6, Cond.fieldLink RX7 10 "MothAudit" "now" "LMothAudit$Wardrobe;", Cond.classLink RX7 16 RX2, Cond.instantiable RX2 2, Cond.initialized RX2, Cond.fieldLink RX7 19 "MothAudit" "pad" "LMothAudit$Pad;", Cond.classLink RX7 23 RX3, Cond.instantiable RX3 7, Cond.initialized RX3, Cond.fieldLink RX7 26 "MothAudit" "trial" "LMothAudit$Rehearsal;"]
def wsL_law_r2 : List Cond := [Cond.fieldLink RX7 30 "MothAudit" "images" "[LMothAudit$Wardrobe;", Cond.classLink RX7 34 RX4, Cond.instantiable RX4 4, Cond.initialized RX4, Cond.fieldLink RX7 37 "MothAudit" "suspicion" "LMothAudit$Suspicion;", Cond.classLink RX7 41 RX5, Cond.instantiable RX5 1, Cond.initialized RX5, Cond.fieldLink RX7 44 "MothAudit" "tailor" "LMothAudit$Tailor;", Cond.classLink RX7 48 RX0, Cond.instantiable RX0 2, Cond.initialized RX0, Cond.fieldLink RX7 51 "MothAudit" "dresser" "LMothAudit$Dresser;", Cond.classLink RX7 55 RX1, Cond.instantiable RX1 1, Cond.initialized RX1, Cond.fieldLink RX7 58 "MothAudit" "odds" "LMothAudit$Odds;", Cond.instanceMethod yX6_init, Cond.code yX6_init cX6_init 1 none, Cond.methodLink RX6 3 objectInit, Cond.arrayClass .int, Cond.fieldLink RX6 9 "MothAudit$Wardrobe" "holes" "[I", Cond.fieldLink RX6 15 "MothAudit$Wardrobe" "camphor" "[I", Cond.fieldLink RX6 18 "MothAudit$Wardrobe" "robeOf" "[I"]
def wsL_law_r3 : List Cond := [Cond.fieldLink RX6 21 "MothAudit$Wardrobe" "shape" "[I", Cond.fieldLink RX6 24 "MothAudit$Wardrobe" "untruth" "[I", Cond.fieldLink RX6 27 "MothAudit$Wardrobe" "shown" "[I", Cond.fieldLink RX6 30 "MothAudit$Wardrobe" "sights" "[I", Cond.instanceMethod yX2_init, Cond.code yX2_init cX2_init 1 none, Cond.methodLink RX2 3 objectInit, Cond.fieldLink RX2 9 "MothAudit$Pad" "signs" "[I", Cond.instanceMethod yX3_init, Cond.code yX3_init cX3_init 1 none, Cond.methodLink RX3 3 objectInit, Cond.classLink RX3 9 RX6, Cond.fieldLink RX3 12 "MothAudit$Rehearsal" "wardrobe" "LMothAudit$Wardrobe;", Cond.instanceMethod yX4_init, Cond.code yX4_init cX4_init 1 none, Cond.methodLink RX4 3 objectInit, Cond.fieldLink RX4 9 "MothAudit$Suspicion" "setsWith" "[I", Cond.instanceMethod yX5_init, Cond.code yX5_init cX5_init 1 none, Cond.methodLink RX5 3 objectInit, Cond.fieldLink RX5 9 "MothAudit$Tailor" "most" "[I", Cond.instanceMethod yX0_init, Cond.code yX0_init cX0_init 1 none, Cond.methodLink RX0 3 objectInit]
def wsL_law_r4 : List Cond := [Cond.fieldLink RX0 11 "MothAudit$Dresser" "fewest" "[I", Cond.fieldLink RX0 15 "MothAudit$Dresser" "next" "[I", Cond.instanceMethod yX1_init, Cond.code yX1_init cX1_init 1 none, Cond.methodLink RX1 3 objectInit, Cond.arrayClass .long, Cond.fieldLink RX1 9 "MothAudit$Odds" "ways" "[J", Cond.methodLink RL 12 yX8_init, Cond.instanceMethod yX8_init, Cond.code yX8_init cX8_init 1 none, Cond.methodLink RX8 1 objectInit, Cond.fieldLink RX8 7 "MothAuditModel" "book" "[I", Cond.fieldLink RX8 13 "MothAuditModel" "now" "[I", Cond.fieldLink RX8 16 "MothAuditModel" "where" "[I", Cond.fieldLink RX8 19 "MothAuditModel" "shape" "[I", Cond.fieldLink RX8 22 "MothAuditModel" "seenThen" "[I", Cond.fieldLink RX8 25 "MothAuditModel" "sight" "[I", Cond.fieldLink RX8 28 "MothAuditModel" "pad" "[I", Cond.fieldLink RX8 31 "MothAuditModel" "worth" "[I", Cond.fieldLink RX8 34 "MothAuditModel" "counts" "[I", Cond.fieldLink RX8 37 "MothAuditModel" "row" "[I", Cond.arrayClass .boolean, Cond.fieldLink RX8 40 "MothAuditModel" "isMet" "[Z", Cond.fieldLink RX8 44 "MothAuditModel" "ways" "[J"]
def wsL_law_r5 : List Cond := [Cond.fieldLink RX8 48 "MothAuditModel" "image" "[I", Cond.fieldLink RX8 51 "MothAuditModel" "isKept" "[Z", Cond.fieldLink RX8 54 "MothAuditModel" "sights" "I", Cond.methodLink RL 13 yX7_robe, Cond.instanceMethod yX7_robe, Cond.selects RX7 yX7_robe yX7_robe, Cond.code yX7_robe cX7_robe 5 (some .int), Cond.constant RX7 66 (65535), Cond.fieldLink RX7 71 "MothAudit$Wardrobe" "holes" "[I", Cond.fieldLink RX7 75 "MothAudit$Wardrobe" "camphor" "[I", Cond.fieldLink RX7 78 "MothAudit$Wardrobe" "press" "I", Cond.methodLink RX7 62 yX7_isRobe, Cond.static yX7_isRobe, Cond.code yX7_isRobe cX7_isRobe 1 (some .boolean), Cond.methodLink RX7 67 yX7_isWithin, Cond.static yX7_isWithin, Cond.code yX7_isWithin cX7_isWithin 3 (some .boolean), Cond.methodLink RL 17 yX8_robe, Cond.instanceMethod yX8_robe, Cond.selects RX8 yX8_robe yX8_robe, Cond.code yX8_robe cX8_robe 5 (some .int), Cond.constant RX8 66 (65535), Cond.methodLink RX8 62 yX8_isRobe, Cond.static yX8_isRobe]
def wsL_law_r6 : List Cond := [Cond.code yX8_isRobe cX8_isRobe 1 (some .boolean), Cond.methodLink RX8 58 yX8_in, Cond.static yX8_in, Cond.code yX8_in cX8_in 3 (some .boolean), Cond.methodLink RL 18 yX7_saying, Cond.instanceMethod yX7_saying, Cond.selects RX7 yX7_saying yX7_saying, Cond.code yX7_saying cX7_saying 6 (some .int), Cond.fieldLink RX7 85 "MothAudit$Wardrobe" "untruth" "[I", Cond.fieldLink RX7 88 "MothAudit$Wardrobe" "robeOf" "[I", Cond.fieldLink RX7 91 "MothAudit$Wardrobe" "shape" "[I", Cond.methodLink RX7 82 yX7_isSaying, Cond.static yX7_isSaying, Cond.code yX7_isSaying cX7_isSaying 1 (some .boolean), Cond.methodLink RL 22 yX8_saying, Cond.instanceMethod yX8_saying, Cond.selects RX8 yX8_saying yX8_saying, Cond.code yX8_saying cX8_saying 6 (some .int), Cond.methodLink RX8 67 yX8_isSaying, Cond.static yX8_isSaying, Cond.code yX8_isSaying cX8_isSaying 1 (some .boolean), Cond.methodLink RL 23 yX7_occasion, Cond.instanceMethod yX7_occasion, Cond.selects RX7 yX7_occasion yX7_occasion]
def wsL_law_r7 : List Cond := [Cond.code yX7_occasion cX7_occasion 4 (some .int), Cond.fieldLink RX7 97 "MothAudit$Wardrobe" "shown" "[I", Cond.methodLink RX7 94 yX7_isOccasion, Cond.static yX7_isOccasion, Cond.code yX7_isOccasion cX7_isOccasion 1 (some .boolean), Cond.methodLink RL 27 yX8_occasion, Cond.instanceMethod yX8_occasion, Cond.selects RX8 yX8_occasion yX8_occasion, Cond.code yX8_occasion cX8_occasion 4 (some .int), Cond.methodLink RL 28 yX7_say, Cond.instanceMethod yX7_say, Cond.selects RX7 yX7_say yX7_say, Cond.code yX7_say cX7_say 2 (some .int), Cond.fieldLink RX7 100 "MothAudit$Pad" "count" "I", Cond.methodLink RX7 103 yX2_add, Cond.instanceMethod yX2_add, Cond.selects RX2 yX2_add yX2_add, Cond.code yX2_add cX2_add 2 none, Cond.fieldLink RX2 15 "MothAudit$Pad" "count" "I", Cond.methodLink RL 32 yX8_say, Cond.instanceMethod yX8_say, Cond.selects RX8 yX8_say yX8_say, Cond.code yX8_say cX8_say 2 (some .int), Cond.fieldLink RX8 70 "MothAuditModel" "signs" "I"]
def wsL_law_r8 : List Cond := [Cond.methodLink RL 33 yX7_wipe, Cond.instanceMethod yX7_wipe, Cond.selects RX7 yX7_wipe yX7_wipe, Cond.code yX7_wipe cX7_wipe 2 (some .int), Cond.methodLink RL 37 yX8_wipe, Cond.instanceMethod yX8_wipe, Cond.selects RX8 yX8_wipe yX8_wipe, Cond.code yX8_wipe cX8_wipe 2 (some .int), Cond.methodLink RL 38 yX7_fault, Cond.instanceMethod yX7_fault, Cond.selects RX7 yX7_fault yX7_fault, Cond.code yX7_fault cX7_fault 1 (some .int), Cond.methodLink RX7 107 yX2_firstFault, Cond.instanceMethod yX2_firstFault, Cond.selects RX2 yX2_firstFault yX2_firstFault, Cond.code yX2_firstFault cX2_firstFault 3 (some .int), Cond.methodLink RX2 19 yX2_signAt, Cond.instanceMethod yX2_signAt, Cond.selects RX2 yX2_signAt yX2_signAt, Cond.code yX2_signAt cX2_signAt 2 (some .int), Cond.methodLink RX2 23 yX2_isLetter, Cond.static yX2_isLetter, Cond.code yX2_isLetter cX2_isLetter 1 (some .boolean), Cond.methodLink RX2 27 yX2_isRobeAct]
def wsL_law_r9 : List Cond := [Cond.static yX2_isRobeAct, Cond.code yX2_isRobeAct cX2_isRobeAct 1 (some .boolean), Cond.methodLink RX2 30 yX2_isDigit, Cond.static yX2_isDigit, Cond.code yX2_isDigit cX2_isDigit 1 (some .boolean), Cond.methodLink RL 41 yX8_fault, Cond.instanceMethod yX8_fault, Cond.selects RX8 yX8_fault yX8_fault, Cond.code yX8_fault cX8_fault 1 (some .int), Cond.methodLink RX8 73 yX8_faultOf, Cond.instanceMethod yX8_faultOf, Cond.selects RX8 yX8_faultOf yX8_faultOf, Cond.code yX8_faultOf cX8_faultOf 5 (some .int), Cond.methodLink RL 42 yX7_judge, Cond.instanceMethod yX7_judge, Cond.selects RX7 yX7_judge yX7_judge, Cond.code yX7_judge cX7_judge 2 (some .int), Cond.fieldLink RX7 114 "MothAudit$Rehearsal" "stoppedAt" "I", Cond.fieldLink RX7 117 "MothAudit$Rehearsal" "why" "I", Cond.methodLink RX7 111 yX7_rehearse, Cond.instanceMethod yX7_rehearse, Cond.selects RX7 yX7_rehearse yX7_rehearse, Cond.code yX7_rehearse cX7_rehearse 1 none, Cond.methodLink RX7 207 yX3_begin]
def wsL_law_r10 : List Cond := [Cond.instanceMethod yX3_begin, Cond.selects RX3 yX3_begin yX3_begin, Cond.code yX3_begin cX3_begin 2 none, Cond.fieldLink RX3 22 "MothAudit$Rehearsal" "acts" "I", Cond.fieldLink RX3 26 "MothAudit$Rehearsal" "stoppedAt" "I", Cond.fieldLink RX3 29 "MothAudit$Rehearsal" "why" "I", Cond.fieldLink RX3 32 "MothAudit$Rehearsal" "cellsEaten" "I", Cond.fieldLink RX3 35 "MothAudit$Rehearsal" "baredAt" "I", Cond.fieldLink RX3 38 "MothAudit$Rehearsal" "baredRobe" "I", Cond.methodLink RX3 18 yX6_copyFrom, Cond.instanceMethod yX6_copyFrom, Cond.selects RX6 yX6_copyFrom yX6_copyFrom, Cond.code yX6_copyFrom cX6_copyFrom 2 none, Cond.methodLink RX6 33 arraycopyName, Cond.native arraycopyName, Cond.static arraycopyName, Cond.initialized "java/lang/System", Cond.fieldLink RX6 39 "MothAudit$Wardrobe" "press" "I", Cond.fieldLink RX6 43 "MothAudit$Wardrobe" "years" "I", Cond.fieldLink RX6 46 "MothAudit$Wardrobe" "bittenSights" "I", Cond.fieldLink RX6 49 "MothAudit$Wardrobe" "sightCount" "I", Cond.methodLink RX7 230 yX3_follow, Cond.instanceMethod yX3_follow, Cond.selects RX3 yX3_follow yX3_follow]
def wsL_law_r11 : List Cond := [Cond.code yX3_follow cX3_follow 6 none, Cond.fieldLink RX3 41 "MothAudit$Pad" "count" "I", Cond.methodLink RX3 46 yX2_kindAt, Cond.instanceMethod yX2_kindAt, Cond.selects RX2 yX2_kindAt yX2_kindAt, Cond.code yX2_kindAt cX2_kindAt 3 (some .int), Cond.methodLink RX3 50 yX2_subjectAt, Cond.instanceMethod yX2_subjectAt, Cond.selects RX2 yX2_subjectAt yX2_subjectAt, Cond.code yX2_subjectAt cX2_subjectAt 3 (some .int), Cond.methodLink RX3 53 yX2_hasLetterAt, Cond.instanceMethod yX2_hasLetterAt, Cond.selects RX2 yX2_hasLetterAt yX2_hasLetterAt, Cond.code yX2_hasLetterAt cX2_hasLetterAt 2 (some .boolean), Cond.methodLink RX3 57 yX3_reasonAgainst, Cond.instanceMethod yX3_reasonAgainst, Cond.selects RX3 yX3_reasonAgainst yX3_reasonAgainst, Cond.code yX3_reasonAgainst cX3_reasonAgainst 3 (some .int), Cond.fieldLink RX3 82 "MothAudit$Wardrobe" "untruth" "[I", Cond.fieldLink RX3 85 "MothAudit$Wardrobe" "press" "I", Cond.fieldLink RX3 88 "MothAudit$Wardrobe" "years" "I", Cond.methodLink RX3 70 yX2_isRobeAct, Cond.methodLink RX3 76 yX3_reasonAgainstRobeAct, Cond.instanceMethod yX3_reasonAgainstRobeAct]
def wsL_law_r12 : List Cond := [Cond.selects RX3 yX3_reasonAgainstRobeAct yX3_reasonAgainstRobeAct, Cond.code yX3_reasonAgainstRobeAct cX3_reasonAgainstRobeAct 4 (some .int), Cond.fieldLink RX3 94 "MothAudit$Wardrobe" "camphor" "[I", Cond.fieldLink RX3 97 "MothAudit$Wardrobe" "holes" "[I", Cond.methodLink RX3 91 yX6_isInPress, Cond.instanceMethod yX6_isInPress, Cond.selects RX6 yX6_isInPress yX6_isInPress, Cond.code yX6_isInPress cX6_isInPress 2 (some .boolean), Cond.methodLink RX3 61 yX3_carryOut, Cond.instanceMethod yX3_carryOut, Cond.selects RX3 yX3_carryOut yX3_carryOut, Cond.code yX3_carryOut cX3_carryOut 3 none, Cond.methodLink RX3 100 yX3_carryOutOnRobe, Cond.instanceMethod yX3_carryOutOnRobe, Cond.selects RX3 yX3_carryOutOnRobe yX3_carryOutOnRobe, Cond.code yX3_carryOutOnRobe cX3_carryOutOnRobe 3 none, Cond.methodLink RX3 103 yX3_letMothsIn, Cond.instanceMethod yX3_letMothsIn, Cond.selects RX3 yX3_letMothsIn yX3_letMothsIn, Cond.code yX3_letMothsIn cX3_letMothsIn 4 none, Cond.fieldLink RX3 113 "MothAudit$Wardrobe" "robeOf" "[I", Cond.fieldLink RX3 116 "MothAudit$Wardrobe" "shape" "[I", Cond.methodLink RX3 109 yX6_bareRobes, Cond.instanceMethod yX6_bareRobes]
def wsL_law_r13 : List Cond := [Cond.selects RX6 yX6_bareRobes yX6_bareRobes, Cond.code yX6_bareRobes cX6_bareRobes 3 (some .int), Cond.constant RX6 58 (65535), Cond.methodLink RX3 119 yX3_eat, Cond.instanceMethod yX3_eat, Cond.selects RX3 yX3_eat yX3_eat, Cond.code yX3_eat cX3_eat 7 none, Cond.static yX7_leastIn, Cond.code yX7_leastIn cX7_leastIn 2 (some .int), Cond.methodLink RX3 106 yX3_endYear, Cond.instanceMethod yX3_endYear, Cond.selects RX3 yX3_endYear yX3_endYear, Cond.code yX3_endYear cX3_endYear 2 none, Cond.methodLink RX3 126 Lib.Math.max.name, Cond.static Lib.Math.max.name, Cond.initialized "java/lang/Math", Cond.code Lib.Math.max.name Lib.Math.max.code 2 (some .int), Cond.methodLink RL 45 yX8_judge, Cond.instanceMethod yX8_judge, Cond.selects RX8 yX8_judge yX8_judge, Cond.code yX8_judge cX8_judge 3 (some .int), Cond.fieldLink RX8 116 "MothAuditModel" "reason" "I", Cond.methodLink RX8 128 yX8_goYears, Cond.instanceMethod yX8_goYears]
def wsL_law_r14 : List Cond := [Cond.selects RX8 yX8_goYears yX8_goYears, Cond.code yX8_goYears cX8_goYears 6 (some .int), Cond.fieldLink RX8 106 "MothAuditModel" "acts" "I", Cond.fieldLink RX8 80 "MothAuditModel" "goneAt" "I", Cond.fieldLink RX8 83 "MothAuditModel" "goneRobe" "I", Cond.methodLink RX8 103 yX8_asNow, Cond.instanceMethod yX8_asNow, Cond.selects RX8 yX8_asNow yX8_asNow, Cond.code yX8_asNow cX8_asNow 2 none, Cond.fieldLink RX8 77 "MothAuditModel" "bitten" "I", Cond.methodLink RX8 109 yX8_goneNow, Cond.instanceMethod yX8_goneNow, Cond.selects RX8 yX8_goneNow yX8_goneNow, Cond.code yX8_goneNow cX8_goneNow 3 (some .int), Cond.methodLink RX8 112 yX8_robeAct, Cond.instanceMethod yX8_robeAct, Cond.selects RX8 yX8_robeAct yX8_robeAct, Cond.code yX8_robeAct cX8_robeAct 3 (some .int), Cond.methodLink RX8 90 yX8_layIn, Cond.instanceMethod yX8_layIn, Cond.selects RX8 yX8_layIn yX8_layIn, Cond.code yX8_layIn cX8_layIn 2 (some .int), Cond.methodLink RX8 86 yX8_has, Cond.static yX8_has]
def wsL_law_r15 : List Cond := [Cond.code yX8_has cX8_has 2 (some .boolean), Cond.methodLink RX8 94 yX8_takeOut, Cond.instanceMethod yX8_takeOut, Cond.selects RX8 yX8_takeOut yX8_takeOut, Cond.code yX8_takeOut cX8_takeOut 2 (some .int), Cond.methodLink RX8 97 yX8_strew, Cond.instanceMethod yX8_strew, Cond.selects RX8 yX8_strew yX8_strew, Cond.code yX8_strew cX8_strew 2 (some .int), Cond.methodLink RX8 100 yX8_darn, Cond.instanceMethod yX8_darn, Cond.selects RX8 yX8_darn yX8_darn, Cond.code yX8_darn cX8_darn 2 (some .int), Cond.methodLink RX8 119 yX8_moths, Cond.instanceMethod yX8_moths, Cond.selects RX8 yX8_moths yX8_moths, Cond.code yX8_moths cX8_moths 5 (some .int), Cond.methodLink RX8 122 yX8_endYear, Cond.instanceMethod yX8_endYear, Cond.selects RX8 yX8_endYear yX8_endYear, Cond.code yX8_endYear cX8_endYear 2 (some .int), Cond.methodLink RX8 125 yX8_ownUp, Cond.instanceMethod yX8_ownUp, Cond.selects RX8 yX8_ownUp yX8_ownUp]
def wsL_law_r16 : List Cond := [Cond.code yX8_ownUp cX8_ownUp 2 (some .int), Cond.methodLink RL 46 yX7_done, Cond.instanceMethod yX7_done, Cond.selects RX7 yX7_done yX7_done, Cond.code yX7_done cX7_done 1 (some .int), Cond.fieldLink RX7 124 "MothAudit$Rehearsal" "wardrobe" "LMothAudit$Wardrobe;", Cond.fieldLink RX7 131 "MothAudit$Rehearsal" "acts" "I", Cond.methodLink RX7 120 yX7_canAllBe, Cond.instanceMethod yX7_canAllBe, Cond.selects RX7 yX7_canAllBe yX7_canAllBe, Cond.code yX7_canAllBe cX7_canAllBe 1 (some .boolean), Cond.methodLink RX7 127 yX6_copyFrom, Cond.methodLink RL 49 yX8_done, Cond.instanceMethod yX8_done, Cond.selects RX8 yX8_done yX8_done, Cond.code yX8_done cX8_done 2 (some .int), Cond.methodLink RX8 131 yX8_barOfYears, Cond.instanceMethod yX8_barOfYears, Cond.selects RX8 yX8_barOfYears yX8_barOfYears, Cond.code yX8_barOfYears cX8_barOfYears 1 (some .int), Cond.methodLink RL 50 yX7_behind, Cond.instanceMethod yX7_behind, Cond.selects RX7 yX7_behind yX7_behind, Cond.code yX7_behind cX7_behind 3 (some .int)]
def wsL_law_r17 : List Cond := [Cond.methodLink RX7 134 yX6_isInPress, Cond.methodLink RL 53 yX8_behind, Cond.instanceMethod yX8_behind, Cond.selects RX8 yX8_behind yX8_behind, Cond.code yX8_behind cX8_behind 3 (some .int), Cond.methodLink RL 54 yX7_untrue, Cond.instanceMethod yX7_untrue, Cond.selects RX7 yX7_untrue yX7_untrue, Cond.code yX7_untrue cX7_untrue 2 (some .int), Cond.methodLink RL 57 yX8_untrue, Cond.instanceMethod yX8_untrue, Cond.selects RX8 yX8_untrue yX8_untrue, Cond.code yX8_untrue cX8_untrue 2 (some .int), Cond.methodLink RL 58 yX7_eaten, Cond.instanceMethod yX7_eaten, Cond.selects RX7 yX7_eaten yX7_eaten, Cond.code yX7_eaten cX7_eaten 2 (some .int), Cond.fieldLink RX7 137 "MothAudit$Rehearsal" "cellsEaten" "I", Cond.fieldLink RX7 140 "MothAudit$Rehearsal" "baredAt" "I", Cond.fieldLink RX7 143 "MothAudit$Rehearsal" "baredRobe" "I", Cond.fieldLink RX7 146 "MothAudit$Wardrobe" "years" "I", Cond.methodLink RL 61 yX8_eaten, Cond.instanceMethod yX8_eaten, Cond.selects RX8 yX8_eaten yX8_eaten]
def wsL_law_r18 : List Cond := [Cond.code yX8_eaten cX8_eaten 2 (some .int), Cond.methodLink RL 62 yX7_blame, Cond.instanceMethod yX7_blame, Cond.selects RX7 yX7_blame yX7_blame, Cond.code yX7_blame cX7_blame 4 (some .int), Cond.methodLink RX7 149 yX4_fewestToBlame, Cond.static yX4_fewestToBlame, Cond.code yX4_fewestToBlame cX4_fewestToBlame 6 (some .int), Cond.fieldLink RX4 26 "MothAudit$Wardrobe" "holes" "[I", Cond.methodLink RX4 15 yX6_sayingsIn, Cond.instanceMethod yX6_sayingsIn, Cond.selects RX6 yX6_sayingsIn yX6_sayingsIn, Cond.code yX6_sayingsIn cX6_sayingsIn 4 (some .int), Cond.methodLink RX4 21 yJ6_bitCount_0f7a4, Cond.static yJ6_bitCount_0f7a4, Cond.initialized RJ6, Cond.code yJ6_bitCount_0f7a4 cJ6_bitCount_0f7a4 1 (some .int), Cond.constant RJ6 265 (1431655765), Cond.constant RJ6 266 (858993459), Cond.constant RJ6 267 (252645135), Cond.methodLink RX4 29 yX6_shapeOfAll, Cond.instanceMethod yX6_shapeOfAll, Cond.selects RX6 yX6_shapeOfAll yX6_shapeOfAll, Cond.code yX6_shapeOfAll cX6_shapeOfAll 4 (some .int)]
def wsL_law_r19 : List Cond := [Cond.methodLink RX7 153 yJ6_bitCount_0f7a4, Cond.methodLink RL 65 yX8_blame, Cond.instanceMethod yX8_blame, Cond.selects RX8 yX8_blame yX8_blame, Cond.code yX8_blame cX8_blame 8 (some .int), Cond.methodLink RX8 134 yX8_bits, Cond.static yX8_bits, Cond.code yX8_bits cX8_bits 3 (some .int), Cond.methodLink RL 66 yX7_cuts, Cond.instanceMethod yX7_cuts, Cond.selects RX7 yX7_cuts yX7_cuts, Cond.code yX7_cuts cX7_cuts 6 (some .int), Cond.methodLink RX7 159 yX5_mostWorth, Cond.instanceMethod yX5_mostWorth, Cond.selects RX5 yX5_mostWorth yX5_mostWorth, Cond.code yX5_mostWorth cX5_mostWorth 9 (some .int), Cond.methodLink RX5 15 Lib.Math.max.name, Cond.methodLink RL 70 yX8_cuts, Cond.instanceMethod yX8_cuts, Cond.selects RX8 yX8_cuts yX8_cuts, Cond.code yX8_cuts cX8_cuts 9 (some .int), Cond.methodLink RX8 137 yX8_wholeFrom, Cond.instanceMethod yX8_wholeFrom, Cond.selects RX8 yX8_wholeFrom yX8_wholeFrom]
def wsL_law_r20 : List Cond := [Cond.code yX8_wholeFrom cX8_wholeFrom 4 (some .int), Cond.methodLink RL 71 yX7_wear, Cond.instanceMethod yX7_wear, Cond.selects RX7 yX7_wear yX7_wear, Cond.code yX7_wear cX7_wear 2 (some .int), Cond.methodLink RX7 163 yX0_plan, Cond.instanceMethod yX0_plan, Cond.selects RX0 yX0_plan yX0_plan, Cond.code yX0_plan cX0_plan 3 none, Cond.methodLink RX0 18 yX0_planBehind, Cond.instanceMethod yX0_planBehind, Cond.selects RX0 yX0_planBehind yX0_planBehind, Cond.code yX0_planBehind cX0_planBehind 7 none, Cond.fieldLink RX0 28 "MothAudit$Wardrobe" "holes" "[I", Cond.fieldLink RX0 33 "MothAudit$Wardrobe" "shown" "[I", Cond.methodLink RX0 22 yJ6_bitCount_0f7a4, Cond.methodLink RX7 166 yX0_fewestSeen, Cond.instanceMethod yX0_fewestSeen, Cond.selects RX0 yX0_fewestSeen yX0_fewestSeen, Cond.code yX0_fewestSeen cX0_fewestSeen 1 (some .int), Cond.methodLink RX7 169 yX0_robeFor, Cond.instanceMethod yX0_robeFor, Cond.selects RX0 yX0_robeFor yX0_robeFor, Cond.code yX0_robeFor cX0_robeFor 4 (some .int)]
def wsL_law_r21 : List Cond := [Cond.methodLink RL 74 yX8_wear, Cond.instanceMethod yX8_wear, Cond.selects RX8 yX8_wear yX8_wear, Cond.code yX8_wear cX8_wear 10 (some .int), Cond.constant RX8 140 (1000000), Cond.methodLink RL 75 yX7_seen, Cond.instanceMethod yX7_seen, Cond.selects RX7 yX7_seen yX7_seen, Cond.code yX7_seen cX7_seen 3 (some .int), Cond.fieldLink RX7 172 "MothAudit$Wardrobe" "sightCount" "I", Cond.methodLink RX7 175 yX6_addSight, Cond.instanceMethod yX6_addSight, Cond.selects RX6 yX6_addSight yX6_addSight, Cond.code yX6_addSight cX6_addSight 4 none, Cond.methodLink RL 79 yX8_seen, Cond.instanceMethod yX8_seen, Cond.selects RX8 yX8_seen yX8_seen, Cond.code yX8_seen cX8_seen 3 (some .int), Cond.methodLink RL 80 yX7_forget, Cond.instanceMethod yX7_forget, Cond.selects RX7 yX7_forget yX7_forget, Cond.code yX7_forget cX7_forget 2 (some .int), Cond.methodLink RL 83 yX8_forget, Cond.instanceMethod yX8_forget]
def wsL_law_r22 : List Cond := [Cond.selects RX8 yX8_forget yX8_forget, Cond.code yX8_forget cX8_forget 2 (some .int), Cond.methodLink RL 84 yX7_liars, Cond.instanceMethod yX7_liars, Cond.selects RX7 yX7_liars yX7_liars, Cond.code yX7_liars cX7_liars 3 (some .int), Cond.fieldLink RX7 183 "MothAudit$Suspicion" "sets" "I", Cond.fieldLink RX7 186 "MothAudit$Suspicion" "inSome" "I", Cond.fieldLink RX7 189 "MothAudit$Suspicion" "inAll" "I", Cond.methodLink RX7 179 yX4_weigh, Cond.instanceMethod yX4_weigh, Cond.selects RX4 yX4_weigh yX4_weigh, Cond.code yX4_weigh cX4_weigh 4 none, Cond.fieldLink RX4 32 "MothAudit$Suspicion" "sets" "I", Cond.fieldLink RX4 36 "MothAudit$Suspicion" "inSome" "I", Cond.fieldLink RX4 39 "MothAudit$Suspicion" "inAll" "I", Cond.methodLink RX4 42 yX6_fitsSights, Cond.instanceMethod yX6_fitsSights, Cond.selects RX6 yX6_fitsSights yX6_fitsSights, Cond.code yX6_fitsSights cX6_fitsSights 4 (some .boolean), Cond.methodLink RX4 46 yX4_count, Cond.instanceMethod yX4_count, Cond.selects RX4 yX4_count yX4_count, Cond.code yX4_count cX4_count 3 none]
def wsL_law_r23 : List Cond := [Cond.methodLink RL 87 yX8_liars, Cond.instanceMethod yX8_liars, Cond.selects RX8 yX8_liars yX8_liars, Cond.code yX8_liars cX8_liars 7 (some .int), Cond.methodLink RX8 141 yX8_areLies, Cond.instanceMethod yX8_areLies, Cond.selects RX8 yX8_areLies yX8_areLies, Cond.code yX8_areLies cX8_areLies 5 (some .boolean), Cond.methodLink RL 88 yX7_tries, Cond.instanceMethod yX7_tries, Cond.selects RX7 yX7_tries yX7_tries, Cond.code yX7_tries cX7_tries 4 (some .int), Cond.methodLink RX7 192 yX4_sayingToTry, Cond.instanceMethod yX4_sayingToTry, Cond.selects RX4 yX4_sayingToTry yX4_sayingToTry, Cond.code yX4_sayingToTry cX4_sayingToTry 3 (some .int), Cond.methodLink RX4 59 yX4_mostLeft, Cond.instanceMethod yX4_mostLeft, Cond.selects RX4 yX4_mostLeft yX4_mostLeft, Cond.code yX4_mostLeft cX4_mostLeft 2 (some .int), Cond.methodLink RX4 53 Lib.Math.max.name, Cond.methodLink RX7 195 yX4_mostLeft, Cond.methodLink RL 91 yX8_tries, Cond.instanceMethod yX8_tries]
def wsL_law_r24 : List Cond := [Cond.selects RX8 yX8_tries yX8_tries, Cond.code yX8_tries cX8_tries 8 (some .int), Cond.methodLink RL 92 yX7_darns, Cond.instanceMethod yX7_darns, Cond.selects RX7 yX7_darns yX7_darns, Cond.code yX7_darns cX7_darns 4 (some .int), Cond.methodLink RX7 198 yX5_winningDarn, Cond.static yX5_winningDarn, Cond.code yX5_winningDarn cX5_winningDarn 4 (some .int), Cond.methodLink RX5 21 yX5_nimOf, Cond.static yX5_nimOf, Cond.code yX5_nimOf cX5_nimOf 4 (some .int), Cond.methodLink RX5 25 yX5_nimOfRow, Cond.static yX5_nimOfRow, Cond.code yX5_nimOfRow cX5_nimOfRow 1 (some .int), Cond.fieldLink RX5 28 "MothAudit$Tailor" "NIM_OF_ROW" "[I", Cond.methodLink RL 95 yX8_darns, Cond.instanceMethod yX8_darns, Cond.selects RX8 yX8_darns yX8_darns, Cond.code yX8_darns cX8_darns 6 (some .int), Cond.methodLink RX8 144 yX8_layRows, Cond.instanceMethod yX8_layRows, Cond.selects RX8 yX8_layRows yX8_layRows, Cond.code yX8_layRows cX8_layRows 4 none]
def wsL_law_r25 : List Cond := [Cond.methodLink RX8 147 yX8_worthOf, Cond.instanceMethod yX8_worthOf, Cond.selects RX8 yX8_worthOf yX8_worthOf, Cond.code yX8_worthOf cX8_worthOf 5 (some .int), Cond.methodLink RL 96 yX7_chance, Cond.instanceMethod yX7_chance, Cond.selects RX7 yX7_chance yX7_chance, Cond.code yX7_chance cX7_chance 5 (some .long), Cond.constantLong RX7 201 (-1000000000000000002), Cond.methodLink RX7 203 yX1_partOfAtLeast, Cond.instanceMethod yX1_partOfAtLeast, Cond.selects RX1 yX1_partOfAtLeast yX1_partOfAtLeast, Cond.code yX1_partOfAtLeast cX1_partOfAtLeast 11 (some .long), Cond.constantLong RX1 23 (-1000000000000000002), Cond.methodLink RX1 15 yX1_countWays, Cond.instanceMethod yX1_countWays, Cond.selects RX1 yX1_countWays yX1_countWays, Cond.code yX1_countWays cX1_countWays 7 (some .long), Cond.constantLong RX1 25 (10), Cond.methodLink RX1 19 yX1_greatestDivisor, Cond.static yX1_greatestDivisor, Cond.code yX1_greatestDivisor cX1_greatestDivisor 11 (some .long), Cond.methodLink RL 100 yX8_chance, Cond.instanceMethod yX8_chance]
def wsL_law_r26 : List Cond := [Cond.selects RX8 yX8_chance yX8_chance, Cond.code yX8_chance cX8_chance 15 (some .long), Cond.constantLong RX8 150 (-1000000000000000002), Cond.constantLong RX8 152 (10), Cond.methodLink RL 101 yX7_year, Cond.instanceMethod yX7_year, Cond.selects RX7 yX7_year yX7_year, Cond.code yX7_year cX7_year 4 (some .int), Cond.methodLink RX7 210 yX3_drawActs, Cond.instanceMethod yX3_drawActs, Cond.selects RX3 yX3_drawActs yX3_drawActs, Cond.code yX3_drawActs cX3_drawActs 7 none, Cond.constant RX3 65 (65537), Cond.fieldLink RX3 66 "MothAudit$Rehearsal" "DRAWN_KINDS" "[I", Cond.methodLink RX7 214 yX6_wholeCells, Cond.instanceMethod yX6_wholeCells, Cond.selects RX6 yX6_wholeCells yX6_wholeCells, Cond.code yX6_wholeCells cX6_wholeCells 3 (some .int), Cond.methodLink RX6 52 yJ6_bitCount_0f7a4, Cond.methodLink RX7 217 yX6_falseSayings, Cond.instanceMethod yX6_falseSayings, Cond.selects RX6 yX6_falseSayings yX6_falseSayings, Cond.code yX6_falseSayings cX6_falseSayings 3 (some .int), Cond.methodLink RL 104 yX8_year]
def wsL_law_r27 : List Cond := [Cond.instanceMethod yX8_year, Cond.selects RX8 yX8_year yX8_year, Cond.code yX8_year cX8_year 9 (some .int), Cond.constant RX8 154 (65537), Cond.methodLink RL 105 yX7_image, Cond.instanceMethod yX7_image, Cond.selects RX7 yX7_image yX7_image, Cond.code yX7_image cX7_image 3 (some .int), Cond.methodLink RL 108 yX8_image, Cond.instanceMethod yX8_image, Cond.selects RX8 yX8_image yX8_image, Cond.code yX8_image cX8_image 4 (some .int), Cond.methodLink RL 109 yX7_restore, Cond.instanceMethod yX7_restore, Cond.selects RX7 yX7_restore yX7_restore, Cond.code yX7_restore cX7_restore 3 (some .int), Cond.methodLink RL 112 yX8_restore, Cond.instanceMethod yX8_restore, Cond.selects RX8 yX8_restore yX8_restore, Cond.code yX8_restore cX8_restore 4 (some .int), Cond.methodLink RL 113 yX7_told, Cond.instanceMethod yX7_told, Cond.selects RX7 yX7_told yX7_told, Cond.code yX7_told cX7_told 2 (some .int)]
def wsL_law_r28 : List Cond := [Cond.methodLink RX7 220 yX7_toldOfAll, Cond.instanceMethod yX7_toldOfAll, Cond.selects RX7 yX7_toldOfAll yX7_toldOfAll, Cond.code yX7_toldOfAll cX7_toldOfAll 2 (some .int), Cond.methodLink RX7 223 yX7_toldOfRobe, Cond.instanceMethod yX7_toldOfRobe, Cond.selects RX7 yX7_toldOfRobe yX7_toldOfRobe, Cond.code yX7_toldOfRobe cX7_toldOfRobe 3 (some .int), Cond.methodLink RX7 227 yX7_toldOfSaying, Cond.instanceMethod yX7_toldOfSaying, Cond.selects RX7 yX7_toldOfSaying yX7_toldOfSaying, Cond.code yX7_toldOfSaying cX7_toldOfSaying 3 (some .int), Cond.methodLink RL 116 yX8_told, Cond.instanceMethod yX8_told, Cond.selects RX8 yX8_told yX8_told, Cond.code yX8_told cX8_told 3 (some .int), Cond.methodLink RX8 155 yX8_toldFalse, Cond.instanceMethod yX8_toldFalse, Cond.selects RX8 yX8_toldFalse yX8_toldFalse, Cond.code yX8_toldFalse cX8_toldFalse 3 (some .int)]
def wsL_law : List Cond := (wsL_law_r1 ++ (wsL_law_r2 ++ (wsL_law_r3 ++ (wsL_law_r4 ++ (wsL_law_r5 ++ (wsL_law_r6 ++ (wsL_law_r7 ++ (wsL_law_r8 ++ (wsL_law_r9 ++ (wsL_law_r10 ++ (wsL_law_r11 ++ (wsL_law_r12 ++ (wsL_law_r13 ++ (wsL_law_r14 ++ (wsL_law_r15 ++ (wsL_law_r16 ++ (wsL_law_r17 ++ (wsL_law_r18 ++ (wsL_law_r19 ++ (wsL_law_r20 ++ (wsL_law_r21 ++ (wsL_law_r22 ++ (wsL_law_r23 ++ (wsL_law_r24 ++ (wsL_law_r25 ++ (wsL_law_r26 ++ (wsL_law_r27 ++ wsL_law_r28))))))))))))))))))))))))))) ++ wsX70 ++ wsX80 ++ wsX60 ++ wsX20 ++ wsX30 ++ wsX40 ++ wsX50 ++ wsX00 ++ wsX10 ++ ([] : List Cond)
theorem inlX0 : ∀ w ∈ wsX00, w ∈ wsL_law := fun _ h => List.mem_append_left _ (List.mem_append_left _ (List.mem_append_right _ h))
theorem inlX1 : ∀ w ∈ wsX10, w ∈ wsL_law := fun _ h => List.mem_append_left _ (List.mem_append_right _ h)
theorem inlX2 : ∀ w ∈ wsX20, w ∈ wsL_law := fun _ h => List.mem_append_left _ (List.mem_append_left _ (List.mem_append_left _ (List.mem_append_left _ (List.mem_append_left _ (List.mem_append_left _ (List.mem_append_right _ h))))))
theorem inlX3 : ∀ w ∈ wsX30, w ∈ wsL_law := fun _ h => List.mem_append_left _ (List.mem_append_left _ (List.mem_append_left _ (List.mem_append_left _ (List.mem_append_left _ (List.mem_append_right _ h)))))
theorem inlX4 : ∀ w ∈ wsX40, w ∈ wsL_law := fun _ h => List.mem_append_left _ (List.mem_append_left _ (List.mem_append_left _ (List.mem_append_left _ (List.mem_append_right _ h))))
theorem inlX5 : ∀ w ∈ wsX50, w ∈ wsL_law := fun _ h => List.mem_append_left _ (List.mem_append_left _ (List.mem_append_left _ (List.mem_append_right _ h)))
theorem inlX6 : ∀ w ∈ wsX60, w ∈ wsL_law := fun _ h => List.mem_append_left _ (List.mem_append_left _ (List.mem_append_left _ (List.mem_append_left _ (List.mem_append_left _ (List.mem_append_left _ (List.mem_append_left _ (List.mem_append_right _ h)))))))
theorem inlX7 : ∀ w ∈ wsX70, w ∈ wsL_law := fun _ h => List.mem_append_left _ (List.mem_append_left _ (List.mem_append_left _ (List.mem_append_left _ (List.mem_append_left _ (List.mem_append_left _ (List.mem_append_left _ (List.mem_append_left _ (List.mem_append_left _ (List.mem_append_right _ h)))))))))
theorem inlX8 : ∀ w ∈ wsX80, w ∈ wsL_law := fun _ h => List.mem_append_left _ (List.mem_append_left _ (List.mem_append_left _ (List.mem_append_left _ (List.mem_append_left _ (List.mem_append_left _ (List.mem_append_left _ (List.mem_append_left _ (List.mem_append_right _ h))))))))
abbrev vwCl : List vw_C := [(RX0, TX0, 2), (RX1, TX1, 1), (RX2, TX2, 2), (RX3, TX3, 7), (RX4, TX4, 4), (RX5, TX5, 1), (RX6, TX6, 11), (RX7, TX7, 8), (RX8, TX8, 21)]
