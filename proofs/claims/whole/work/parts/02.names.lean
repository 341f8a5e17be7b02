/-! ===== BEGIN words of one list among another's, by their places ===== -/
theorem goodIn_r {big : List Cond} (ws : List Cond) (ps : List Nat) (hp : ws = ps.filterMap (fun i => big[i]?)) (h : ws.all goodWord = true) : GoodIn big ws := by
  intro w hw
  have h1 := List.all_eq_true.mp h w hw
  rw [hp] at hw
  obtain ⟨i, -, hi⟩ := List.mem_filterMap.mp hw
  have hm : w ∈ big := by first | exact List.mem_of_getElem? hi | exact List.getElem?_mem hi
  exact ⟨hm, good_of_word h1⟩
theorem goodIn_app {big a b : List Cond} (ha : GoodIn big a) (hb : GoodIn big b) : GoodIn big (a ++ b) := fun w h => (List.mem_append.mp h).elim (ha w) (hb w)
theorem goodIn_ca {big a b : List Cond} {c : Cond} (ha : GoodIn big (c :: a)) (hb : GoodIn big b) : GoodIn big (c :: (a ++ b)) := fun w h => (List.mem_cons.mp h).elim (fun e => ha w (List.mem_cons.mpr (Or.inl e))) (fun h => (List.mem_append.mp h).elim (fun h => ha w (List.mem_cons.mpr (Or.inr h))) (hb w))
theorem goodIn_sub {big ws : List Cond} (hm : ∀ w ∈ ws, w ∈ big) (h : ws.all goodWord = true) : GoodIn big ws := fun w hw => ⟨hm w hw, good_of_word (List.all_eq_true.mp h w hw)⟩
/-! ===== END ===== -/

/-! ===== BEGIN new T[n][m]: the outer array a place, the inner ones among the pooled ===== -/
/-- f, but v at every address of l -/
def vr_up {α : Type} (f : Nat → α) (l : List Nat) (v : α) : Nat → α := fun a => if a ∈ l then v else f a
theorem vr_up_in {α : Type} {f : Nat → α} {l : List Nat} {v : α} {a : Nat} (h : a ∈ l) : vr_up f l v a = v := if_pos h
theorem vr_up_ne {α : Type} {f : Nat → α} {l : List Nat} {v : α} {a : Nat} (h : a ∉ l) : vr_up f l v a = f a := if_neg h
theorem vr_rows {L l : List Nat} {f : Nat → va_E} {e : va_E} (h : ∀ a, a ∈ l → a ∉ L) : va_pl L f ++ l.map (fun a => (a, e)) = va_pl (L ++ l) (vr_up f l e) := by
  unfold va_pl
  rw [List.map_append]
  congr 1
  · apply List.map_congr_left
    intro a ha
    rw [vr_up_ne (fun q => h a q ha)]
  · apply List.map_congr_left
    intro a ha
    rw [vr_up_in ha]
theorem vr_lay {X rows : va_W} {x : Nat × va_E} {pl : va_W} {D : va_G} {cl : List vw_C} {H : Heap} (hP : va_P D cl (((X ++ pl) ++ [x]) ++ rows) H) : va_P D cl ((X ++ [x]) ++ (pl ++ rows)) H := by
  rw [List.append_assoc (X ++ pl)] at hP
  have h := va_P.swap hP
  rw [← List.append_assoc X] at h
  have h2 := va_P.swap h
  rw [List.append_assoc (X ++ [x])] at h2
  exact h2
theorem vr_layD {X rows : va_W} {x : Nat × va_E} {pl : va_W} {A : Nat → Prop} (hD : va_D A (((X ++ pl) ++ [x]) ++ rows)) : va_D A ((X ++ [x]) ++ (pl ++ rows)) := by
  rw [List.append_assoc (X ++ pl)] at hD
  have h := va_D.swap hD
  rw [← List.append_assoc X] at h
  have h2 := va_D.swap h
  rw [List.append_assoc (X ++ [x])] at h2
  exact h2
theorem vr_outer (c : ClassId) (N h0 : Nat) : ∀ i : Nat, Jvm.Free.Multi.outerC c N h0 i = arrV c N (fun j => va_rf (if j < i then some (h0 + 1 + j) else none))
  | 0 => by
    show ({ cls := c, slots := Array.replicate N .null, vm := .none } : Cell) = _
    rw [arrV_new]
    refine congrArg (arrV c N) (funext fun j => ?_)
    simp [va_rf]
  | i + 1 => by
    show (Jvm.Free.Multi.outerC c N h0 i).setSlot i (.ref (h0 + 1 + i)) = _
    rw [vr_outer c N h0 i, arrV_store]
    refine congrArg (arrV c N) (funext fun j => ?_)
    by_cases e : j = i
    · subst e
      simp [updV, va_rf]
    · by_cases h : j < i
      · simp [updV, e, h, Nat.lt_succ_of_lt h]
      · simp [updV, e, h, show ¬ j < i + 1 by omega]
/-! ===== END ===== -/

def RX0 : String := "AnswerShorter$Image"
def TX0 : u_T := fun k => match k with
  | 0 => ("AnswerShorter$Image", "tongueThen", "LAnswerShorter$Tongue;", true)
  | 1 => ("AnswerShorter$Image", "talkThen", "LAnswerShorter$Talk;", true)
  | 2 => ("AnswerShorter$Image", "meantThen", "I", false)
  | _ => ("AnswerShorter$Image", "taken", "Z", false)
def tyX0 : Nat → FieldType := fun k => match k with
  | 0 => .object "AnswerShorter$Tongue"
  | 1 => .object "AnswerShorter$Talk"
  | 2 => .int
  | _ => .boolean
abbrev wsX00 : List Cond := u_ws RX0 TX0 4
theorem nmX0 : ∀ a, a < 4 → ∀ b, b < 4 → a ≠ b → (TX0 a).2.1 ≠ (TX0 b).2.1 := by decide +kernel
theorem tyX0_ok : ∀ k, k < 4 → parseFieldDescriptor (TX0 k).2.2.1 = some (tyX0 k) := by decide +kernel
abbrev cX0_init : ByteArray := prog_2_method_1_code
def yX0_init : MethodName := ⟨RX0, "<init>", "()V"⟩
def RX1 : String := "AnswerShorter$Letters"
def TX1 : u_T := fun k => match k with
  | 0 => ("AnswerShorter$Letters", "signs", "[I", true)
  | _ => ("AnswerShorter$Letters", "size", "I", false)
def tyX1 : Nat → FieldType := fun k => match k with
  | 0 => .array .int
  | _ => .int
abbrev wsX10 : List Cond := u_ws RX1 TX1 2
theorem nmX1 : ∀ a, a < 2 → ∀ b, b < 2 → a ≠ b → (TX1 a).2.1 ≠ (TX1 b).2.1 := by decide +kernel
theorem tyX1_ok : ∀ k, k < 2 → parseFieldDescriptor (TX1 k).2.2.1 = some (tyX1 k) := by decide +kernel
abbrev cX1_init : ByteArray := prog_3_method_1_code
def yX1_init : MethodName := ⟨RX1, "<init>", "()V"⟩
abbrev cX1_add : ByteArray := prog_3_method_2_code
def yX1_add : MethodName := ⟨RX1, "add", "(I)V"⟩
abbrev cX1_statements : ByteArray := prog_3_method_3_code
def yX1_statements : MethodName := ⟨RX1, "statements", "()I"⟩
abbrev cX1_tellTo : ByteArray := prog_3_method_4_code
def yX1_tellTo : MethodName := ⟨RX1, "tellTo", "(LAnswerShorter$Tongue;)I"⟩
abbrev cX1_behind : ByteArray := prog_3_method_5_code
def yX1_behind : MethodName := ⟨RX1, "behind", "(I)I"⟩
abbrev cX1_behindTelling : ByteArray := prog_3_method_6_code
def yX1_behindTelling : MethodName := ⟨RX1, "behindTelling", "(I)I"⟩
abbrev cX1_behindForm : ByteArray := prog_3_method_7_code
def yX1_behindForm : MethodName := ⟨RX1, "behindForm", "(ILjava/lang/String;)I"⟩
abbrev cX1_formOf : ByteArray := prog_3_method_8_code
def yX1_formOf : MethodName := ⟨RX1, "formOf", "(I)Ljava/lang/String;"⟩
abbrev cX1_fits : ByteArray := prog_3_method_9_code
def yX1_fits : MethodName := ⟨RX1, "fits", "(CI)Z"⟩
abbrev cX1_tellOne : ByteArray := prog_3_method_10_code
def yX1_tellOne : MethodName := ⟨RX1, "tellOne", "(LAnswerShorter$Tongue;II)Z"⟩
abbrev cX1_tellWord : ByteArray := prog_3_method_11_code
def yX1_tellWord : MethodName := ⟨RX1, "tellWord", "(LAnswerShorter$Tongue;II)Z"⟩
abbrev cX1_sign : ByteArray := prog_3_method_12_code
def yX1_sign : MethodName := ⟨RX1, "sign", "(I)I"⟩
abbrev cX1_digit : ByteArray := prog_3_method_13_code
def yX1_digit : MethodName := ⟨RX1, "digit", "(I)I"⟩
abbrev cX1_isDigit : ByteArray := prog_3_method_14_code
def yX1_isDigit : MethodName := ⟨RX1, "isDigit", "(I)Z"⟩
abbrev cX1_talkerOf : ByteArray := prog_3_method_15_code
def yX1_talkerOf : MethodName := ⟨RX1, "talkerOf", "(I)I"⟩
def RX2 : String := "AnswerShorter$Row"
def TX2 : u_T := fun k => match k with
  | 0 => ("AnswerShorter$Row", "words", "[I", true)
  | _ => ("AnswerShorter$Row", "size", "I", false)
def tyX2 : Nat → FieldType := fun k => match k with
  | 0 => .array .int
  | _ => .int
abbrev wsX20 : List Cond := u_ws RX2 TX2 2
theorem nmX2 : ∀ a, a < 2 → ∀ b, b < 2 → a ≠ b → (TX2 a).2.1 ≠ (TX2 b).2.1 := by decide +kernel
theorem tyX2_ok : ∀ k, k < 2 → parseFieldDescriptor (TX2 k).2.2.1 = some (tyX2 k) := by decide +kernel
abbrev cX2_init : ByteArray := prog_4_method_1_code
def yX2_init : MethodName := ⟨RX2, "<init>", "()V"⟩
abbrev cX2_add : ByteArray := prog_4_method_2_code
def yX2_add : MethodName := ⟨RX2, "add", "(I)V"⟩
abbrev cX2_sense : ByteArray := prog_4_method_3_code
def yX2_sense : MethodName := ⟨RX2, "sense", "(LAnswerShorter$Tongue;)I"⟩
def RX3 : String := "AnswerShorter$Sayings"
def TX3 : u_T := fun k => match k with
  | 0 => ("AnswerShorter$Sayings", "speech", "LAnswerShorter$Tongue;", true)
  | 1 => ("AnswerShorter$Sayings", "moreIdle", "I", true)
  | 2 => ("AnswerShorter$Sayings", "senses", "[I", true)
  | 3 => ("AnswerShorter$Sayings", "groupSense", "[I", true)
  | 4 => ("AnswerShorter$Sayings", "groupFirst", "[I", true)
  | 5 => ("AnswerShorter$Sayings", "groupSize", "[I", true)
  | 6 => ("AnswerShorter$Sayings", "groupWeight", "[I", true)
  | 7 => ("AnswerShorter$Sayings", "groupBehind", "[I", true)
  | 8 => ("AnswerShorter$Sayings", "fitting", "[I", true)
  | 9 => ("AnswerShorter$Sayings", "firstFor", "[I", true)
  | 10 => ("AnswerShorter$Sayings", "bestGroup", "[I", true)
  | 11 => ("AnswerShorter$Sayings", "bestLeft", "[I", true)
  | 12 => ("AnswerShorter$Sayings", "words", "I", false)
  | 13 => ("AnswerShorter$Sayings", "size", "I", false)
  | 14 => ("AnswerShorter$Sayings", "groups", "I", false)
  | 15 => ("AnswerShorter$Sayings", "fits", "I", false)
  | 16 => ("AnswerShorter$Sayings", "firstsKnown", "Z", false)
  | _ => ("AnswerShorter$Sayings", "fresh", "Z", false)
def tyX3 : Nat → FieldType := fun k => match k with
  | 0 => .object "AnswerShorter$Tongue"
  | 1 => .int
  | 2 => .array .int
  | 3 => .array .int
  | 4 => .array .int
  | 5 => .array .int
  | 6 => .array .int
  | 7 => .array .int
  | 8 => .array .int
  | 9 => .array .int
  | 10 => .array .int
  | 11 => .array .int
  | 12 => .int
  | 13 => .int
  | 14 => .int
  | 15 => .int
  | 16 => .boolean
  | _ => .boolean
abbrev wsX30 : List Cond := u_ws RX3 TX3 18
theorem nmX3 : ∀ a, a < 18 → ∀ b, b < 18 → a ≠ b → (TX3 a).2.1 ≠ (TX3 b).2.1 := by decide +kernel
theorem tyX3_ok : ∀ k, k < 18 → parseFieldDescriptor (TX3 k).2.2.1 = some (tyX3 k) := by decide +kernel
abbrev cX3_init : ByteArray := prog_5_method_1_code
def yX3_init : MethodName := ⟨RX3, "<init>", "(LAnswerShorter$Tongue;I)V"⟩
abbrev cX3_answerTo : ByteArray := prog_5_method_2_code
def yX3_answerTo : MethodName := ⟨RX3, "answerTo", "(III)I"⟩
abbrev cX3_howManyAnswer : ByteArray := prog_5_method_3_code
def yX3_howManyAnswer : MethodName := ⟨RX3, "howManyAnswer", "(II)I"⟩
abbrev cX3_casesLeftBy : ByteArray := prog_5_method_4_code
def yX3_casesLeftBy : MethodName := ⟨RX3, "casesLeftBy", "(III)I"⟩
abbrev cX3_casesAnsweredBy : ByteArray := prog_5_method_5_code
def yX3_casesAnsweredBy : MethodName := ⟨RX3, "casesAnsweredBy", "(III)I"⟩
abbrev cX3_leftBy : ByteArray := prog_5_method_6_code
def yX3_leftBy : MethodName := ⟨RX3, "leftBy", "(II)I"⟩
abbrev cX3_leftUnder : ByteArray := prog_5_method_7_code
def yX3_leftUnder : MethodName := ⟨RX3, "leftUnder", "(III)I"⟩
abbrev cX3_leftOfBest : ByteArray := prog_5_method_8_code
def yX3_leftOfBest : MethodName := ⟨RX3, "leftOfBest", "(II)I"⟩
abbrev cX3_bestQuestion : ByteArray := prog_5_method_9_code
def yX3_bestQuestion : MethodName := ⟨RX3, "bestQuestion", "(II)I"⟩
abbrev cX3_firstThatForces : ByteArray := prog_5_method_10_code
def yX3_firstThatForces : MethodName := ⟨RX3, "firstThatForces", "(I)I"⟩
abbrev cX3_firstThatMeans : ByteArray := prog_5_method_11_code
def yX3_firstThatMeans : MethodName := ⟨RX3, "firstThatMeans", "(I)I"⟩
abbrev cX3_numberOf : ByteArray := prog_5_method_12_code
def yX3_numberOf : MethodName := ⟨RX3, "numberOf", "(LAnswerShorter$Row;)I"⟩
abbrev cX3_lengthOf : ByteArray := prog_5_method_13_code
def yX3_lengthOf : MethodName := ⟨RX3, "lengthOf", "(I)I"⟩
abbrev cX3_wordOf : ByteArray := prog_5_method_14_code
def yX3_wordOf : MethodName := ⟨RX3, "wordOf", "(II)I"⟩
abbrev cX3_refresh : ByteArray := prog_5_method_15_code
def yX3_refresh : MethodName := ⟨RX3, "refresh", "()V"⟩
abbrev cX3_clearGroups : ByteArray := prog_5_method_16_code
def yX3_clearGroups : MethodName := ⟨RX3, "clearGroups", "()V"⟩
abbrev cX3_putInGroup : ByteArray := prog_5_method_17_code
def yX3_putInGroup : MethodName := ⟨RX3, "putInGroup", "(I)V"⟩
abbrev cX3_keyOf : ByteArray := prog_5_method_18_code
def yX3_keyOf : MethodName := ⟨RX3, "keyOf", "(I)I"⟩
abbrev cX3_findFirsts : ByteArray := prog_5_method_19_code
def yX3_findFirsts : MethodName := ⟨RX3, "findFirsts", "()V"⟩
abbrev cX3_noteFirst : ByteArray := prog_5_method_20_code
def yX3_noteFirst : MethodName := ⟨RX3, "noteFirst", "(II)V"⟩
abbrev cX3_gather : ByteArray := prog_5_method_21_code
def yX3_gather : MethodName := ⟨RX3, "gather", "(II)V"⟩
abbrev cX3_holdsCase : ByteArray := prog_5_method_22_code
def yX3_holdsCase : MethodName := ⟨RX3, "holdsCase", "(II)Z"⟩
abbrev cX3_chosen : ByteArray := prog_5_method_23_code
def yX3_chosen : MethodName := ⟨RX3, "chosen", "(II)I"⟩
abbrev cX3_isLiked : ByteArray := prog_5_method_24_code
def yX3_isLiked : MethodName := ⟨RX3, "isLiked", "(III)Z"⟩
abbrev cX3_findBest : ByteArray := prog_5_method_25_code
def yX3_findBest : MethodName := ⟨RX3, "findBest", "(II)I"⟩
abbrev cX3_forcesAnswer : ByteArray := prog_5_method_26_code
def yX3_forcesAnswer : MethodName := ⟨RX3, "forcesAnswer", "(I)Z"⟩
abbrev cX3_casesWithWeight : ByteArray := prog_5_method_27_code
def yX3_casesWithWeight : MethodName := ⟨RX3, "casesWithWeight", "()I"⟩
def RX4 : String := "AnswerShorter$Sense"
def TX4 : u_T := fun k => match k with
  | _ => ("", "", "", false)
def tyX4 : Nat → FieldType := fun k => match k with
  | _ => .int
abbrev wsX40 : List Cond := u_ws RX4 TX4 0
theorem nmX4 : ∀ a, a < 0 → ∀ b, b < 0 → a ≠ b → (TX4 a).2.1 ≠ (TX4 b).2.1 := by decide +kernel
theorem tyX4_ok : ∀ k, k < 0 → parseFieldDescriptor (TX4 k).2.2.1 = some (tyX4 k) := by decide +kernel
abbrev cX4_meaning : ByteArray := prog_6_method_2_code
def yX4_meaning : MethodName := ⟨RX4, "meaning", "(I)I"⟩
abbrev cX4_idles : ByteArray := prog_6_method_3_code
def yX4_idles : MethodName := ⟨RX4, "idles", "(I)I"⟩
abbrev cX4_length : ByteArray := prog_6_method_4_code
def yX4_length : MethodName := ⟨RX4, "length", "(I)I"⟩
abbrev cX4_ofLength : ByteArray := prog_6_method_5_code
def yX4_ofLength : MethodName := ⟨RX4, "ofLength", "(II)I"⟩
abbrev cX4_grown : ByteArray := prog_6_method_6_code
def yX4_grown : MethodName := ⟨RX4, "grown", "(III)I"⟩
abbrev cX4_withTelling : ByteArray := prog_6_method_7_code
def yX4_withTelling : MethodName := ⟨RX4, "withTelling", "(II)I"⟩
def RX5 : String := "AnswerShorter$Talk"
def TX5 : u_T := fun k => match k with
  | 0 => ("AnswerShorter$Talk", "senses", "[I", true)
  | _ => ("AnswerShorter$Talk", "size", "I", false)
def tyX5 : Nat → FieldType := fun k => match k with
  | 0 => .array .int
  | _ => .int
abbrev wsX50 : List Cond := u_ws RX5 TX5 2
theorem nmX5 : ∀ a, a < 2 → ∀ b, b < 2 → a ≠ b → (TX5 a).2.1 ≠ (TX5 b).2.1 := by decide +kernel
theorem tyX5_ok : ∀ k, k < 2 → parseFieldDescriptor (TX5 k).2.2.1 = some (tyX5 k) := by decide +kernel
abbrev cX5_init : ByteArray := prog_7_method_1_code
def yX5_init : MethodName := ⟨RX5, "<init>", "()V"⟩
abbrev cX5_add : ByteArray := prog_7_method_2_code
def yX5_add : MethodName := ⟨RX5, "add", "(I)V"⟩
abbrev cX5_latest : ByteArray := prog_7_method_3_code
def yX5_latest : MethodName := ⟨RX5, "latest", "()I"⟩
abbrev cX5_meaningOfAnswers : ByteArray := prog_7_method_4_code
def yX5_meaningOfAnswers : MethodName := ⟨RX5, "meaningOfAnswers", "()I"⟩
abbrev cX5_copyFrom : ByteArray := prog_7_method_5_code
def yX5_copyFrom : MethodName := ⟨RX5, "copyFrom", "(LAnswerShorter$Talk;)V"⟩
def RX6 : String := "AnswerShorter$Tongue"
def TX6 : u_T := fun k => match k with
  | 0 => ("AnswerShorter$Tongue", "kinds", "[I", true)
  | 1 => ("AnswerShorter$Tongue", "cases", "[I", true)
  | 2 => ("AnswerShorter$Tongue", "weights", "[I", true)
  | 3 => ("AnswerShorter$Tongue", "persons", "[I", true)
  | 4 => ("AnswerShorter$Tongue", "words", "I", false)
  | 5 => ("AnswerShorter$Tongue", "people", "I", false)
  | 6 => ("AnswerShorter$Tongue", "lawNow", "I", false)
  | _ => ("AnswerShorter$Tongue", "trueCase", "I", false)
def tyX6 : Nat → FieldType := fun k => match k with
  | 0 => .array .int
  | 1 => .array .int
  | 2 => .array .int
  | 3 => .array .int
  | 4 => .int
  | 5 => .int
  | 6 => .int
  | _ => .int
abbrev wsX60 : List Cond := u_ws RX6 TX6 8
theorem nmX6 : ∀ a, a < 8 → ∀ b, b < 8 → a ≠ b → (TX6 a).2.1 ≠ (TX6 b).2.1 := by decide +kernel
theorem tyX6_ok : ∀ k, k < 8 → parseFieldDescriptor (TX6 k).2.2.1 = some (tyX6 k) := by decide +kernel
abbrev cX6_init : ByteArray := prog_8_method_1_code
def yX6_init : MethodName := ⟨RX6, "<init>", "()V"⟩
abbrev cX6_copyFrom : ByteArray := prog_8_method_2_code
def yX6_copyFrom : MethodName := ⟨RX6, "copyFrom", "(LAnswerShorter$Tongue;)V"⟩
abbrev cX6_hasWord : ByteArray := prog_8_method_3_code
def yX6_hasWord : MethodName := ⟨RX6, "hasWord", "(I)Z"⟩
abbrev cX6_hasPerson : ByteArray := prog_8_method_4_code
def yX6_hasPerson : MethodName := ⟨RX6, "hasPerson", "(I)Z"⟩
abbrev cX6_addWord : ByteArray := prog_8_method_5_code
def yX6_addWord : MethodName := ⟨RX6, "addWord", "(II)Z"⟩
abbrev cX6_addPerson : ByteArray := prog_8_method_6_code
def yX6_addPerson : MethodName := ⟨RX6, "addPerson", "(I)Z"⟩
abbrev cX6_setWeight : ByteArray := prog_8_method_7_code
def yX6_setWeight : MethodName := ⟨RX6, "setWeight", "(II)Z"⟩
abbrev cX6_setLaw : ByteArray := prog_8_method_8_code
def yX6_setLaw : MethodName := ⟨RX6, "setLaw", "(I)Z"⟩
abbrev cX6_weightOf : ByteArray := prog_8_method_9_code
def yX6_weightOf : MethodName := ⟨RX6, "weightOf", "(I)I"⟩
abbrev cX6_grown : ByteArray := prog_8_method_10_code
def yX6_grown : MethodName := ⟨RX6, "grown", "(II)I"⟩
def RX7 : String := "AnswerShorter"
def TX7 : u_T := fun k => match k with
  | 0 => ("AnswerShorter", "letters", "LAnswerShorter$Letters;", true)
  | 1 => ("AnswerShorter", "speech", "LAnswerShorter$Tongue;", true)
  | 2 => ("AnswerShorter", "draft", "LAnswerShorter$Tongue;", true)
  | 3 => ("AnswerShorter", "asked", "LAnswerShorter$Row;", true)
  | 4 => ("AnswerShorter", "heard", "LAnswerShorter$Row;", true)
  | 5 => ("AnswerShorter", "talk", "LAnswerShorter$Talk;", true)
  | 6 => ("AnswerShorter", "sayings", "LAnswerShorter$Sayings;", true)
  | 7 => ("AnswerShorter", "idler", "LAnswerShorter$Sayings;", true)
  | 8 => ("AnswerShorter", "kept", "LAnswerShorter$Image;", true)
  | 9 => ("AnswerShorter", "refusals", "[I", true)
  | _ => ("AnswerShorter", "meantCases", "I", false)
def tyX7 : Nat → FieldType := fun k => match k with
  | 0 => .object "AnswerShorter$Letters"
  | 1 => .object "AnswerShorter$Tongue"
  | 2 => .object "AnswerShorter$Tongue"
  | 3 => .object "AnswerShorter$Row"
  | 4 => .object "AnswerShorter$Row"
  | 5 => .object "AnswerShorter$Talk"
  | 6 => .object "AnswerShorter$Sayings"
  | 7 => .object "AnswerShorter$Sayings"
  | 8 => .object "AnswerShorter$Image"
  | 9 => .array .int
  | _ => .int
abbrev wsX70 : List Cond := u_ws RX7 TX7 11
theorem nmX7 : ∀ a, a < 11 → ∀ b, b < 11 → a ≠ b → (TX7 a).2.1 ≠ (TX7 b).2.1 := by decide +kernel
theorem tyX7_ok : ∀ k, k < 11 → parseFieldDescriptor (TX7 k).2.2.1 = some (tyX7 k) := by decide +kernel
abbrev cX7_init : ByteArray := prog_1_method_1_code
def yX7_init : MethodName := ⟨RX7, "<init>", "()V"⟩
abbrev cX7_letter : ByteArray := prog_1_method_2_code
def yX7_letter : MethodName := ⟨RX7, "letter", "(I)I"⟩
abbrev cX7_tongue : ByteArray := prog_1_method_3_code
def yX7_tongue : MethodName := ⟨RX7, "tongue", "()I"⟩
abbrev cX7_word : ByteArray := prog_1_method_4_code
def yX7_word : MethodName := ⟨RX7, "word", "(II)I"⟩
abbrev cX7_weight : ByteArray := prog_1_method_5_code
def yX7_weight : MethodName := ⟨RX7, "weight", "(I)I"⟩
abbrev cX7_truth : ByteArray := prog_1_method_6_code
def yX7_truth : MethodName := ⟨RX7, "truth", "(I)I"⟩
abbrev cX7_law : ByteArray := prog_1_method_7_code
def yX7_law : MethodName := ⟨RX7, "law", "(I)I"⟩
abbrev cX7_row : ByteArray := prog_1_method_8_code
def yX7_row : MethodName := ⟨RX7, "row", "(I)I"⟩
abbrev cX7_means : ByteArray := prog_1_method_9_code
def yX7_means : MethodName := ⟨RX7, "means", "()I"⟩
abbrev cX7_follows : ByteArray := prog_1_method_10_code
def yX7_follows : MethodName := ⟨RX7, "follows", "(II)I"⟩
abbrev cX7_settles : ByteArray := prog_1_method_11_code
def yX7_settles : MethodName := ⟨RX7, "settles", "(I)I"⟩
abbrev cX7_answer : ByteArray := prog_1_method_12_code
def yX7_answer : MethodName := ⟨RX7, "answer", "(II)I"⟩
abbrev cX7_answers : ByteArray := prog_1_method_13_code
def yX7_answers : MethodName := ⟨RX7, "answers", "(I)I"⟩
abbrev cX7_least : ByteArray := prog_1_method_14_code
def yX7_least : MethodName := ⟨RX7, "least", "(II)I"⟩
abbrev cX7_left : ByteArray := prog_1_method_15_code
def yX7_left : MethodName := ⟨RX7, "left", "(I)I"⟩
abbrev cX7_best : ByteArray := prog_1_method_16_code
def yX7_best : MethodName := ⟨RX7, "best", "(II)I"⟩
abbrev cX7_force : ByteArray := prog_1_method_17_code
def yX7_force : MethodName := ⟨RX7, "force", "(II)I"⟩
abbrev cX7_told : ByteArray := prog_1_method_18_code
def yX7_told : MethodName := ⟨RX7, "told", "(I)I"⟩
abbrev cX7_meant : ByteArray := prog_1_method_19_code
def yX7_meant : MethodName := ⟨RX7, "meant", "(I)I"⟩
abbrev cX7_chance : ByteArray := prog_1_method_20_code
def yX7_chance : MethodName := ⟨RX7, "chance", "(II)I"⟩
abbrev cX7_say : ByteArray := prog_1_method_21_code
def yX7_say : MethodName := ⟨RX7, "say", "()I"⟩
abbrev cX7_saying : ByteArray := prog_1_method_22_code
def yX7_saying : MethodName := ⟨RX7, "saying", "(II)I"⟩
abbrev cX7_known : ByteArray := prog_1_method_23_code
def yX7_known : MethodName := ⟨RX7, "known", "()I"⟩
abbrev cX7_silence : ByteArray := prog_1_method_24_code
def yX7_silence : MethodName := ⟨RX7, "silence", "()I"⟩
abbrev cX7_longest : ByteArray := prog_1_method_25_code
def yX7_longest : MethodName := ⟨RX7, "longest", "(I)I"⟩
abbrev cX7_last : ByteArray := prog_1_method_26_code
def yX7_last : MethodName := ⟨RX7, "last", "(I)I"⟩
abbrev cX7_idle : ByteArray := prog_1_method_27_code
def yX7_idle : MethodName := ⟨RX7, "idle", "(I)I"⟩
abbrev cX7_under : ByteArray := prog_1_method_28_code
def yX7_under : MethodName := ⟨RX7, "under", "(II)I"⟩
abbrev cX7_lots : ByteArray := prog_1_method_29_code
def yX7_lots : MethodName := ⟨RX7, "lots", "(III)I"⟩
abbrev cX7_image : ByteArray := prog_1_method_30_code
def yX7_image : MethodName := ⟨RX7, "image", "()I"⟩
abbrev cX7_on : ByteArray := prog_1_method_31_code
def yX7_on : MethodName := ⟨RX7, "on", "()I"⟩
abbrev cX7_count : ByteArray := prog_1_method_32_code
def yX7_count : MethodName := ⟨RX7, "count", "(I)I"⟩
abbrev cX7_refuse : ByteArray := prog_1_method_33_code
def yX7_refuse : MethodName := ⟨RX7, "refuse", "(I)I"⟩
abbrev cX7_addTo : ByteArray := prog_1_method_34_code
def yX7_addTo : MethodName := ⟨RX7, "addTo", "(LAnswerShorter$Row;I)I"⟩
abbrev cX7_takeRow : ByteArray := prog_1_method_35_code
def yX7_takeRow : MethodName := ⟨RX7, "takeRow", "()I"⟩
abbrev cX7_lengthOrWord : ByteArray := prog_1_method_36_code
def yX7_lengthOrWord : MethodName := ⟨RX7, "lengthOrWord", "(II)I"⟩
abbrev cX7_forgetSayings : ByteArray := prog_1_method_37_code
def yX7_forgetSayings : MethodName := ⟨RX7, "forgetSayings", "()V"⟩
abbrev cX7_leftByLots : ByteArray := prog_1_method_38_code
def yX7_leftByLots : MethodName := ⟨RX7, "leftByLots", "(III)I"⟩
abbrev cX7_stirred : ByteArray := prog_1_method_39_code
def yX7_stirred : MethodName := ⟨RX7, "stirred", "(I)I"⟩
abbrev cX7_drawn : ByteArray := prog_1_method_40_code
def yX7_drawn : MethodName := ⟨RX7, "drawn", "(II)I"⟩
abbrev cX7_isCase : ByteArray := prog_1_method_41_code
def yX7_isCase : MethodName := ⟨RX7, "isCase", "(I)Z"⟩
abbrev cX7_isSet : ByteArray := prog_1_method_42_code
def yX7_isSet : MethodName := ⟨RX7, "isSet", "(I)Z"⟩
abbrev cX7_isLaw : ByteArray := prog_1_method_43_code
def yX7_isLaw : MethodName := ⟨RX7, "isLaw", "(I)Z"⟩
abbrev cX7_asBit : ByteArray := prog_1_method_44_code
def yX7_asBit : MethodName := ⟨RX7, "asBit", "(Z)I"⟩
abbrev cX7_commonDivisor : ByteArray := prog_1_method_45_code
def yX7_commonDivisor : MethodName := ⟨RX7, "commonDivisor", "(II)I"⟩
abbrev cX7_mayFollow : ByteArray := prog_1_method_46_code
def yX7_mayFollow : MethodName := ⟨RX7, "mayFollow", "(III)Z"⟩
abbrev cX7_isSettled : ByteArray := prog_1_method_47_code
def yX7_isSettled : MethodName := ⟨RX7, "isSettled", "(II)Z"⟩
abbrev cX7_isOnOneSide : ByteArray := prog_1_method_48_code
def yX7_isOnOneSide : MethodName := ⟨RX7, "isOnOneSide", "(II)Z"⟩
abbrev cX7_longestFrom : ByteArray := prog_1_method_49_code
def yX7_longestFrom : MethodName := ⟨RX7, "longestFrom", "(III)I"⟩
abbrev cX7_speaksLast : ByteArray := prog_1_method_50_code
def yX7_speaksLast : MethodName := ⟨RX7, "speaksLast", "(III)Z"⟩
def RX8 : String := "AnswerShorterModel"
def TX8 : u_T := fun k => match k with
  | 0 => ("AnswerShorterModel", "letters", "[I", true)
  | 1 => ("AnswerShorterModel", "letterMany", "I", false)
  | 2 => ("AnswerShorterModel", "row", "[I", true)
  | 3 => ("AnswerShorterModel", "rowMany", "I", false)
  | 4 => ("AnswerShorterModel", "answered", "[I", true)
  | 5 => ("AnswerShorterModel", "answeredMany", "I", false)
  | 6 => ("AnswerShorterModel", "refused", "[I", true)
  | 7 => ("AnswerShorterModel", "words", "I", false)
  | 8 => ("AnswerShorterModel", "kind", "[I", true)
  | 9 => ("AnswerShorterModel", "tells", "[I", true)
  | 10 => ("AnswerShorterModel", "weight", "[I", true)
  | 11 => ("AnswerShorterModel", "persons", "I", false)
  | 12 => ("AnswerShorterModel", "talker", "[I", true)
  | 13 => ("AnswerShorterModel", "law", "I", false)
  | 14 => ("AnswerShorterModel", "isTrue", "I", false)
  | 15 => ("AnswerShorterModel", "sayings", "I", false)
  | 16 => ("AnswerShorterModel", "sayingWords", "[I", true)
  | 17 => ("AnswerShorterModel", "sayingMeans", "[I", true)
  | 18 => ("AnswerShorterModel", "sayingIdle", "[I", true)
  | 19 => ("AnswerShorterModel", "meantNow", "I", false)
  | 20 => ("AnswerShorterModel", "kept", "LAnswerShorterModel;", false)
  | 21 => ("AnswerShorterModel", "at", "I", false)
  | 22 => ("AnswerShorterModel", "before", "LAnswerShorterModel;", false)
  | 23 => ("AnswerShorterModel", "manyOf", "[I", true)
  | 24 => ("AnswerShorterModel", "wordsOf", "[[I", true)
  | 25 => ("AnswerShorterModel", "meaningOf", "[I", true)
  | 26 => ("AnswerShorterModel", "idleIn", "[I", true)
  | 27 => ("AnswerShorterModel", "listed", "I", false)
  | 28 => ("AnswerShorterModel", "askedMany", "I", false)
  | 29 => ("AnswerShorterModel", "askedIdle", "I", false)
  | 30 => ("AnswerShorterModel", "askedMeans", "I", false)
  | 31 => ("AnswerShorterModel", "askedLaw", "I", false)
  | 32 => ("AnswerShorterModel", "fourWords", "[I", true)
  | 33 => ("AnswerShorterModel", "bestLeft", "I", false)
  | 34 => ("AnswerShorterModel", "drawn", "I", false)
  | _ => ("AnswerShorterModel", "lot", "[I", true)
def tyX8 : Nat → FieldType := fun k => match k with
  | 0 => .array .int
  | 1 => .int
  | 2 => .array .int
  | 3 => .int
  | 4 => .array .int
  | 5 => .int
  | 6 => .array .int
  | 7 => .int
  | 8 => .array .int
  | 9 => .array .int
  | 10 => .array .int
  | 11 => .int
  | 12 => .array .int
  | 13 => .int
  | 14 => .int
  | 15 => .int
  | 16 => .array .int
  | 17 => .array .int
  | 18 => .array .int
  | 19 => .int
  | 20 => .object "AnswerShorterModel"
  | 21 => .int
  | 22 => .object "AnswerShorterModel"
  | 23 => .array .int
  | 24 => .array (.array .int)
  | 25 => .array .int
  | 26 => .array .int
  | 27 => .int
  | 28 => .int
  | 29 => .int
  | 30 => .int
  | 31 => .int
  | 32 => .array .int
  | 33 => .int
  | 34 => .int
  | _ => .array .int
abbrev wsX80 : List Cond := u_ws RX8 TX8 36
theorem nmX8 : ∀ a, a < 36 → ∀ b, b < 36 → a ≠ b → (TX8 a).2.1 ≠ (TX8 b).2.1 := by decide +kernel
theorem tyX8_ok : ∀ k, k < 36 → parseFieldDescriptor (TX8 k).2.2.1 = some (tyX8 k) := by decide +kernel
abbrev cX8_init : ByteArray := prog_10_method_1_code
def yX8_init : MethodName := ⟨RX8, "<init>", "()V"⟩
abbrev cX8_refuse : ByteArray := prog_10_method_2_code
def yX8_refuse : MethodName := ⟨RX8, "refuse", "(I)I"⟩
abbrev cX8_in : ByteArray := prog_10_method_3_code
def yX8_in : MethodName := ⟨RX8, "in", "(III)Z"⟩
abbrev cX8_isCase : ByteArray := prog_10_method_4_code
def yX8_isCase : MethodName := ⟨RX8, "isCase", "(I)Z"⟩
abbrev cX8_isWord : ByteArray := prog_10_method_5_code
def yX8_isWord : MethodName := ⟨RX8, "isWord", "(I)Z"⟩
abbrev cX8_isPerson : ByteArray := prog_10_method_6_code
def yX8_isPerson : MethodName := ⟨RX8, "isPerson", "(I)Z"⟩
abbrev cX8_isSet : ByteArray := prog_10_method_7_code
def yX8_isSet : MethodName := ⟨RX8, "isSet", "(I)Z"⟩
abbrev cX8_weightOf : ByteArray := prog_10_method_8_code
def yX8_weightOf : MethodName := ⟨RX8, "weightOf", "(I)I"⟩
abbrev cX8_letter : ByteArray := prog_10_method_9_code
def yX8_letter : MethodName := ⟨RX8, "letter", "(I)I"⟩
abbrev cX8_sees : ByteArray := prog_10_method_10_code
def yX8_sees : MethodName := ⟨RX8, "sees", "(I)Z"⟩
abbrev cX8_seesDigit : ByteArray := prog_10_method_11_code
def yX8_seesDigit : MethodName := ⟨RX8, "seesDigit", "()Z"⟩
abbrev cX8_digit : ByteArray := prog_10_method_12_code
def yX8_digit : MethodName := ⟨RX8, "digit", "()Z"⟩
abbrev cX8_must : ByteArray := prog_10_method_13_code
def yX8_must : MethodName := ⟨RX8, "must", "(I)Z"⟩
abbrev cX8_seesTalker : ByteArray := prog_10_method_14_code
def yX8_seesTalker : MethodName := ⟨RX8, "seesTalker", "()Z"⟩
abbrev cX8_goesBy : ByteArray := prog_10_method_15_code
def yX8_goesBy : MethodName := ⟨RX8, "goesBy", "()Z"⟩
abbrev cX8_faultOfForm : ByteArray := prog_10_method_16_code
def yX8_faultOfForm : MethodName := ⟨RX8, "faultOfForm", "()I"⟩
abbrev cX8_addWord : ByteArray := prog_10_method_17_code
def yX8_addWord : MethodName := ⟨RX8, "addWord", "(II)Z"⟩
abbrev cX8_tellingComes : ByteArray := prog_10_method_18_code
def yX8_tellingComes : MethodName := ⟨RX8, "tellingComes", "()Z"⟩
abbrev cX8_comes : ByteArray := prog_10_method_19_code
def yX8_comes : MethodName := ⟨RX8, "comes", "()Z"⟩
abbrev cX8_tongue : ByteArray := prog_10_method_20_code
def yX8_tongue : MethodName := ⟨RX8, "tongue", "()I"⟩
abbrev cX8_word : ByteArray := prog_10_method_21_code
def yX8_word : MethodName := ⟨RX8, "word", "(II)I"⟩
abbrev cX8_weight : ByteArray := prog_10_method_22_code
def yX8_weight : MethodName := ⟨RX8, "weight", "(I)I"⟩
abbrev cX8_truth : ByteArray := prog_10_method_23_code
def yX8_truth : MethodName := ⟨RX8, "truth", "(I)I"⟩
abbrev cX8_law : ByteArray := prog_10_method_24_code
def yX8_law : MethodName := ⟨RX8, "law", "(I)I"⟩
abbrev cX8_row : ByteArray := prog_10_method_25_code
def yX8_row : MethodName := ⟨RX8, "row", "(I)I"⟩
abbrev cX8_meaning : ByteArray := prog_10_method_26_code
def yX8_meaning : MethodName := ⟨RX8, "meaning", "([II)I"⟩
abbrev cX8_idleOf : ByteArray := prog_10_method_27_code
def yX8_idleOf : MethodName := ⟨RX8, "idleOf", "([II)I"⟩
abbrev cX8_mayFollow : ByteArray := prog_10_method_28_code
def yX8_mayFollow : MethodName := ⟨RX8, "mayFollow", "(IIIII)Z"⟩
abbrev cX8_doesSettle : ByteArray := prog_10_method_29_code
def yX8_doesSettle : MethodName := ⟨RX8, "doesSettle", "(II)Z"⟩
abbrev cX8_means : ByteArray := prog_10_method_30_code
def yX8_means : MethodName := ⟨RX8, "means", "()I"⟩
abbrev cX8_follows : ByteArray := prog_10_method_31_code
def yX8_follows : MethodName := ⟨RX8, "follows", "(II)I"⟩
abbrev cX8_settles : ByteArray := prog_10_method_32_code
def yX8_settles : MethodName := ⟨RX8, "settles", "(I)I"⟩
abbrev cX8_add : ByteArray := prog_10_method_33_code
def yX8_add : MethodName := ⟨RX8, "add", "(IIII)V"⟩
abbrev cX8_list : ByteArray := prog_10_method_34_code
def yX8_list : MethodName := ⟨RX8, "list", "()V"⟩
abbrev cX8_asks : ByteArray := prog_10_method_35_code
def yX8_asks : MethodName := ⟨RX8, "asks", "(IIII)V"⟩
abbrev cX8_asksRow : ByteArray := prog_10_method_36_code
def yX8_asksRow : MethodName := ⟨RX8, "asksRow", "()V"⟩
abbrev cX8_isAnswer : ByteArray := prog_10_method_37_code
def yX8_isAnswer : MethodName := ⟨RX8, "isAnswer", "(I)Z"⟩
abbrev cX8_isBetter : ByteArray := prog_10_method_38_code
def yX8_isBetter : MethodName := ⟨RX8, "isBetter", "(III)Z"⟩
abbrev cX8_answerOf : ByteArray := prog_10_method_39_code
def yX8_answerOf : MethodName := ⟨RX8, "answerOf", "(II)I"⟩
abbrev cX8_answer : ByteArray := prog_10_method_40_code
def yX8_answer : MethodName := ⟨RX8, "answer", "(II)I"⟩
abbrev cX8_answers : ByteArray := prog_10_method_41_code
def yX8_answers : MethodName := ⟨RX8, "answers", "(I)I"⟩
abbrev cX8_goesOn : ByteArray := prog_10_method_42_code
def yX8_goesOn : MethodName := ⟨RX8, "goesOn", "()Z"⟩
abbrev cX8_least : ByteArray := prog_10_method_43_code
def yX8_least : MethodName := ⟨RX8, "least", "(II)I"⟩
abbrev cX8_leftOf : ByteArray := prog_10_method_44_code
def yX8_leftOf : MethodName := ⟨RX8, "leftOf", "(I)I"⟩
abbrev cX8_left : ByteArray := prog_10_method_45_code
def yX8_left : MethodName := ⟨RX8, "left", "(I)I"⟩
abbrev cX8_bestOf : ByteArray := prog_10_method_46_code
def yX8_bestOf : MethodName := ⟨RX8, "bestOf", "(II)I"⟩
abbrev cX8_best : ByteArray := prog_10_method_47_code
def yX8_best : MethodName := ⟨RX8, "best", "(II)I"⟩
abbrev cX8_forces : ByteArray := prog_10_method_48_code
def yX8_forces : MethodName := ⟨RX8, "forces", "(I)Z"⟩
abbrev cX8_force : ByteArray := prog_10_method_49_code
def yX8_force : MethodName := ⟨RX8, "force", "(II)I"⟩
abbrev cX8_told : ByteArray := prog_10_method_50_code
def yX8_told : MethodName := ⟨RX8, "told", "(I)I"⟩
abbrev cX8_isTold : ByteArray := prog_10_method_51_code
def yX8_isTold : MethodName := ⟨RX8, "isTold", "(I)Z"⟩
abbrev cX8_meant : ByteArray := prog_10_method_52_code
def yX8_meant : MethodName := ⟨RX8, "meant", "(I)I"⟩
abbrev cX8_common : ByteArray := prog_10_method_53_code
def yX8_common : MethodName := ⟨RX8, "common", "(II)I"⟩
abbrev cX8_chance : ByteArray := prog_10_method_54_code
def yX8_chance : MethodName := ⟨RX8, "chance", "(II)I"⟩
abbrev cX8_say : ByteArray := prog_10_method_55_code
def yX8_say : MethodName := ⟨RX8, "say", "()I"⟩
abbrev cX8_saying : ByteArray := prog_10_method_56_code
def yX8_saying : MethodName := ⟨RX8, "saying", "(II)I"⟩
abbrev cX8_known : ByteArray := prog_10_method_57_code
def yX8_known : MethodName := ⟨RX8, "known", "()I"⟩
abbrev cX8_silence : ByteArray := prog_10_method_58_code
def yX8_silence : MethodName := ⟨RX8, "silence", "()I"⟩
abbrev cX8_longest : ByteArray := prog_10_method_59_code
def yX8_longest : MethodName := ⟨RX8, "longest", "(I)I"⟩
abbrev cX8_last : ByteArray := prog_10_method_60_code
def yX8_last : MethodName := ⟨RX8, "last", "(I)I"⟩
abbrev cX8_idle : ByteArray := prog_10_method_61_code
def yX8_idle : MethodName := ⟨RX8, "idle", "(I)I"⟩
abbrev cX8_under : ByteArray := prog_10_method_62_code
def yX8_under : MethodName := ⟨RX8, "under", "(II)I"⟩
abbrev cX8_draw : ByteArray := prog_10_method_63_code
def yX8_draw : MethodName := ⟨RX8, "draw", "(I)I"⟩
abbrev cX8_lots : ByteArray := prog_10_method_64_code
def yX8_lots : MethodName := ⟨RX8, "lots", "(III)I"⟩
abbrev cX8_over : ByteArray := prog_10_method_65_code
def yX8_over : MethodName := ⟨RX8, "over", "([I[I)V"⟩
abbrev cX8_takeFrom : ByteArray := prog_10_method_66_code
def yX8_takeFrom : MethodName := ⟨RX8, "takeFrom", "(LAnswerShorterModel;)V"⟩
abbrev cX8_image : ByteArray := prog_10_method_67_code
def yX8_image : MethodName := ⟨RX8, "image", "()I"⟩
abbrev cX8_on : ByteArray := prog_10_method_68_code
def yX8_on : MethodName := ⟨RX8, "on", "()I"⟩
abbrev cX8_count : ByteArray := prog_10_method_69_code
def yX8_count : MethodName := ⟨RX8, "count", "(I)I"⟩
def RJx145de : String := "java/io/Serializable"
def TJx145de : u_T := fun k => match k with
  | _ => ("", "", "", false)
def tyJx145de : Nat → FieldType := fun k => match k with
  | _ => .int
theorem nmJx145de : ∀ a, a < 0 → ∀ b, b < 0 → a ≠ b → (TJx145de a).2.1 ≠ (TJx145de b).2.1 := by decide +kernel
theorem tyJx145de_ok : ∀ k, k < 0 → parseFieldDescriptor (TJx145de k).2.2.1 = some (tyJx145de k) := by decide +kernel
def RJx9f9b0 : String := "java/lang/CharSequence"
def TJx9f9b0 : u_T := fun k => match k with
  | _ => ("", "", "", false)
def tyJx9f9b0 : Nat → FieldType := fun k => match k with
  | _ => .int
theorem nmJx9f9b0 : ∀ a, a < 0 → ∀ b, b < 0 → a ≠ b → (TJx9f9b0 a).2.1 ≠ (TJx9f9b0 b).2.1 := by decide +kernel
theorem tyJx9f9b0_ok : ∀ k, k < 0 → parseFieldDescriptor (TJx9f9b0 k).2.2.1 = some (tyJx9f9b0 k) := by decide +kernel
def RJ11 : String := "java/lang/Character"
def TJ11 : u_T := fun k => match k with
  | _ => ("", "", "", false)
def tyJ11 : Nat → FieldType := fun k => match k with
  | _ => .int
theorem nmJ11 : ∀ a, a < 0 → ∀ b, b < 0 → a ≠ b → (TJ11 a).2.1 ≠ (TJ11 b).2.1 := by decide +kernel
theorem tyJ11_ok : ∀ k, k < 0 → parseFieldDescriptor (TJ11 k).2.2.1 = some (tyJ11 k) := by decide +kernel
abbrev cJ11_isValidCodePoint_9a6ad : ByteArray := prog_11_method_11_code
def yJ11_isValidCodePoint_9a6ad : MethodName := ⟨RJ11, "isValidCodePoint", "(I)Z"⟩
abbrev cJ11_highSurrogate_5068e : ByteArray := prog_11_method_28_code
def yJ11_highSurrogate_5068e : MethodName := ⟨RJ11, "highSurrogate", "(I)C"⟩
abbrev cJ11_lowSurrogate_5068e : ByteArray := prog_11_method_29_code
def yJ11_lowSurrogate_5068e : MethodName := ⟨RJ11, "lowSurrogate", "(I)C"⟩
def RJxb160c : String := "java/lang/Comparable"
def TJxb160c : u_T := fun k => match k with
  | _ => ("", "", "", false)
def tyJxb160c : Nat → FieldType := fun k => match k with
  | _ => .int
theorem nmJxb160c : ∀ a, a < 0 → ∀ b, b < 0 → a ≠ b → (TJxb160c a).2.1 ≠ (TJxb160c b).2.1 := by decide +kernel
theorem tyJxb160c_ok : ∀ k, k < 0 → parseFieldDescriptor (TJxb160c k).2.2.1 = some (tyJxb160c k) := by decide +kernel
def RJ9 : String := "java/lang/Math"
def TJ9 : u_T := fun k => match k with
  | _ => ("", "", "", false)
def tyJ9 : Nat → FieldType := fun k => match k with
  | _ => .int
theorem nmJ9 : ∀ a, a < 0 → ∀ b, b < 0 → a ≠ b → (TJ9 a).2.1 ≠ (TJ9 b).2.1 := by decide +kernel
theorem tyJ9_ok : ∀ k, k < 0 → parseFieldDescriptor (TJ9 k).2.2.1 = some (tyJ9 k) := by decide +kernel
abbrev cJ9_max_7cf53 : ByteArray := prog_12_method_65_code
def yJ9_max_7cf53 : MethodName := ⟨RJ9, "max", "(II)I"⟩
abbrev cJ9_min_7cf53 : ByteArray := prog_12_method_69_code
def yJ9_min_7cf53 : MethodName := ⟨RJ9, "min", "(II)I"⟩
def RJ0 : String := "java/lang/String"
def TJ0 : u_T := fun k => match k with
  | _ => ("", "", "", false)
def tyJ0 : Nat → FieldType := fun k => match k with
  | _ => .int
theorem nmJ0 : ∀ a, a < 0 → ∀ b, b < 0 → a ≠ b → (TJ0 a).2.1 ≠ (TJ0 b).2.1 := by decide +kernel
theorem tyJ0_ok : ∀ k, k < 0 → parseFieldDescriptor (TJ0 k).2.2.1 = some (tyJ0 k) := by decide +kernel
abbrev cJ0_length_8abf5 : ByteArray := prog_13_method_54_code
def yJ0_length_8abf5 : MethodName := ⟨RJ0, "length", "()I"⟩
abbrev cJ0_isEmpty_aae02 : ByteArray := prog_13_method_55_code
def yJ0_isEmpty_aae02 : MethodName := ⟨RJ0, "isEmpty", "()Z"⟩
abbrev cJ0_charAt_5068e : ByteArray := prog_13_method_56_code
def yJ0_charAt_5068e : MethodName := ⟨RJ0, "charAt", "(I)C"⟩
abbrev cJ0_indexOf_0f7a4 : ByteArray := prog_13_method_79_code
def yJ0_indexOf_0f7a4 : MethodName := ⟨RJ0, "indexOf", "(I)I"⟩
abbrev cJ0_indexOf_7cf53 : ByteArray := prog_13_method_80_code
def yJ0_indexOf_7cf53 : MethodName := ⟨RJ0, "indexOf", "(II)I"⟩
abbrev cJ0_coder_7d493 : ByteArray := prog_13_method_152_code
def yJ0_coder_7d493 : MethodName := ⟨RJ0, "coder", "()B"⟩
abbrev cJ0_isLatin1_aae02 : ByteArray := prog_13_method_154_code
def yJ0_isLatin1_aae02 : MethodName := ⟨RJ0, "isLatin1", "()Z"⟩
abbrev cJ0_checkIndex_df160 : ByteArray := prog_13_method_155_code
def yJ0_checkIndex_df160 : MethodName := ⟨RJ0, "checkIndex", "(II)V"⟩
abbrev cJ0_checkBoundsBeginEnd_23922 : ByteArray := prog_13_method_158_code
def yJ0_checkBoundsBeginEnd_23922 : MethodName := ⟨RJ0, "checkBoundsBeginEnd", "(III)V"⟩
def RJ1 : String := "java/lang/StringLatin1"
def TJ1 : u_T := fun k => match k with
  | _ => ("", "", "", false)
def tyJ1 : Nat → FieldType := fun k => match k with
  | _ => .int
theorem nmJ1 : ∀ a, a < 0 → ∀ b, b < 0 → a ≠ b → (TJ1 a).2.1 ≠ (TJ1 b).2.1 := by decide +kernel
theorem tyJ1_ok : ∀ k, k < 0 → parseFieldDescriptor (TJ1 k).2.2.1 = some (tyJ1 k) := by decide +kernel
abbrev cJ1_charAt_3b067 : ByteArray := prog_14_method_2_code
def yJ1_charAt_3b067 : MethodName := ⟨RJ1, "charAt", "([BI)C"⟩
abbrev cJ1_canEncode_9a6ad : ByteArray := prog_14_method_4_code
def yJ1_canEncode_9a6ad : MethodName := ⟨RJ1, "canEncode", "(I)Z"⟩
abbrev cJ1_indexOf_4cfef : ByteArray := prog_14_method_22_code
def yJ1_indexOf_4cfef : MethodName := ⟨RJ1, "indexOf", "([BIII)I"⟩
abbrev cJ1_indexOfChar_4cfef : ByteArray := prog_14_method_23_code
def yJ1_indexOfChar_4cfef : MethodName := ⟨RJ1, "indexOfChar", "([BIII)I"⟩
def RJ2 : String := "java/lang/StringUTF16"
def TJ2 : u_T := fun k => match k with
  | _ => ("", "", "", false)
def tyJ2 : Nat → FieldType := fun k => match k with
  | _ => .int
theorem nmJ2 : ∀ a, a < 0 → ∀ b, b < 0 → a ≠ b → (TJ2 a).2.1 ≠ (TJ2 b).2.1 := by decide +kernel
theorem tyJ2_ok : ∀ k, k < 0 → parseFieldDescriptor (TJ2 k).2.2.1 = some (tyJ2 k) := by decide +kernel
abbrev cJ2_getChar_3b067 : ByteArray := prog_15_method_5_code
def yJ2_getChar_3b067 : MethodName := ⟨RJ2, "getChar", "([BI)C"⟩
abbrev cJ2_length_9d52b : ByteArray := prog_15_method_6_code
def yJ2_length_9d52b : MethodName := ⟨RJ2, "length", "([B)I"⟩
abbrev cJ2_indexOf_4cfef : ByteArray := prog_15_method_40_code
def yJ2_indexOf_4cfef : MethodName := ⟨RJ2, "indexOf", "([BIII)I"⟩
abbrev cJ2_indexOfChar_4cfef : ByteArray := prog_15_method_47_code
def yJ2_indexOfChar_4cfef : MethodName := ⟨RJ2, "indexOfChar", "([BIII)I"⟩
abbrev cJ2_indexOfCharUnsafe_4cfef : ByteArray := prog_15_method_48_code
def yJ2_indexOfCharUnsafe_4cfef : MethodName := ⟨RJ2, "indexOfCharUnsafe", "([BIII)I"⟩
abbrev cJ2_indexOfSupplementary_4cfef : ByteArray := prog_15_method_49_code
def yJ2_indexOfSupplementary_4cfef : MethodName := ⟨RJ2, "indexOfSupplementary", "([BIII)I"⟩
abbrev cJ2_charAt_3b067 : ByteArray := prog_15_method_83_code
def yJ2_charAt_3b067 : MethodName := ⟨RJ2, "charAt", "([BI)C"⟩
abbrev cJ2_checkIndex_2214a : ByteArray := prog_15_method_91_code
def yJ2_checkIndex_2214a : MethodName := ⟨RJ2, "checkIndex", "(I[B)V"⟩
abbrev cJ2_checkBoundsBeginEnd_d044e : ByteArray := prog_15_method_93_code
def yJ2_checkBoundsBeginEnd_d044e : MethodName := ⟨RJ2, "checkBoundsBeginEnd", "(II[B)V"⟩
def RJ10 : String := "java/lang/System"
def TJ10 : u_T := fun k => match k with
  | _ => ("", "", "", false)
def tyJ10 : Nat → FieldType := fun k => match k with
  | _ => .int
theorem nmJ10 : ∀ a, a < 0 → ∀ b, b < 0 → a ≠ b → (TJ10 a).2.1 ≠ (TJ10 b).2.1 := by decide +kernel
theorem tyJ10_ok : ∀ k, k < 0 → parseFieldDescriptor (TJ10 k).2.2.1 = some (tyJ10 k) := by decide +kernel
def RJxfd54e : String := "java/lang/constant/Constable"
def TJxfd54e : u_T := fun k => match k with
  | _ => ("", "", "", false)
def tyJxfd54e : Nat → FieldType := fun k => match k with
  | _ => .int
theorem nmJxfd54e : ∀ a, a < 0 → ∀ b, b < 0 → a ≠ b → (TJxfd54e a).2.1 ≠ (TJxfd54e b).2.1 := by decide +kernel
theorem tyJxfd54e_ok : ∀ k, k < 0 → parseFieldDescriptor (TJxfd54e k).2.2.1 = some (tyJxfd54e k) := by decide +kernel
def RJx3cf43 : String := "java/lang/constant/ConstantDesc"
def TJx3cf43 : u_T := fun k => match k with
  | _ => ("", "", "", false)
def tyJx3cf43 : Nat → FieldType := fun k => match k with
  | _ => .int
theorem nmJx3cf43 : ∀ a, a < 0 → ∀ b, b < 0 → a ≠ b → (TJx3cf43 a).2.1 ≠ (TJx3cf43 b).2.1 := by decide +kernel
theorem tyJx3cf43_ok : ∀ k, k < 0 → parseFieldDescriptor (TJx3cf43 k).2.2.1 = some (tyJx3cf43 k) := by decide +kernel
def RJ7 : String := "java/util/Arrays"
def TJ7 : u_T := fun k => match k with
  | _ => ("", "", "", false)
def tyJ7 : Nat → FieldType := fun k => match k with
  | _ => .int
theorem nmJ7 : ∀ a, a < 0 → ∀ b, b < 0 → a ≠ b → (TJ7 a).2.1 ≠ (TJ7 b).2.1 := by decide +kernel
theorem tyJ7_ok : ∀ k, k < 0 → parseFieldDescriptor (TJ7 k).2.2.1 = some (tyJ7 k) := by decide +kernel
abbrev cJ7_fill_53178 : ByteArray := prog_17_method_103_code
def yJ7_fill_53178 : MethodName := ⟨RJ7, "fill", "([II)V"⟩
def RJ3 : String := "jdk/internal/util/Preconditions"
def TJ3 : u_T := fun k => match k with
  | _ => ("", "", "", false)
def tyJ3 : Nat → FieldType := fun k => match k with
  | _ => .int
theorem nmJ3 : ∀ a, a < 0 → ∀ b, b < 0 → a ≠ b → (TJ3 a).2.1 ≠ (TJ3 b).2.1 := by decide +kernel
theorem tyJ3_ok : ∀ k, k < 0 → parseFieldDescriptor (TJ3 k).2.2.1 = some (tyJ3 k) := by decide +kernel
abbrev cJ3_checkIndex_8e157 : ByteArray := prog_18_method_11_code
def yJ3_checkIndex_8e157 : MethodName := ⟨RJ3, "checkIndex", "(IILjava/util/function/BiFunction;)I"⟩
abbrev cJ3_checkFromToIndex_8c36e : ByteArray := prog_18_method_12_code
def yJ3_checkFromToIndex_8c36e : MethodName := ⟨RJ3, "checkFromToIndex", "(IIILjava/util/function/BiFunction;)I"⟩
def RL : String := "AnswerShorterLaw"
abbrev cL_law : ByteArray := code
def yL_law : MethodName := ⟨RL, "law", "([I)Z"⟩
abbrev vwCl : List vw_C := [(RX0, TX0, 4), (RX1, TX1, 2), (RX2, TX2, 2), (RX3, TX3, 18), (RX5, TX5, 2), (RX6, TX6, 8), (RX7, TX7, 11), (RX8, TX8, 36)]
