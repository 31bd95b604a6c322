section
-- ===== PART A: goes FIRST, ahead of the names: the tables' words, and 'selects' of the private methods out of them =====
/-- a private method of a class that the tables say can be made, by its rows of tables_1 -/
def lw_okq (q : MethodName × Nat) : Prop := (q.1.cls ≠ "java/lang/invoke/MethodHandle" ∧ q.1.cls ≠ "java/lang/invoke/VarHandle") ∧ Cond.instantiable q.1.cls q.2 ∈ tables_1 ∧ Cond.privateMethod q.1 ∈ tables_1 ∧ Cond.instanceMethod q.1 ∈ tables_1
theorem lw_p0 : lw_okq (⟨"TwoKeys", "goalOf", "(I)I"⟩, 9) := ⟨⟨by decide +kernel, by decide +kernel⟩, List.mem_of_getElem? (i := 11) (by decide +kernel), List.mem_of_getElem? (i := 203) (by decide +kernel), List.mem_of_getElem? (i := 204) (by decide +kernel)⟩
theorem lw_p1 : lw_okq (⟨"TwoKeys", "errorOf", "(I)I"⟩, 9) := ⟨⟨by decide +kernel, by decide +kernel⟩, List.mem_of_getElem? (i := 11) (by decide +kernel), List.mem_of_getElem? (i := 211) (by decide +kernel), List.mem_of_getElem? (i := 212) (by decide +kernel)⟩
theorem lw_p2 : lw_okq (⟨"TwoKeys", "allErrors", "()I"⟩, 9) := ⟨⟨by decide +kernel, by decide +kernel⟩, List.mem_of_getElem? (i := 11) (by decide +kernel), List.mem_of_getElem? (i := 285) (by decide +kernel), List.mem_of_getElem? (i := 286) (by decide +kernel)⟩
theorem lw_p3 : lw_okq (⟨"TwoKeys", "tuneOne", "(I)V"⟩, 9) := ⟨⟨by decide +kernel, by decide +kernel⟩, List.mem_of_getElem? (i := 11) (by decide +kernel), List.mem_of_getElem? (i := 296) (by decide +kernel), List.mem_of_getElem? (i := 297) (by decide +kernel)⟩
theorem lw_p4 : lw_okq (⟨"TwoKeys", "findStrings", "(II)I"⟩, 9) := ⟨⟨by decide +kernel, by decide +kernel⟩, List.mem_of_getElem? (i := 11) (by decide +kernel), List.mem_of_getElem? (i := 483) (by decide +kernel), List.mem_of_getElem? (i := 484) (by decide +kernel)⟩
theorem lw_p5 : lw_okq (⟨"TwoKeysModel", "noKey", "(I)Z"⟩, 21) := ⟨⟨by decide +kernel, by decide +kernel⟩, List.mem_of_getElem? (i := 613) (by decide +kernel), List.mem_of_getElem? (i := 697) (by decide +kernel), List.mem_of_getElem? (i := 698) (by decide +kernel)⟩
theorem lw_p6 : lw_okq (⟨"TwoKeysModel", "toneOf", "(I)I"⟩, 21) := ⟨⟨by decide +kernel, by decide +kernel⟩, List.mem_of_getElem? (i := 613) (by decide +kernel), List.mem_of_getElem? (i := 724) (by decide +kernel), List.mem_of_getElem? (i := 725) (by decide +kernel)⟩
theorem lw_p7 : lw_okq (⟨"TwoKeysModel", "soundsOf", "(I)I"⟩, 21) := ⟨⟨by decide +kernel, by decide +kernel⟩, List.mem_of_getElem? (i := 613) (by decide +kernel), List.mem_of_getElem? (i := 728) (by decide +kernel), List.mem_of_getElem? (i := 729) (by decide +kernel)⟩
theorem lw_p8 : lw_okq (⟨"TwoKeysModel", "goalOf", "(III)I"⟩, 21) := ⟨⟨by decide +kernel, by decide +kernel⟩, List.mem_of_getElem? (i := 613) (by decide +kernel), List.mem_of_getElem? (i := 732) (by decide +kernel), List.mem_of_getElem? (i := 733) (by decide +kernel)⟩
theorem lw_p9 : lw_okq (⟨"TwoKeysModel", "errorOf", "(I)I"⟩, 21) := ⟨⟨by decide +kernel, by decide +kernel⟩, List.mem_of_getElem? (i := 613) (by decide +kernel), List.mem_of_getElem? (i := 736) (by decide +kernel), List.mem_of_getElem? (i := 737) (by decide +kernel)⟩
theorem lw_p10 : lw_okq (⟨"TwoKeysModel", "onString", "(I)I"⟩, 21) := ⟨⟨by decide +kernel, by decide +kernel⟩, List.mem_of_getElem? (i := 613) (by decide +kernel), List.mem_of_getElem? (i := 749) (by decide +kernel), List.mem_of_getElem? (i := 750) (by decide +kernel)⟩
theorem lw_p11 : lw_okq (⟨"TwoKeysModel", "allWrong", "()I"⟩, 21) := ⟨⟨by decide +kernel, by decide +kernel⟩, List.mem_of_getElem? (i := 613) (by decide +kernel), List.mem_of_getElem? (i := 785) (by decide +kernel), List.mem_of_getElem? (i := 786) (by decide +kernel)⟩
theorem lw_p12 : lw_okq (⟨"TwoKeysModel", "bendBest", "(I)V"⟩, 21) := ⟨⟨by decide +kernel, by decide +kernel⟩, List.mem_of_getElem? (i := 613) (by decide +kernel), List.mem_of_getElem? (i := 796) (by decide +kernel), List.mem_of_getElem? (i := 797) (by decide +kernel)⟩
theorem lw_p13 : lw_okq (⟨"TwoKeysModel", "clashesOf", "(I)I"⟩, 21) := ⟨⟨by decide +kernel, by decide +kernel⟩, List.mem_of_getElem? (i := 613) (by decide +kernel), List.mem_of_getElem? (i := 831) (by decide +kernel), List.mem_of_getElem? (i := 832) (by decide +kernel)⟩
theorem lw_p14 : lw_okq (⟨"TwoKeysModel", "shares", "(II)Z"⟩, 21) := ⟨⟨by decide +kernel, by decide +kernel⟩, List.mem_of_getElem? (i := 613) (by decide +kernel), List.mem_of_getElem? (i := 835) (by decide +kernel), List.mem_of_getElem? (i := 836) (by decide +kernel)⟩
theorem lw_p15 : lw_okq (⟨"TwoKeysModel", "meet", "(II)Z"⟩, 21) := ⟨⟨by decide +kernel, by decide +kernel⟩, List.mem_of_getElem? (i := 613) (by decide +kernel), List.mem_of_getElem? (i := 839) (by decide +kernel), List.mem_of_getElem? (i := 840) (by decide +kernel)⟩
def lw_privs_1 : List (MethodName × Nat) := [(⟨"TwoKeys", "goalOf", "(I)I"⟩, 9), (⟨"TwoKeys", "errorOf", "(I)I"⟩, 9), (⟨"TwoKeys", "allErrors", "()I"⟩, 9), (⟨"TwoKeys", "tuneOne", "(I)V"⟩, 9), (⟨"TwoKeys", "findStrings", "(II)I"⟩, 9), (⟨"TwoKeysModel", "noKey", "(I)Z"⟩, 21), (⟨"TwoKeysModel", "toneOf", "(I)I"⟩, 21), (⟨"TwoKeysModel", "soundsOf", "(I)I"⟩, 21), (⟨"TwoKeysModel", "goalOf", "(III)I"⟩, 21), (⟨"TwoKeysModel", "errorOf", "(I)I"⟩, 21), (⟨"TwoKeysModel", "onString", "(I)I"⟩, 21), (⟨"TwoKeysModel", "allWrong", "()I"⟩, 21), (⟨"TwoKeysModel", "bendBest", "(I)V"⟩, 21), (⟨"TwoKeysModel", "clashesOf", "(I)I"⟩, 21), (⟨"TwoKeysModel", "shares", "(II)Z"⟩, 21), (⟨"TwoKeysModel", "meet", "(II)Z"⟩, 21)]
theorem lw_r1 : ∀ q ∈ lw_privs_1, lw_okq q := List.forall_mem_cons.mpr ⟨lw_p0, List.forall_mem_cons.mpr ⟨lw_p1, List.forall_mem_cons.mpr ⟨lw_p2, List.forall_mem_cons.mpr ⟨lw_p3, List.forall_mem_cons.mpr ⟨lw_p4, List.forall_mem_cons.mpr ⟨lw_p5, List.forall_mem_cons.mpr ⟨lw_p6, List.forall_mem_cons.mpr ⟨lw_p7, List.forall_mem_cons.mpr ⟨lw_p8, List.forall_mem_cons.mpr ⟨lw_p9, List.forall_mem_cons.mpr ⟨lw_p10, List.forall_mem_cons.mpr ⟨lw_p11, List.forall_mem_cons.mpr ⟨lw_p12, List.forall_mem_cons.mpr ⟨lw_p13, List.forall_mem_cons.mpr ⟨lw_p14, List.forall_mem_cons.mpr ⟨lw_p15, fun _ h => absurd h List.not_mem_nil⟩⟩⟩⟩⟩⟩⟩⟩⟩⟩⟩⟩⟩⟩⟩⟩
theorem lw_p16 : lw_okq (⟨"TwoKeysModel", "heardOf", "(III)I"⟩, 21) := ⟨⟨by decide +kernel, by decide +kernel⟩, List.mem_of_getElem? (i := 613) (by decide +kernel), List.mem_of_getElem? (i := 860) (by decide +kernel), List.mem_of_getElem? (i := 861) (by decide +kernel)⟩
theorem lw_p17 : lw_okq (⟨"TwoKeysModel", "togetherOf", "(II)I"⟩, 21) := ⟨⟨by decide +kernel, by decide +kernel⟩, List.mem_of_getElem? (i := 613) (by decide +kernel), List.mem_of_getElem? (i := 881) (by decide +kernel), List.mem_of_getElem? (i := 882) (by decide +kernel)⟩
theorem lw_p18 : lw_okq (⟨"TwoKeysModel", "shareBest", "(II)I"⟩, 21) := ⟨⟨by decide +kernel, by decide +kernel⟩, List.mem_of_getElem? (i := 613) (by decide +kernel), List.mem_of_getElem? (i := 890) (by decide +kernel), List.mem_of_getElem? (i := 891) (by decide +kernel)⟩
theorem lw_p19 : lw_okq (⟨"TwoKeysModel", "look", "(IZ)V"⟩, 21) := ⟨⟨by decide +kernel, by decide +kernel⟩, List.mem_of_getElem? (i := 613) (by decide +kernel), List.mem_of_getElem? (i := 894) (by decide +kernel), List.mem_of_getElem? (i := 895) (by decide +kernel)⟩
theorem lw_p20 : lw_okq (⟨"TwoKeysModel", "misfitOf", "(III)I"⟩, 21) := ⟨⟨by decide +kernel, by decide +kernel⟩, List.mem_of_getElem? (i := 613) (by decide +kernel), List.mem_of_getElem? (i := 923) (by decide +kernel), List.mem_of_getElem? (i := 924) (by decide +kernel)⟩
theorem lw_p21 : lw_okq (⟨"TwoKeysModel", "measuredKeys", "()I"⟩, 21) := ⟨⟨by decide +kernel, by decide +kernel⟩, List.mem_of_getElem? (i := 613) (by decide +kernel), List.mem_of_getElem? (i := 931) (by decide +kernel), List.mem_of_getElem? (i := 932) (by decide +kernel)⟩
theorem lw_p22 : lw_okq (⟨"TwoKeysModel", "pitchOf", "(II)I"⟩, 21) := ⟨⟨by decide +kernel, by decide +kernel⟩, List.mem_of_getElem? (i := 613) (by decide +kernel), List.mem_of_getElem? (i := 935) (by decide +kernel), List.mem_of_getElem? (i := 936) (by decide +kernel)⟩
theorem lw_p23 : lw_okq (⟨"TwoKeysModel", "meantOf", "()I"⟩, 21) := ⟨⟨by decide +kernel, by decide +kernel⟩, List.mem_of_getElem? (i := 613) (by decide +kernel), List.mem_of_getElem? (i := 944) (by decide +kernel), List.mem_of_getElem? (i := 945) (by decide +kernel)⟩
def lw_privs_2 : List (MethodName × Nat) := [(⟨"TwoKeysModel", "heardOf", "(III)I"⟩, 21), (⟨"TwoKeysModel", "togetherOf", "(II)I"⟩, 21), (⟨"TwoKeysModel", "shareBest", "(II)I"⟩, 21), (⟨"TwoKeysModel", "look", "(IZ)V"⟩, 21), (⟨"TwoKeysModel", "misfitOf", "(III)I"⟩, 21), (⟨"TwoKeysModel", "measuredKeys", "()I"⟩, 21), (⟨"TwoKeysModel", "pitchOf", "(II)I"⟩, 21), (⟨"TwoKeysModel", "meantOf", "()I"⟩, 21)]
theorem lw_r2 : ∀ q ∈ lw_privs_2, lw_okq q := List.forall_mem_cons.mpr ⟨lw_p16, List.forall_mem_cons.mpr ⟨lw_p17, List.forall_mem_cons.mpr ⟨lw_p18, List.forall_mem_cons.mpr ⟨lw_p19, List.forall_mem_cons.mpr ⟨lw_p20, List.forall_mem_cons.mpr ⟨lw_p21, List.forall_mem_cons.mpr ⟨lw_p22, List.forall_mem_cons.mpr ⟨lw_p23, fun _ h => absurd h List.not_mem_nil⟩⟩⟩⟩⟩⟩⟩⟩
def lw_privs : List (MethodName × Nat) := lw_privs_1 ++ (lw_privs_2)
def lw_tbl : List Cond := k2_sels lw_privs ++ tables_1
theorem lw_privs_ok : ∀ q ∈ lw_privs, lw_okq q := by
  show ∀ q ∈ lw_privs_1 ++ (lw_privs_2), lw_okq q
  exact List.forall_mem_append.mpr ⟨lw_r1, lw_r2⟩
-- ===== end of PART A; then your names; then what follows =====
/-! ===== BEGIN words of one list among another's, by their places ===== -/
theorem goodIn_r {big : List Cond} (ws : List Cond) (ps : List Nat) (hp : ws = ps.filterMap (fun i => big[i]?)) (h : ws.all goodWord = true) : GoodIn big ws := by
  intro w hw
  have h1 := List.all_eq_true.mp h w hw
  rw [hp] at hw
  obtain ⟨i, -, hi⟩ := List.mem_filterMap.mp hw
  have hm : w ∈ big := by first | exact List.mem_of_getElem? hi | exact List.getElem?_mem hi
  exact ⟨hm, good_of_word h1⟩
theorem goodIn_app {big a b : List Cond} (ha : GoodIn big a) (hb : GoodIn big b) : GoodIn big (a ++ b) := fun w h => (List.mem_append.mp h).elim (ha w) (hb w)
theorem goodIn_ca {big a b : List Cond} {c : Cond} (ha : GoodIn big (c :: a)) (hb : GoodIn big b) : GoodIn big (c :: (a ++ b)) := fun w h => (List.mem_cons.mp h).elim (fun e => ha w (List.mem_cons.mpr (Or.inl e))) (fun h => (List.mem_append.mp h).elim (fun h => ha w (List.mem_cons.mpr (Or.inr h))) (hb w))
theorem goodIn_sub {big ws : List Cond} (hm : ∀ w ∈ ws, w ∈ big) (h : ws.all goodWord = true) : GoodIn big ws := fun w hw => ⟨hm w hw, good_of_word (List.all_eq_true.mp h w hw)⟩
/-! ===== END ===== -/

/-! ===== BEGIN printed: names, fields, word lists, decode rows ===== -/
def RX0 : String := "TwoKeys$Board"
def TX0 : u_T := fun k => match k with
  | 0 => ("TwoKeys$Board", "size", "I", false)
  | 1 => ("TwoKeys$Board", "struck", "[I", true)
  | 2 => ("TwoKeys$Board", "lengths", "[I", true)
  | 3 => ("TwoKeys$Board", "bends", "[I", true)
  | _ => ("TwoKeys$Board", "tensions", "[I", true)
def tyX0 : Nat → FieldType := fun k => match k with
  | 0 => .int
  | 1 => .array .int
  | 2 => .array .int
  | 3 => .array .int
  | _ => .array .int
abbrev wsX00 : List Cond := u_ws RX0 TX0 5
theorem nmX0 : ∀ a, a < 5 → ∀ b, b < 5 → a ≠ b → (TX0 a).2.1 ≠ (TX0 b).2.1 := by decide +kernel
theorem tyX0_ok : ∀ k, k < 5 → parseFieldDescriptor (TX0 k).2.2.1 = some (tyX0 k) := by decide +kernel
abbrev cX0_init : ByteArray := prog_2_method_1_code
def yX0_init : MethodName := ⟨RX0, "<init>", "()V"⟩
abbrev cX0_has : ByteArray := prog_2_method_2_code
def yX0_has : MethodName := ⟨RX0, "has", "(I)Z"⟩
abbrev cX0_soundingLength : ByteArray := prog_2_method_3_code
def yX0_soundingLength : MethodName := ⟨RX0, "soundingLength", "(I)I"⟩
abbrev cX0_toneOf : ByteArray := prog_2_method_4_code
def yX0_toneOf : MethodName := ⟨RX0, "toneOf", "(I)I"⟩
abbrev cX0_toneBent : ByteArray := prog_2_method_5_code
def yX0_toneBent : MethodName := ⟨RX0, "toneBent", "(II)I"⟩
abbrev cX0_strikes : ByteArray := prog_2_method_6_code
def yX0_strikes : MethodName := ⟨RX0, "strikes", "(II)Z"⟩
abbrev cX0_doShare : ByteArray := prog_2_method_7_code
def yX0_doShare : MethodName := ⟨RX0, "doShare", "(II)Z"⟩
abbrev cX0_strikersOf : ByteArray := prog_2_method_8_code
def yX0_strikersOf : MethodName := ⟨RX0, "strikersOf", "(I)I"⟩
abbrev cX0_isInOrder : ByteArray := prog_2_method_9_code
def yX0_isInOrder : MethodName := ⟨RX0, "isInOrder", "()Z"⟩
abbrev cX0_stopsNearer : ByteArray := prog_2_method_10_code
def yX0_stopsNearer : MethodName := ⟨RX0, "stopsNearer", "(II)Z"⟩
abbrev cX0_countStruck : ByteArray := prog_2_method_11_code
def yX0_countStruck : MethodName := ⟨RX0, "countStruck", "()I"⟩
abbrev cX0_countBent : ByteArray := prog_2_method_12_code
def yX0_countBent : MethodName := ⟨RX0, "countBent", "()I"⟩
def RX1 : String := "TwoKeys$Music"
def TX1 : u_T := fun k => match k with
  | 0 => ("TwoKeys$Music", "board", "LTwoKeys$Board;", true)
  | 1 => ("TwoKeys$Music", "keyAt", "[I", true)
  | 2 => ("TwoKeys$Music", "beginAt", "[I", true)
  | 3 => ("TwoKeys$Music", "lengthAt", "[I", true)
  | _ => ("TwoKeys$Music", "sizes", "[I", true)
def tyX1 : Nat → FieldType := fun k => match k with
  | 0 => .object "TwoKeys$Board"
  | 1 => .array .int
  | 2 => .array .int
  | 3 => .array .int
  | _ => .array .int
abbrev wsX10 : List Cond := u_ws RX1 TX1 5
theorem nmX1 : ∀ a, a < 5 → ∀ b, b < 5 → a ≠ b → (TX1 a).2.1 ≠ (TX1 b).2.1 := by decide +kernel
theorem tyX1_ok : ∀ k, k < 5 → parseFieldDescriptor (TX1 k).2.2.1 = some (tyX1 k) := by decide +kernel
abbrev cX1_init : ByteArray := prog_3_method_1_code
def yX1_init : MethodName := ⟨RX1, "<init>", "(LTwoKeys$Board;)V"⟩
abbrev cX1_startOf : ByteArray := prog_3_method_2_code
def yX1_startOf : MethodName := ⟨RX1, "startOf", "(I)I"⟩
abbrev cX1_endOf : ByteArray := prog_3_method_3_code
def yX1_endOf : MethodName := ⟨RX1, "endOf", "(I)I"⟩
abbrev cX1_isFull : ByteArray := prog_3_method_4_code
def yX1_isFull : MethodName := ⟨RX1, "isFull", "(I)Z"⟩
abbrev cX1_lastBegin : ByteArray := prog_3_method_5_code
def yX1_lastBegin : MethodName := ⟨RX1, "lastBegin", "(I)I"⟩
abbrev cX1_append : ByteArray := prog_3_method_6_code
def yX1_append : MethodName := ⟨RX1, "append", "(IIII)I"⟩
abbrev cX1_countNotes : ByteArray := prog_3_method_7_code
def yX1_countNotes : MethodName := ⟨RX1, "countNotes", "()I"⟩
abbrev cX1_tickBehind : ByteArray := prog_3_method_8_code
def yX1_tickBehind : MethodName := ⟨RX1, "tickBehind", "(I)I"⟩
abbrev cX1_soundsAt : ByteArray := prog_3_method_9_code
def yX1_soundsAt : MethodName := ⟨RX1, "soundsAt", "(II)Z"⟩
abbrev cX1_soundAtOnce : ByteArray := prog_3_method_10_code
def yX1_soundAtOnce : MethodName := ⟨RX1, "soundAtOnce", "(II)Z"⟩
abbrev cX1_doClash : ByteArray := prog_3_method_11_code
def yX1_doClash : MethodName := ⟨RX1, "doClash", "(II)Z"⟩
abbrev cX1_countClashes : ByteArray := prog_3_method_12_code
def yX1_countClashes : MethodName := ⟨RX1, "countClashes", "(I)I"⟩
abbrev cX1_clashNumbered : ByteArray := prog_3_method_13_code
def yX1_clashNumbered : MethodName := ⟨RX1, "clashNumbered", "(II)I"⟩
abbrev cX1_countChokes : ByteArray := prog_3_method_14_code
def yX1_countChokes : MethodName := ⟨RX1, "countChokes", "(II)I"⟩
abbrev cX1_countTrills : ByteArray := prog_3_method_15_code
def yX1_countTrills : MethodName := ⟨RX1, "countTrills", "(IZ)I"⟩
abbrev cX1_lastOfTrill : ByteArray := prog_3_method_16_code
def yX1_lastOfTrill : MethodName := ⟨RX1, "lastOfTrill", "(II)I"⟩
abbrev cX1_goesOn : ByteArray := prog_3_method_17_code
def yX1_goesOn : MethodName := ⟨RX1, "goesOn", "(II)Z"⟩
abbrev cX1_keyHeard : ByteArray := prog_3_method_18_code
def yX1_keyHeard : MethodName := ⟨RX1, "keyHeard", "(III)I"⟩
abbrev cX1_ticksLost : ByteArray := prog_3_method_19_code
def yX1_ticksLost : MethodName := ⟨RX1, "ticksLost", "(II)I"⟩
abbrev cX1_allKeysThere : ByteArray := prog_3_method_20_code
def yX1_allKeysThere : MethodName := ⟨RX1, "allKeysThere", "(I)Z"⟩
def RX2 : String := "TwoKeys$OldOne"
def TX2 : u_T := fun k => match k with
  | 0 => ("TwoKeys$OldOne", "board", "LTwoKeys$Board;", true)
  | 1 => ("TwoKeys$OldOne", "scales", "LTwoKeys$Scales;", true)
  | 2 => ("TwoKeys$OldOne", "measured", "[I", true)
  | 3 => ("TwoKeys$OldOne", "pitchFound", "I", false)
  | _ => ("TwoKeys$OldOne", "misfitFound", "I", false)
def tyX2 : Nat → FieldType := fun k => match k with
  | 0 => .object "TwoKeys$Board"
  | 1 => .object "TwoKeys$Scales"
  | 2 => .array .int
  | 3 => .int
  | _ => .int
abbrev wsX20 : List Cond := u_ws RX2 TX2 5
theorem nmX2 : ∀ a, a < 5 → ∀ b, b < 5 → a ≠ b → (TX2 a).2.1 ≠ (TX2 b).2.1 := by decide +kernel
theorem tyX2_ok : ∀ k, k < 5 → parseFieldDescriptor (TX2 k).2.2.1 = some (tyX2 k) := by decide +kernel
abbrev cX2_init : ByteArray := prog_4_method_1_code
def yX2_init : MethodName := ⟨RX2, "<init>", "(LTwoKeys$Board;LTwoKeys$Scales;)V"⟩
abbrev cX2_countMeasured : ByteArray := prog_4_method_2_code
def yX2_countMeasured : MethodName := ⟨RX2, "countMeasured", "()I"⟩
abbrev cX2_misfitAt : ByteArray := prog_4_method_3_code
def yX2_misfitAt : MethodName := ⟨RX2, "misfitAt", "(III)I"⟩
abbrev cX2_seek : ByteArray := prog_4_method_4_code
def yX2_seek : MethodName := ⟨RX2, "seek", "(II)V"⟩
abbrev cX2_likelyPitch : ByteArray := prog_4_method_5_code
def yX2_likelyPitch : MethodName := ⟨RX2, "likelyPitch", "(II)I"⟩
abbrev cX2_scaleMeant : ByteArray := prog_4_method_6_code
def yX2_scaleMeant : MethodName := ⟨RX2, "scaleMeant", "()I"⟩
abbrev cX2_keyAdded : ByteArray := prog_4_method_7_code
def yX2_keyAdded : MethodName := ⟨RX2, "keyAdded", "()I"⟩
abbrev cX2_keyBentLater : ByteArray := prog_4_method_8_code
def yX2_keyBentLater : MethodName := ⟨RX2, "keyBentLater", "(II)I"⟩
def RX3 : String := "TwoKeys$Scales"
def TX3 : u_T := fun k => match k with
  | 0 => ("TwoKeys$Scales", "aboves", "[I", true)
  | _ => ("TwoKeys$Scales", "belows", "[I", true)
def tyX3 : Nat → FieldType := fun k => match k with
  | 0 => .array .int
  | _ => .array .int
abbrev wsX30 : List Cond := u_ws RX3 TX3 2
theorem nmX3 : ∀ a, a < 2 → ∀ b, b < 2 → a ≠ b → (TX3 a).2.1 ≠ (TX3 b).2.1 := by decide +kernel
theorem tyX3_ok : ∀ k, k < 2 → parseFieldDescriptor (TX3 k).2.2.1 = some (tyX3 k) := by decide +kernel
abbrev cX3_init : ByteArray := prog_5_method_1_code
def yX3_init : MethodName := ⟨RX3, "<init>", "()V"⟩
abbrev cX3_put : ByteArray := prog_5_method_2_code
def yX3_put : MethodName := ⟨RX3, "put", "(IIII)V"⟩
abbrev cX3_partOf : ByteArray := prog_5_method_3_code
def yX3_partOf : MethodName := ⟨RX3, "partOf", "(IIZ)I"⟩
abbrev cX3_goalAt : ByteArray := prog_5_method_4_code
def yX3_goalAt : MethodName := ⟨RX3, "goalAt", "(III)I"⟩
def RX4 : String := "TwoKeys$Sharing"
def TX4 : u_T := fun k => match k with
  | 0 => ("TwoKeys$Sharing", "pairs", "[I", true)
  | 1 => ("TwoKeys$Sharing", "leasts", "[I", true)
  | 2 => ("TwoKeys$Sharing", "groupOf", "[I", true)
  | 3 => ("TwoKeys$Sharing", "size", "I", false)
  | _ => ("TwoKeys$Sharing", "most", "I", false)
def tyX4 : Nat → FieldType := fun k => match k with
  | 0 => .array .int
  | 1 => .array .int
  | 2 => .array .int
  | 3 => .int
  | _ => .int
abbrev wsX40 : List Cond := u_ws RX4 TX4 5
theorem nmX4 : ∀ a, a < 5 → ∀ b, b < 5 → a ≠ b → (TX4 a).2.1 ≠ (TX4 b).2.1 := by decide +kernel
theorem tyX4_ok : ∀ k, k < 5 → parseFieldDescriptor (TX4 k).2.2.1 = some (tyX4 k) := by decide +kernel
abbrev cX4_init : ByteArray := prog_6_method_1_code
def yX4_init : MethodName := ⟨RX4, "<init>", "()V"⟩
abbrev cX4_gather : ByteArray := prog_6_method_2_code
def yX4_gather : MethodName := ⟨RX4, "gather", "(LTwoKeys$Music;I)V"⟩
abbrev cX4_gatherPiece : ByteArray := prog_6_method_3_code
def yX4_gatherPiece : MethodName := ⟨RX4, "gatherPiece", "(LTwoKeys$Music;I)V"⟩
abbrev cX4_addPair : ByteArray := prog_6_method_4_code
def yX4_addPair : MethodName := ⟨RX4, "addPair", "(II)V"⟩
abbrev cX4_clashesOf : ByteArray := prog_6_method_5_code
def yX4_clashesOf : MethodName := ⟨RX4, "clashesOf", "(II)I"⟩
abbrev cX4_clashesBelow : ByteArray := prog_6_method_6_code
def yX4_clashesBelow : MethodName := ⟨RX4, "clashesBelow", "(II)I"⟩
abbrev cX4_solve : ByteArray := prog_6_method_7_code
def yX4_solve : MethodName := ⟨RX4, "solve", "(II)V"⟩
abbrev cX4_leastFrom : ByteArray := prog_6_method_8_code
def yX4_leastFrom : MethodName := ⟨RX4, "leastFrom", "(II)I"⟩
abbrev cX4_leastWith : ByteArray := prog_6_method_9_code
def yX4_leastWith : MethodName := ⟨RX4, "leastWith", "(I)I"⟩
abbrev cX4_fewestStrings : ByteArray := prog_6_method_10_code
def yX4_fewestStrings : MethodName := ⟨RX4, "fewestStrings", "()I"⟩
abbrev cX4_bestStrings : ByteArray := prog_6_method_11_code
def yX4_bestStrings : MethodName := ⟨RX4, "bestStrings", "(I)I"⟩
abbrev cX4_layOut : ByteArray := prog_6_method_12_code
def yX4_layOut : MethodName := ⟨RX4, "layOut", "(I)V"⟩
abbrev cX4_greatestGroupEnd : ByteArray := prog_6_method_13_code
def yX4_greatestGroupEnd : MethodName := ⟨RX4, "greatestGroupEnd", "(II)I"⟩
def RX5 : String := "TwoKeys"
def TX5 : u_T := fun k => match k with
  | 0 => ("TwoKeys", "board", "LTwoKeys$Board;", true)
  | 1 => ("TwoKeys", "scales", "LTwoKeys$Scales;", true)
  | 2 => ("TwoKeys", "music", "LTwoKeys$Music;", true)
  | 3 => ("TwoKeys", "sharing", "LTwoKeys$Sharing;", true)
  | 4 => ("TwoKeys", "oldOne", "LTwoKeys$OldOne;", true)
  | 5 => ("TwoKeys", "scaleInUse", "I", false)
  | 6 => ("TwoKeys", "pitchNow", "I", false)
  | 7 => ("TwoKeys", "restNow", "I", false)
  | _ => ("TwoKeys", "bookNow", "I", false)
def tyX5 : Nat → FieldType := fun k => match k with
  | 0 => .object "TwoKeys$Board"
  | 1 => .object "TwoKeys$Scales"
  | 2 => .object "TwoKeys$Music"
  | 3 => .object "TwoKeys$Sharing"
  | 4 => .object "TwoKeys$OldOne"
  | 5 => .int
  | 6 => .int
  | 7 => .int
  | _ => .int
abbrev wsX50 : List Cond := u_ws RX5 TX5 9
theorem nmX5 : ∀ a, a < 9 → ∀ b, b < 9 → a ≠ b → (TX5 a).2.1 ≠ (TX5 b).2.1 := by decide +kernel
theorem tyX5_ok : ∀ k, k < 9 → parseFieldDescriptor (TX5 k).2.2.1 = some (tyX5 k) := by decide +kernel
abbrev cX5_init : ByteArray := prog_1_method_1_code
def yX5_init : MethodName := ⟨RX5, "<init>", "()V"⟩
abbrev cX5_keys : ByteArray := prog_1_method_2_code
def yX5_keys : MethodName := ⟨RX5, "keys", "(I)I"⟩
abbrev cX5_strike : ByteArray := prog_1_method_3_code
def yX5_strike : MethodName := ⟨RX5, "strike", "(III)I"⟩
abbrev cX5_tension : ByteArray := prog_1_method_4_code
def yX5_tension : MethodName := ⟨RX5, "tension", "(II)I"⟩
abbrev cX5_bend : ByteArray := prog_1_method_5_code
def yX5_bend : MethodName := ⟨RX5, "bend", "(II)I"⟩
abbrev cX5_about : ByteArray := prog_1_method_6_code
def yX5_about : MethodName := ⟨RX5, "about", "(II)I"⟩
abbrev cX5_pressed : ByteArray := prog_1_method_7_code
def yX5_pressed : MethodName := ⟨RX5, "pressed", "(II)I"⟩
abbrev cX5_sharers : ByteArray := prog_1_method_8_code
def yX5_sharers : MethodName := ⟨RX5, "sharers", "(I)I"⟩
abbrev cX5_order : ByteArray := prog_1_method_9_code
def yX5_order : MethodName := ⟨RX5, "order", "()I"⟩
abbrev cX5_step : ByteArray := prog_1_method_10_code
def yX5_step : MethodName := ⟨RX5, "step", "(IIII)I"⟩
abbrev cX5_share : ByteArray := prog_1_method_11_code
def yX5_share : MethodName := ⟨RX5, "share", "(IIZ)I"⟩
abbrev cX5_use : ByteArray := prog_1_method_12_code
def yX5_use : MethodName := ⟨RX5, "use", "(I)I"⟩
abbrev cX5_pitch : ByteArray := prog_1_method_13_code
def yX5_pitch : MethodName := ⟨RX5, "pitch", "(I)I"⟩
abbrev cX5_wrong : ByteArray := prog_1_method_14_code
def yX5_wrong : MethodName := ⟨RX5, "wrong", "()I"⟩
abbrev cX5_tune : ByteArray := prog_1_method_15_code
def yX5_tune : MethodName := ⟨RX5, "tune", "(I)I"⟩
abbrev cX5_tuneAll : ByteArray := prog_1_method_16_code
def yX5_tuneAll : MethodName := ⟨RX5, "tuneAll", "()I"⟩
abbrev cX5_worst : ByteArray := prog_1_method_17_code
def yX5_worst : MethodName := ⟨RX5, "worst", "()I"⟩
abbrev cX5_note : ByteArray := prog_1_method_18_code
def yX5_note : MethodName := ⟨RX5, "note", "(IIII)I"⟩
abbrev cX5_wipe : ByteArray := prog_1_method_19_code
def yX5_wipe : MethodName := ⟨RX5, "wipe", "(I)I"⟩
abbrev cX5_rest : ByteArray := prog_1_method_20_code
def yX5_rest : MethodName := ⟨RX5, "rest", "(I)I"⟩
abbrev cX5_clashes : ByteArray := prog_1_method_21_code
def yX5_clashes : MethodName := ⟨RX5, "clashes", "(I)I"⟩
abbrev cX5_clash : ByteArray := prog_1_method_22_code
def yX5_clash : MethodName := ⟨RX5, "clash", "(II)I"⟩
abbrev cX5_chokes : ByteArray := prog_1_method_23_code
def yX5_chokes : MethodName := ⟨RX5, "chokes", "(I)I"⟩
abbrev cX5_trills : ByteArray := prog_1_method_24_code
def yX5_trills : MethodName := ⟨RX5, "trills", "(IZ)I"⟩
abbrev cX5_heard : ByteArray := prog_1_method_25_code
def yX5_heard : MethodName := ⟨RX5, "heard", "(III)I"⟩
abbrev cX5_lost : ByteArray := prog_1_method_26_code
def yX5_lost : MethodName := ⟨RX5, "lost", "(II)I"⟩
abbrev cX5_passes : ByteArray := prog_1_method_27_code
def yX5_passes : MethodName := ⟨RX5, "passes", "(I)I"⟩
abbrev cX5_book : ByteArray := prog_1_method_28_code
def yX5_book : MethodName := ⟨RX5, "book", "(I)I"⟩
abbrev cX5_together : ByteArray := prog_1_method_29_code
def yX5_together : MethodName := ⟨RX5, "together", "(II)I"⟩
abbrev cX5_fewest : ByteArray := prog_1_method_30_code
def yX5_fewest : MethodName := ⟨RX5, "fewest", "(I)I"⟩
abbrev cX5_least : ByteArray := prog_1_method_31_code
def yX5_least : MethodName := ⟨RX5, "least", "(II)I"⟩
abbrev cX5_group : ByteArray := prog_1_method_32_code
def yX5_group : MethodName := ⟨RX5, "group", "(III)I"⟩
abbrev cX5_setUp : ByteArray := prog_1_method_33_code
def yX5_setUp : MethodName := ⟨RX5, "setUp", "(II)I"⟩
abbrev cX5_measure : ByteArray := prog_1_method_34_code
def yX5_measure : MethodName := ⟨RX5, "measure", "(II)I"⟩
abbrev cX5_misfit : ByteArray := prog_1_method_35_code
def yX5_misfit : MethodName := ⟨RX5, "misfit", "(II)I"⟩
abbrev cX5_found : ByteArray := prog_1_method_36_code
def yX5_found : MethodName := ⟨RX5, "found", "(II)I"⟩
abbrev cX5_meant : ByteArray := prog_1_method_37_code
def yX5_meant : MethodName := ⟨RX5, "meant", "()I"⟩
abbrev cX5_added : ByteArray := prog_1_method_38_code
def yX5_added : MethodName := ⟨RX5, "added", "(I)I"⟩
abbrev cX5_bentLater : ByteArray := prog_1_method_39_code
def yX5_bentLater : MethodName := ⟨RX5, "bentLater", "(II)I"⟩
abbrev cX5_count : ByteArray := prog_1_method_40_code
def yX5_count : MethodName := ⟨RX5, "count", "(I)I"⟩
abbrev cX5_goalOf : ByteArray := prog_1_method_41_code
def yX5_goalOf : MethodName := ⟨RX5, "goalOf", "(I)I"⟩
abbrev cX5_errorOf : ByteArray := prog_1_method_42_code
def yX5_errorOf : MethodName := ⟨RX5, "errorOf", "(I)I"⟩
abbrev cX5_allErrors : ByteArray := prog_1_method_43_code
def yX5_allErrors : MethodName := ⟨RX5, "allErrors", "()I"⟩
abbrev cX5_tuneOne : ByteArray := prog_1_method_44_code
def yX5_tuneOne : MethodName := ⟨RX5, "tuneOne", "(I)V"⟩
abbrev cX5_findStrings : ByteArray := prog_1_method_45_code
def yX5_findStrings : MethodName := ⟨RX5, "findStrings", "(II)I"⟩
abbrev cX5_within : ByteArray := prog_1_method_46_code
def yX5_within : MethodName := ⟨RX5, "within", "(III)Z"⟩
abbrev cX5_isString : ByteArray := prog_1_method_47_code
def yX5_isString : MethodName := ⟨RX5, "isString", "(I)Z"⟩
abbrev cX5_isScale : ByteArray := prog_1_method_48_code
def yX5_isScale : MethodName := ⟨RX5, "isScale", "(I)Z"⟩
abbrev cX5_isStep : ByteArray := prog_1_method_49_code
def yX5_isStep : MethodName := ⟨RX5, "isStep", "(I)Z"⟩
abbrev cX5_isPitch : ByteArray := prog_1_method_50_code
def yX5_isPitch : MethodName := ⟨RX5, "isPitch", "(I)Z"⟩
abbrev cX5_isPiece : ByteArray := prog_1_method_51_code
def yX5_isPiece : MethodName := ⟨RX5, "isPiece", "(I)Z"⟩
abbrev cX5_isMost : ByteArray := prog_1_method_52_code
def yX5_isMost : MethodName := ⟨RX5, "isMost", "(I)Z"⟩
abbrev cX5_asNumber : ByteArray := prog_1_method_53_code
def yX5_asNumber : MethodName := ⟨RX5, "asNumber", "(Z)I"⟩
def RX6 : String := "TwoKeysModel"
def TX6 : u_T := fun k => match k with
  | 0 => ("TwoKeysModel", "thrown", "I", false)
  | 1 => ("TwoKeysModel", "keys", "I", false)
  | 2 => ("TwoKeysModel", "string", "[I", true)
  | 3 => ("TwoKeysModel", "length", "[I", true)
  | 4 => ("TwoKeysModel", "bent", "[I", true)
  | 5 => ("TwoKeysModel", "tension", "[I", true)
  | 6 => ("TwoKeysModel", "above", "[I", true)
  | 7 => ("TwoKeysModel", "below", "[I", true)
  | 8 => ("TwoKeysModel", "scale", "I", false)
  | 9 => ("TwoKeysModel", "pitch", "I", false)
  | 10 => ("TwoKeysModel", "notes", "[I", true)
  | 11 => ("TwoKeysModel", "noteKey", "[I", true)
  | 12 => ("TwoKeysModel", "begin", "[I", true)
  | 13 => ("TwoKeysModel", "lasts", "[I", true)
  | 14 => ("TwoKeysModel", "rest", "I", false)
  | 15 => ("TwoKeysModel", "book", "I", false)
  | 16 => ("TwoKeysModel", "measured", "[I", true)
  | 17 => ("TwoKeysModel", "cost", "[I", true)
  | 18 => ("TwoKeysModel", "best", "[I", true)
  | 19 => ("TwoKeysModel", "groups", "[I", true)
  | _ => ("TwoKeysModel", "leastOf", "I", false)
def tyX6 : Nat → FieldType := fun k => match k with
  | 0 => .int
  | 1 => .int
  | 2 => .array .int
  | 3 => .array .int
  | 4 => .array .int
  | 5 => .array .int
  | 6 => .array .int
  | 7 => .array .int
  | 8 => .int
  | 9 => .int
  | 10 => .array .int
  | 11 => .array .int
  | 12 => .array .int
  | 13 => .array .int
  | 14 => .int
  | 15 => .int
  | 16 => .array .int
  | 17 => .array .int
  | 18 => .array .int
  | 19 => .array .int
  | _ => .int
abbrev wsX60 : List Cond := u_ws RX6 TX6 21
theorem nmX6 : ∀ a, a < 21 → ∀ b, b < 21 → a ≠ b → (TX6 a).2.1 ≠ (TX6 b).2.1 := by decide +kernel
theorem tyX6_ok : ∀ k, k < 21 → parseFieldDescriptor (TX6 k).2.2.1 = some (tyX6 k) := by decide +kernel
abbrev cX6_init : ByteArray := prog_8_method_1_code
def yX6_init : MethodName := ⟨RX6, "<init>", "()V"⟩
abbrev cX6_in : ByteArray := prog_8_method_3_code
def yX6_in : MethodName := ⟨RX6, "in", "(JJJ)Z"⟩
abbrev cX6_size : ByteArray := prog_8_method_4_code
def yX6_size : MethodName := ⟨RX6, "size", "(I)I"⟩
abbrev cX6_noKey : ByteArray := prog_8_method_5_code
def yX6_noKey : MethodName := ⟨RX6, "noKey", "(I)Z"⟩
abbrev cX6_noString : ByteArray := prog_8_method_6_code
def yX6_noString : MethodName := ⟨RX6, "noString", "(I)Z"⟩
abbrev cX6_noScale : ByteArray := prog_8_method_7_code
def yX6_noScale : MethodName := ⟨RX6, "noScale", "(I)Z"⟩
abbrev cX6_noPiece : ByteArray := prog_8_method_8_code
def yX6_noPiece : MethodName := ⟨RX6, "noPiece", "(I)Z"⟩
abbrev cX6_keys : ByteArray := prog_8_method_9_code
def yX6_keys : MethodName := ⟨RX6, "keys", "(I)I"⟩
abbrev cX6_strike : ByteArray := prog_8_method_10_code
def yX6_strike : MethodName := ⟨RX6, "strike", "(III)I"⟩
abbrev cX6_tension : ByteArray := prog_8_method_11_code
def yX6_tension : MethodName := ⟨RX6, "tension", "(II)I"⟩
abbrev cX6_bend : ByteArray := prog_8_method_12_code
def yX6_bend : MethodName := ⟨RX6, "bend", "(II)I"⟩
abbrev cX6_soundsOf : ByteArray := prog_8_method_13_code
def yX6_soundsOf : MethodName := ⟨RX6, "soundsOf", "(I)I"⟩
abbrev cX6_toneOf : ByteArray := prog_8_method_14_code
def yX6_toneOf : MethodName := ⟨RX6, "toneOf", "(I)I"⟩
abbrev cX6_goalOf : ByteArray := prog_8_method_15_code
def yX6_goalOf : MethodName := ⟨RX6, "goalOf", "(III)I"⟩
abbrev cX6_errorOf : ByteArray := prog_8_method_16_code
def yX6_errorOf : MethodName := ⟨RX6, "errorOf", "(I)I"⟩
abbrev cX6_about : ByteArray := prog_8_method_17_code
def yX6_about : MethodName := ⟨RX6, "about", "(II)I"⟩
abbrev cX6_pressed : ByteArray := prog_8_method_18_code
def yX6_pressed : MethodName := ⟨RX6, "pressed", "(II)I"⟩
abbrev cX6_onString : ByteArray := prog_8_method_19_code
def yX6_onString : MethodName := ⟨RX6, "onString", "(I)I"⟩
abbrev cX6_sharers : ByteArray := prog_8_method_20_code
def yX6_sharers : MethodName := ⟨RX6, "sharers", "(I)I"⟩
abbrev cX6_order : ByteArray := prog_8_method_21_code
def yX6_order : MethodName := ⟨RX6, "order", "()I"⟩
abbrev cX6_step : ByteArray := prog_8_method_22_code
def yX6_step : MethodName := ⟨RX6, "step", "(IIII)I"⟩
abbrev cX6_share : ByteArray := prog_8_method_23_code
def yX6_share : MethodName := ⟨RX6, "share", "(IIZ)I"⟩
abbrev cX6_use : ByteArray := prog_8_method_24_code
def yX6_use : MethodName := ⟨RX6, "use", "(I)I"⟩
abbrev cX6_pitch : ByteArray := prog_8_method_25_code
def yX6_pitch : MethodName := ⟨RX6, "pitch", "(I)I"⟩
abbrev cX6_allWrong : ByteArray := prog_8_method_26_code
def yX6_allWrong : MethodName := ⟨RX6, "allWrong", "()I"⟩
abbrev cX6_wrong : ByteArray := prog_8_method_27_code
def yX6_wrong : MethodName := ⟨RX6, "wrong", "()I"⟩
abbrev cX6_bendBest : ByteArray := prog_8_method_28_code
def yX6_bendBest : MethodName := ⟨RX6, "bendBest", "(I)V"⟩
abbrev cX6_tune : ByteArray := prog_8_method_29_code
def yX6_tune : MethodName := ⟨RX6, "tune", "(I)I"⟩
abbrev cX6_tuneAll : ByteArray := prog_8_method_30_code
def yX6_tuneAll : MethodName := ⟨RX6, "tuneAll", "()I"⟩
abbrev cX6_worst : ByteArray := prog_8_method_31_code
def yX6_worst : MethodName := ⟨RX6, "worst", "()I"⟩
abbrev cX6_note : ByteArray := prog_8_method_32_code
def yX6_note : MethodName := ⟨RX6, "note", "(IIII)I"⟩
abbrev cX6_wipe : ByteArray := prog_8_method_33_code
def yX6_wipe : MethodName := ⟨RX6, "wipe", "(I)I"⟩
abbrev cX6_rest : ByteArray := prog_8_method_34_code
def yX6_rest : MethodName := ⟨RX6, "rest", "(I)I"⟩
abbrev cX6_meet : ByteArray := prog_8_method_35_code
def yX6_meet : MethodName := ⟨RX6, "meet", "(II)Z"⟩
abbrev cX6_shares : ByteArray := prog_8_method_36_code
def yX6_shares : MethodName := ⟨RX6, "shares", "(II)Z"⟩
abbrev cX6_clashesOf : ByteArray := prog_8_method_37_code
def yX6_clashesOf : MethodName := ⟨RX6, "clashesOf", "(I)I"⟩
abbrev cX6_clashes : ByteArray := prog_8_method_38_code
def yX6_clashes : MethodName := ⟨RX6, "clashes", "(I)I"⟩
abbrev cX6_clash : ByteArray := prog_8_method_39_code
def yX6_clash : MethodName := ⟨RX6, "clash", "(II)I"⟩
abbrev cX6_chokes : ByteArray := prog_8_method_40_code
def yX6_chokes : MethodName := ⟨RX6, "chokes", "(I)I"⟩
abbrev cX6_trills : ByteArray := prog_8_method_41_code
def yX6_trills : MethodName := ⟨RX6, "trills", "(IZ)I"⟩
abbrev cX6_heardOf : ByteArray := prog_8_method_42_code
def yX6_heardOf : MethodName := ⟨RX6, "heardOf", "(III)I"⟩
abbrev cX6_heard : ByteArray := prog_8_method_43_code
def yX6_heard : MethodName := ⟨RX6, "heard", "(III)I"⟩
abbrev cX6_lost : ByteArray := prog_8_method_44_code
def yX6_lost : MethodName := ⟨RX6, "lost", "(II)I"⟩
abbrev cX6_passes : ByteArray := prog_8_method_45_code
def yX6_passes : MethodName := ⟨RX6, "passes", "(I)I"⟩
abbrev cX6_book : ByteArray := prog_8_method_46_code
def yX6_book : MethodName := ⟨RX6, "book", "(I)I"⟩
abbrev cX6_togetherOf : ByteArray := prog_8_method_47_code
def yX6_togetherOf : MethodName := ⟨RX6, "togetherOf", "(II)I"⟩
abbrev cX6_together : ByteArray := prog_8_method_48_code
def yX6_together : MethodName := ⟨RX6, "together", "(II)I"⟩
abbrev cX6_look : ByteArray := prog_8_method_49_code
def yX6_look : MethodName := ⟨RX6, "look", "(IZ)V"⟩
abbrev cX6_shareBest : ByteArray := prog_8_method_50_code
def yX6_shareBest : MethodName := ⟨RX6, "shareBest", "(II)I"⟩
abbrev cX6_badSharing : ByteArray := prog_8_method_51_code
def yX6_badSharing : MethodName := ⟨RX6, "badSharing", "(II)Z"⟩
abbrev cX6_fewest : ByteArray := prog_8_method_52_code
def yX6_fewest : MethodName := ⟨RX6, "fewest", "(I)I"⟩
abbrev cX6_least : ByteArray := prog_8_method_53_code
def yX6_least : MethodName := ⟨RX6, "least", "(II)I"⟩
abbrev cX6_group : ByteArray := prog_8_method_54_code
def yX6_group : MethodName := ⟨RX6, "group", "(III)I"⟩
abbrev cX6_setUp : ByteArray := prog_8_method_55_code
def yX6_setUp : MethodName := ⟨RX6, "setUp", "(II)I"⟩
abbrev cX6_measure : ByteArray := prog_8_method_56_code
def yX6_measure : MethodName := ⟨RX6, "measure", "(II)I"⟩
abbrev cX6_measuredKeys : ByteArray := prog_8_method_57_code
def yX6_measuredKeys : MethodName := ⟨RX6, "measuredKeys", "()I"⟩
abbrev cX6_misfitOf : ByteArray := prog_8_method_58_code
def yX6_misfitOf : MethodName := ⟨RX6, "misfitOf", "(III)I"⟩
abbrev cX6_misfit : ByteArray := prog_8_method_59_code
def yX6_misfit : MethodName := ⟨RX6, "misfit", "(II)I"⟩
abbrev cX6_pitchOf : ByteArray := prog_8_method_60_code
def yX6_pitchOf : MethodName := ⟨RX6, "pitchOf", "(II)I"⟩
abbrev cX6_found : ByteArray := prog_8_method_61_code
def yX6_found : MethodName := ⟨RX6, "found", "(II)I"⟩
abbrev cX6_meantOf : ByteArray := prog_8_method_62_code
def yX6_meantOf : MethodName := ⟨RX6, "meantOf", "()I"⟩
abbrev cX6_meant : ByteArray := prog_8_method_63_code
def yX6_meant : MethodName := ⟨RX6, "meant", "()I"⟩
abbrev cX6_added : ByteArray := prog_8_method_64_code
def yX6_added : MethodName := ⟨RX6, "added", "(I)I"⟩
abbrev cX6_bentLater : ByteArray := prog_8_method_65_code
def yX6_bentLater : MethodName := ⟨RX6, "bentLater", "(II)I"⟩
abbrev cX6_count : ByteArray := prog_8_method_66_code
def yX6_count : MethodName := ⟨RX6, "count", "(I)I"⟩
def RJ6 : String := "java/lang/Integer"
def TJ6 : u_T := fun k => match k with
  | _ => ("", "", "", false)
def tyJ6 : Nat → FieldType := fun k => match k with
  | _ => .int
abbrev wsJ60 : List Cond := u_ws RJ6 TJ6 0
theorem nmJ6 : ∀ a, a < 0 → ∀ b, b < 0 → a ≠ b → (TJ6 a).2.1 ≠ (TJ6 b).2.1 := by decide +kernel
theorem tyJ6_ok : ∀ k, k < 0 → parseFieldDescriptor (TJ6 k).2.2.1 = some (tyJ6 k) := by decide +kernel
abbrev cJ6_bitCount_0f7a4 : ByteArray := prog_9_method_49_code
def yJ6_bitCount_0f7a4 : MethodName := ⟨RJ6, "bitCount", "(I)I"⟩
def RJ9 : String := "java/lang/Math"
def TJ9 : u_T := fun k => match k with
  | _ => ("", "", "", false)
def tyJ9 : Nat → FieldType := fun k => match k with
  | _ => .int
abbrev wsJ90 : List Cond := u_ws RJ9 TJ9 0
theorem nmJ9 : ∀ a, a < 0 → ∀ b, b < 0 → a ≠ b → (TJ9 a).2.1 ≠ (TJ9 b).2.1 := by decide +kernel
theorem tyJ9_ok : ∀ k, k < 0 → parseFieldDescriptor (TJ9 k).2.2.1 = some (tyJ9 k) := by decide +kernel
abbrev cJ9_abs_0f7a4 : ByteArray := prog_10_method_59_code
def yJ9_abs_0f7a4 : MethodName := ⟨RJ9, "abs", "(I)I"⟩
abbrev cJ9_max_7cf53 : ByteArray := prog_10_method_65_code
def yJ9_max_7cf53 : MethodName := ⟨RJ9, "max", "(II)I"⟩
abbrev cJ9_min_7cf53 : ByteArray := prog_10_method_69_code
def yJ9_min_7cf53 : MethodName := ⟨RJ9, "min", "(II)I"⟩
def RL : String := "TwoKeysLaw"
abbrev cL_law : ByteArray := code
def yL_law : MethodName := ⟨RL, "law", "([I)Z"⟩
def wsX0_init : List Cond := .code yX0_init cX0_init 2 none :: ([.methodLink RX0 3 objectInit, .instanceMethod objectInit, .code objectInit ⟨#[0xb1]⟩ 1 none, .fieldLink RX0 9 "TwoKeys$Board" "size" "I", .arrayClass .int, .fieldLink RX0 15 "TwoKeys$Board" "struck" "[I", .fieldLink RX0 19 "TwoKeys$Board" "lengths" "[I", .fieldLink RX0 22 "TwoKeys$Board" "bends" "[I", .fieldLink RX0 25 "TwoKeys$Board" "tensions" "[I"] ++ wsX00)
def wsX0_has : List Cond := .code yX0_has cX0_has 2 (some .boolean) :: ([.fieldLink RX0 9 "TwoKeys$Board" "size" "I"] ++ wsX00)
def wsX0_soundingLength : List Cond := .code yX0_soundingLength cX0_soundingLength 2 (some .int) :: ([.fieldLink RX0 19 "TwoKeys$Board" "lengths" "[I", .fieldLink RX0 22 "TwoKeys$Board" "bends" "[I"] ++ wsX00)
def wsX0_toneBent : List Cond := .code yX0_toneBent cX0_toneBent 4 (some .int) :: ([.fieldLink RX0 19 "TwoKeys$Board" "lengths" "[I", .fieldLink RX0 25 "TwoKeys$Board" "tensions" "[I", .fieldLink RX0 15 "TwoKeys$Board" "struck" "[I"] ++ wsX00)
def wsX0_toneOf : List Cond := .code yX0_toneOf cX0_toneOf 2 (some .int) :: ([.fieldLink RX0 22 "TwoKeys$Board" "bends" "[I", .methodLink RX0 28 yX0_toneBent, .instanceMethod yX0_toneBent, .selects RX0 yX0_toneBent yX0_toneBent, .initialized RX0, .code yX0_toneBent cX0_toneBent 4 (some .int), .fieldLink RX0 19 "TwoKeys$Board" "lengths" "[I", .fieldLink RX0 25 "TwoKeys$Board" "tensions" "[I", .fieldLink RX0 15 "TwoKeys$Board" "struck" "[I"] ++ wsX00)
def wsX0_strikes : List Cond := .code yX0_strikes cX0_strikes 3 (some .boolean) :: ([.fieldLink RX0 15 "TwoKeys$Board" "struck" "[I", .methodLink RX0 32 yX0_has, .instanceMethod yX0_has, .selects RX0 yX0_has yX0_has, .initialized RX0, .code yX0_has cX0_has 2 (some .boolean), .fieldLink RX0 9 "TwoKeys$Board" "size" "I"] ++ wsX00)
def wsX0_doShare : List Cond := .code yX0_doShare cX0_doShare 3 (some .boolean) :: ([.fieldLink RX0 15 "TwoKeys$Board" "struck" "[I", .methodLink RX0 32 yX0_has, .instanceMethod yX0_has, .selects RX0 yX0_has yX0_has, .initialized RX0, .code yX0_has cX0_has 2 (some .boolean), .fieldLink RX0 9 "TwoKeys$Board" "size" "I"] ++ wsX00)
def wsX0_strikersOf : List Cond := .code yX0_strikersOf cX0_strikersOf 4 (some .int) :: ([.fieldLink RX0 9 "TwoKeys$Board" "size" "I", .fieldLink RX0 15 "TwoKeys$Board" "struck" "[I"] ++ wsX00)
def wsX0_isInOrder : List Cond := .code yX0_isInOrder cX0_isInOrder 3 (some .boolean) :: ([.fieldLink RX0 9 "TwoKeys$Board" "size" "I", .methodLink RX0 36 yX0_doShare, .instanceMethod yX0_doShare, .selects RX0 yX0_doShare yX0_doShare, .initialized RX0, .code yX0_doShare cX0_doShare 3 (some .boolean), .fieldLink RX0 15 "TwoKeys$Board" "struck" "[I", .methodLink RX0 32 yX0_has, .instanceMethod yX0_has, .selects RX0 yX0_has yX0_has, .code yX0_has cX0_has 2 (some .boolean), .methodLink RX0 40 yX0_soundingLength, .instanceMethod yX0_soundingLength, .selects RX0 yX0_soundingLength yX0_soundingLength, .code yX0_soundingLength cX0_soundingLength 2 (some .int), .fieldLink RX0 19 "TwoKeys$Board" "lengths" "[I", .fieldLink RX0 22 "TwoKeys$Board" "bends" "[I"] ++ wsX00)
def wsX0_stopsNearer : List Cond := .code yX0_stopsNearer cX0_stopsNearer 5 (some .boolean) :: ([.methodLink RX0 40 yX0_soundingLength, .instanceMethod yX0_soundingLength, .selects RX0 yX0_soundingLength yX0_soundingLength, .initialized RX0, .code yX0_soundingLength cX0_soundingLength 2 (some .int), .fieldLink RX0 19 "TwoKeys$Board" "lengths" "[I", .fieldLink RX0 22 "TwoKeys$Board" "bends" "[I"] ++ wsX00)
def wsX0_countStruck : List Cond := .code yX0_countStruck cX0_countStruck 3 (some .int) :: ([.methodLink RX0 44 yX0_strikersOf, .instanceMethod yX0_strikersOf, .selects RX0 yX0_strikersOf yX0_strikersOf, .initialized RX0, .code yX0_strikersOf cX0_strikersOf 4 (some .int), .fieldLink RX0 9 "TwoKeys$Board" "size" "I", .fieldLink RX0 15 "TwoKeys$Board" "struck" "[I"] ++ wsX00)
def wsX0_countBent : List Cond := .code yX0_countBent cX0_countBent 3 (some .int) :: ([.fieldLink RX0 9 "TwoKeys$Board" "size" "I", .fieldLink RX0 22 "TwoKeys$Board" "bends" "[I"] ++ wsX00)
def wsX1_init : List Cond := .code yX1_init cX1_init 2 none :: ([.methodLink RX1 3 objectInit, .instanceMethod objectInit, .code objectInit ⟨#[0xb1]⟩ 1 none, .arrayClass .int, .fieldLink RX1 9 "TwoKeys$Music" "keyAt" "[I", .fieldLink RX1 15 "TwoKeys$Music" "beginAt" "[I", .fieldLink RX1 18 "TwoKeys$Music" "lengthAt" "[I", .fieldLink RX1 21 "TwoKeys$Music" "sizes" "[I", .fieldLink RX1 24 "TwoKeys$Music" "board" "LTwoKeys$Board;"] ++ wsX10)
def wsX1_startOf : List Cond := .code yX1_startOf cX1_startOf 2 (some .int) :: ([])
def wsX1_endOf : List Cond := .code yX1_endOf cX1_endOf 2 (some .int) :: ([.fieldLink RX1 21 "TwoKeys$Music" "sizes" "[I"] ++ wsX10)
def wsX1_isFull : List Cond := .code yX1_isFull cX1_isFull 2 (some .boolean) :: ([.fieldLink RX1 21 "TwoKeys$Music" "sizes" "[I"] ++ wsX10)
def wsX1_lastBegin : List Cond := .code yX1_lastBegin cX1_lastBegin 2 (some .int) :: ([.fieldLink RX1 21 "TwoKeys$Music" "sizes" "[I", .fieldLink RX1 15 "TwoKeys$Music" "beginAt" "[I", .methodLink RX1 28 yX1_endOf, .instanceMethod yX1_endOf, .selects RX1 yX1_endOf yX1_endOf, .initialized RX1, .code yX1_endOf cX1_endOf 2 (some .int)] ++ wsX10)
def wsX1_append : List Cond := .code yX1_append cX1_append 6 (some .int) :: ([.fieldLink RX1 9 "TwoKeys$Music" "keyAt" "[I", .fieldLink RX1 15 "TwoKeys$Music" "beginAt" "[I", .fieldLink RX1 18 "TwoKeys$Music" "lengthAt" "[I", .fieldLink RX1 21 "TwoKeys$Music" "sizes" "[I", .methodLink RX1 28 yX1_endOf, .instanceMethod yX1_endOf, .selects RX1 yX1_endOf yX1_endOf, .initialized RX1, .code yX1_endOf cX1_endOf 2 (some .int)] ++ wsX10)
def wsX1_countNotes : List Cond := .code yX1_countNotes cX1_countNotes 3 (some .int) :: ([.fieldLink RX1 21 "TwoKeys$Music" "sizes" "[I"] ++ wsX10)
def wsX1_tickBehind : List Cond := .code yX1_tickBehind cX1_tickBehind 2 (some .int) :: ([.fieldLink RX1 15 "TwoKeys$Music" "beginAt" "[I", .fieldLink RX1 18 "TwoKeys$Music" "lengthAt" "[I"] ++ wsX10)
def wsX1_soundsAt : List Cond := .code yX1_soundsAt cX1_soundsAt 3 (some .boolean) :: ([.fieldLink RX1 15 "TwoKeys$Music" "beginAt" "[I", .methodLink RX1 32 yX1_tickBehind, .instanceMethod yX1_tickBehind, .selects RX1 yX1_tickBehind yX1_tickBehind, .initialized RX1, .code yX1_tickBehind cX1_tickBehind 2 (some .int), .fieldLink RX1 18 "TwoKeys$Music" "lengthAt" "[I"] ++ wsX10)
def wsX1_soundAtOnce : List Cond := .code yX1_soundAtOnce cX1_soundAtOnce 3 (some .boolean) :: ([.fieldLink RX1 15 "TwoKeys$Music" "beginAt" "[I", .methodLink RX1 32 yX1_tickBehind, .instanceMethod yX1_tickBehind, .selects RX1 yX1_tickBehind yX1_tickBehind, .initialized RX1, .code yX1_tickBehind cX1_tickBehind 2 (some .int), .fieldLink RX1 18 "TwoKeys$Music" "lengthAt" "[I"] ++ wsX10)
def wsX1_doClash : List Cond := .code yX1_doClash cX1_doClash 3 (some .boolean) :: ([.fieldLink RX1 24 "TwoKeys$Music" "board" "LTwoKeys$Board;", .fieldLink RX1 9 "TwoKeys$Music" "keyAt" "[I", .methodLink RX1 35 yX0_doShare, .instanceMethod yX0_doShare, .selects RX0 yX0_doShare yX0_doShare, .initialized RX0, .code yX0_doShare cX0_doShare 3 (some .boolean), .fieldLink RX0 15 "TwoKeys$Board" "struck" "[I", .methodLink RX0 32 yX0_has, .instanceMethod yX0_has, .selects RX0 yX0_has yX0_has, .code yX0_has cX0_has 2 (some .boolean), .fieldLink RX0 9 "TwoKeys$Board" "size" "I", .methodLink RX1 41 yX1_soundAtOnce, .instanceMethod yX1_soundAtOnce, .selects RX1 yX1_soundAtOnce yX1_soundAtOnce, .initialized RX1, .code yX1_soundAtOnce cX1_soundAtOnce 3 (some .boolean), .fieldLink RX1 15 "TwoKeys$Music" "beginAt" "[I", .methodLink RX1 32 yX1_tickBehind, .instanceMethod yX1_tickBehind, .selects RX1 yX1_tickBehind yX1_tickBehind, .code yX1_tickBehind cX1_tickBehind 2 (some .int), .fieldLink RX1 18 "TwoKeys$Music" "lengthAt" "[I"] ++ wsX10 ++ wsX00)
def wsX1_countClashes_r1 : List Cond := [Cond.methodLink RX1 44 yX1_startOf, Cond.instanceMethod yX1_startOf, Cond.selects RX1 yX1_startOf yX1_startOf, Cond.initialized RX1, Cond.code yX1_startOf cX1_startOf 2 (some .int), Cond.methodLink RX1 28 yX1_endOf, Cond.instanceMethod yX1_endOf, Cond.selects RX1 yX1_endOf yX1_endOf, Cond.code yX1_endOf cX1_endOf 2 (some .int), Cond.fieldLink RX1 21 "TwoKeys$Music" "sizes" "[I", Cond.methodLink RX1 47 yX1_doClash, Cond.instanceMethod yX1_doClash, Cond.selects RX1 yX1_doClash yX1_doClash, Cond.code yX1_doClash cX1_doClash 3 (some .boolean), Cond.fieldLink RX1 24 "TwoKeys$Music" "board" "LTwoKeys$Board;", Cond.fieldLink RX1 9 "TwoKeys$Music" "keyAt" "[I", Cond.methodLink RX1 35 yX0_doShare, Cond.instanceMethod yX0_doShare, Cond.selects RX0 yX0_doShare yX0_doShare, Cond.initialized RX0, Cond.code yX0_doShare cX0_doShare 3 (some .boolean), Cond.fieldLink RX0 15 "TwoKeys$Board" "struck" "[I", Cond.methodLink RX0 32 yX0_has, Cond.instanceMethod yX0_has]
def wsX1_countClashes_r2 : List Cond := [Cond.selects RX0 yX0_has yX0_has, Cond.code yX0_has cX0_has 2 (some .boolean), Cond.fieldLink RX0 9 "TwoKeys$Board" "size" "I", Cond.methodLink RX1 41 yX1_soundAtOnce, Cond.instanceMethod yX1_soundAtOnce, Cond.selects RX1 yX1_soundAtOnce yX1_soundAtOnce, Cond.code yX1_soundAtOnce cX1_soundAtOnce 3 (some .boolean), Cond.fieldLink RX1 15 "TwoKeys$Music" "beginAt" "[I", Cond.methodLink RX1 32 yX1_tickBehind, Cond.instanceMethod yX1_tickBehind, Cond.selects RX1 yX1_tickBehind yX1_tickBehind, Cond.code yX1_tickBehind cX1_tickBehind 2 (some .int), Cond.fieldLink RX1 18 "TwoKeys$Music" "lengthAt" "[I"]
def wsX1_countClashes : List Cond := .code yX1_countClashes cX1_countClashes 5 (some .int) :: ((wsX1_countClashes_r1 ++ wsX1_countClashes_r2) ++ wsX10 ++ wsX00)
def wsX1_clashNumbered_r1 : List Cond := [Cond.constant RX1 50 (-100009), Cond.methodLink RX1 44 yX1_startOf, Cond.instanceMethod yX1_startOf, Cond.selects RX1 yX1_startOf yX1_startOf, Cond.initialized RX1, Cond.code yX1_startOf cX1_startOf 2 (some .int), Cond.methodLink RX1 28 yX1_endOf, Cond.instanceMethod yX1_endOf, Cond.selects RX1 yX1_endOf yX1_endOf, Cond.code yX1_endOf cX1_endOf 2 (some .int), Cond.fieldLink RX1 21 "TwoKeys$Music" "sizes" "[I", Cond.methodLink RX1 47 yX1_doClash, Cond.instanceMethod yX1_doClash, Cond.selects RX1 yX1_doClash yX1_doClash, Cond.code yX1_doClash cX1_doClash 3 (some .boolean), Cond.fieldLink RX1 24 "TwoKeys$Music" "board" "LTwoKeys$Board;", Cond.fieldLink RX1 9 "TwoKeys$Music" "keyAt" "[I", Cond.methodLink RX1 35 yX0_doShare, Cond.instanceMethod yX0_doShare, Cond.selects RX0 yX0_doShare yX0_doShare, Cond.initialized RX0, Cond.code yX0_doShare cX0_doShare 3 (some .boolean), Cond.fieldLink RX0 15 "TwoKeys$Board" "struck" "[I", Cond.methodLink RX0 32 yX0_has]
def wsX1_clashNumbered_r2 : List Cond := [Cond.instanceMethod yX0_has, Cond.selects RX0 yX0_has yX0_has, Cond.code yX0_has cX0_has 2 (some .boolean), Cond.fieldLink RX0 9 "TwoKeys$Board" "size" "I", Cond.methodLink RX1 41 yX1_soundAtOnce, Cond.instanceMethod yX1_soundAtOnce, Cond.selects RX1 yX1_soundAtOnce yX1_soundAtOnce, Cond.code yX1_soundAtOnce cX1_soundAtOnce 3 (some .boolean), Cond.fieldLink RX1 15 "TwoKeys$Music" "beginAt" "[I", Cond.methodLink RX1 32 yX1_tickBehind, Cond.instanceMethod yX1_tickBehind, Cond.selects RX1 yX1_tickBehind yX1_tickBehind, Cond.code yX1_tickBehind cX1_tickBehind 2 (some .int), Cond.fieldLink RX1 18 "TwoKeys$Music" "lengthAt" "[I"]
def wsX1_clashNumbered : List Cond := .code yX1_clashNumbered cX1_clashNumbered 7 (some .int) :: ((wsX1_clashNumbered_r1 ++ wsX1_clashNumbered_r2) ++ wsX10 ++ wsX00)
def wsX1_countChokes_r1 : List Cond := [Cond.fieldLink RX1 15 "TwoKeys$Music" "beginAt" "[I", Cond.fieldLink RX1 24 "TwoKeys$Music" "board" "LTwoKeys$Board;", Cond.fieldLink RX1 9 "TwoKeys$Music" "keyAt" "[I", Cond.methodLink RX1 44 yX1_startOf, Cond.instanceMethod yX1_startOf, Cond.selects RX1 yX1_startOf yX1_startOf, Cond.initialized RX1, Cond.code yX1_startOf cX1_startOf 2 (some .int), Cond.methodLink RX1 28 yX1_endOf, Cond.instanceMethod yX1_endOf, Cond.selects RX1 yX1_endOf yX1_endOf, Cond.code yX1_endOf cX1_endOf 2 (some .int), Cond.fieldLink RX1 21 "TwoKeys$Music" "sizes" "[I", Cond.methodLink RX1 32 yX1_tickBehind, Cond.instanceMethod yX1_tickBehind, Cond.selects RX1 yX1_tickBehind yX1_tickBehind, Cond.code yX1_tickBehind cX1_tickBehind 2 (some .int), Cond.fieldLink RX1 18 "TwoKeys$Music" "lengthAt" "[I", Cond.methodLink RX1 35 yX0_doShare, Cond.instanceMethod yX0_doShare, Cond.selects RX0 yX0_doShare yX0_doShare, Cond.initialized RX0, Cond.code yX0_doShare cX0_doShare 3 (some .boolean), Cond.fieldLink RX0 15 "TwoKeys$Board" "struck" "[I"]
def wsX1_countChokes_r2 : List Cond := [Cond.methodLink RX0 32 yX0_has, Cond.instanceMethod yX0_has, Cond.selects RX0 yX0_has yX0_has, Cond.code yX0_has cX0_has 2 (some .boolean), Cond.fieldLink RX0 9 "TwoKeys$Board" "size" "I"]
def wsX1_countChokes : List Cond := .code yX1_countChokes cX1_countChokes 7 (some .int) :: ((wsX1_countChokes_r1 ++ wsX1_countChokes_r2) ++ wsX10 ++ wsX00)
def wsX1_goesOn : List Cond := .code yX1_goesOn cX1_goesOn 3 (some .boolean) :: ([.fieldLink RX1 15 "TwoKeys$Music" "beginAt" "[I", .fieldLink RX1 9 "TwoKeys$Music" "keyAt" "[I", .methodLink RX1 32 yX1_tickBehind, .instanceMethod yX1_tickBehind, .selects RX1 yX1_tickBehind yX1_tickBehind, .initialized RX1, .code yX1_tickBehind cX1_tickBehind 2 (some .int), .fieldLink RX1 18 "TwoKeys$Music" "lengthAt" "[I"] ++ wsX10)
def wsX1_lastOfTrill : List Cond := .code yX1_lastOfTrill cX1_lastOfTrill 5 (some .int) :: ([.methodLink RX1 55 yX1_goesOn, .instanceMethod yX1_goesOn, .selects RX1 yX1_goesOn yX1_goesOn, .initialized RX1, .code yX1_goesOn cX1_goesOn 3 (some .boolean), .fieldLink RX1 15 "TwoKeys$Music" "beginAt" "[I", .fieldLink RX1 9 "TwoKeys$Music" "keyAt" "[I", .methodLink RX1 32 yX1_tickBehind, .instanceMethod yX1_tickBehind, .selects RX1 yX1_tickBehind yX1_tickBehind, .code yX1_tickBehind cX1_tickBehind 2 (some .int), .fieldLink RX1 18 "TwoKeys$Music" "lengthAt" "[I"] ++ wsX10)
def wsX1_countTrills_r1 : List Cond := [Cond.fieldLink RX1 24 "TwoKeys$Music" "board" "LTwoKeys$Board;", Cond.fieldLink RX1 9 "TwoKeys$Music" "keyAt" "[I", Cond.methodLink RX1 44 yX1_startOf, Cond.instanceMethod yX1_startOf, Cond.selects RX1 yX1_startOf yX1_startOf, Cond.initialized RX1, Cond.code yX1_startOf cX1_startOf 2 (some .int), Cond.methodLink RX1 28 yX1_endOf, Cond.instanceMethod yX1_endOf, Cond.selects RX1 yX1_endOf yX1_endOf, Cond.code yX1_endOf cX1_endOf 2 (some .int), Cond.fieldLink RX1 21 "TwoKeys$Music" "sizes" "[I", Cond.methodLink RX1 51 yX1_lastOfTrill, Cond.instanceMethod yX1_lastOfTrill, Cond.selects RX1 yX1_lastOfTrill yX1_lastOfTrill, Cond.code yX1_lastOfTrill cX1_lastOfTrill 5 (some .int), Cond.methodLink RX1 55 yX1_goesOn, Cond.instanceMethod yX1_goesOn, Cond.selects RX1 yX1_goesOn yX1_goesOn, Cond.code yX1_goesOn cX1_goesOn 3 (some .boolean), Cond.fieldLink RX1 15 "TwoKeys$Music" "beginAt" "[I", Cond.methodLink RX1 32 yX1_tickBehind, Cond.instanceMethod yX1_tickBehind, Cond.selects RX1 yX1_tickBehind yX1_tickBehind]
def wsX1_countTrills_r2 : List Cond := [Cond.code yX1_tickBehind cX1_tickBehind 2 (some .int), Cond.fieldLink RX1 18 "TwoKeys$Music" "lengthAt" "[I", Cond.methodLink RX1 35 yX0_doShare, Cond.instanceMethod yX0_doShare, Cond.selects RX0 yX0_doShare yX0_doShare, Cond.initialized RX0, Cond.code yX0_doShare cX0_doShare 3 (some .boolean), Cond.fieldLink RX0 15 "TwoKeys$Board" "struck" "[I", Cond.methodLink RX0 32 yX0_has, Cond.instanceMethod yX0_has, Cond.selects RX0 yX0_has yX0_has, Cond.code yX0_has cX0_has 2 (some .boolean), Cond.fieldLink RX0 9 "TwoKeys$Board" "size" "I"]
def wsX1_countTrills : List Cond := .code yX1_countTrills cX1_countTrills 6 (some .int) :: ((wsX1_countTrills_r1 ++ wsX1_countTrills_r2) ++ wsX10 ++ wsX00)
def wsX1_keyHeard_r1 : List Cond := [Cond.fieldLink RX1 9 "TwoKeys$Music" "keyAt" "[I", Cond.fieldLink RX1 24 "TwoKeys$Music" "board" "LTwoKeys$Board;", Cond.constant RX1 50 (-100009), Cond.methodLink RX1 44 yX1_startOf, Cond.instanceMethod yX1_startOf, Cond.selects RX1 yX1_startOf yX1_startOf, Cond.initialized RX1, Cond.code yX1_startOf cX1_startOf 2 (some .int), Cond.methodLink RX1 28 yX1_endOf, Cond.instanceMethod yX1_endOf, Cond.selects RX1 yX1_endOf yX1_endOf, Cond.code yX1_endOf cX1_endOf 2 (some .int), Cond.fieldLink RX1 21 "TwoKeys$Music" "sizes" "[I", Cond.methodLink RX1 58 yX0_strikes, Cond.instanceMethod yX0_strikes, Cond.selects RX0 yX0_strikes yX0_strikes, Cond.initialized RX0, Cond.code yX0_strikes cX0_strikes 3 (some .boolean), Cond.fieldLink RX0 15 "TwoKeys$Board" "struck" "[I", Cond.methodLink RX0 32 yX0_has, Cond.instanceMethod yX0_has, Cond.selects RX0 yX0_has yX0_has, Cond.code yX0_has cX0_has 2 (some .boolean), Cond.fieldLink RX0 9 "TwoKeys$Board" "size" "I"]
def wsX1_keyHeard_r2 : List Cond := [Cond.methodLink RX1 61 yX1_soundsAt, Cond.instanceMethod yX1_soundsAt, Cond.selects RX1 yX1_soundsAt yX1_soundsAt, Cond.code yX1_soundsAt cX1_soundsAt 3 (some .boolean), Cond.fieldLink RX1 15 "TwoKeys$Music" "beginAt" "[I", Cond.methodLink RX1 32 yX1_tickBehind, Cond.instanceMethod yX1_tickBehind, Cond.selects RX1 yX1_tickBehind yX1_tickBehind, Cond.code yX1_tickBehind cX1_tickBehind 2 (some .int), Cond.fieldLink RX1 18 "TwoKeys$Music" "lengthAt" "[I", Cond.methodLink RX1 64 yX0_stopsNearer, Cond.instanceMethod yX0_stopsNearer, Cond.selects RX0 yX0_stopsNearer yX0_stopsNearer, Cond.code yX0_stopsNearer cX0_stopsNearer 5 (some .boolean), Cond.methodLink RX0 40 yX0_soundingLength, Cond.instanceMethod yX0_soundingLength, Cond.selects RX0 yX0_soundingLength yX0_soundingLength, Cond.code yX0_soundingLength cX0_soundingLength 2 (some .int), Cond.fieldLink RX0 19 "TwoKeys$Board" "lengths" "[I", Cond.fieldLink RX0 22 "TwoKeys$Board" "bends" "[I"]
def wsX1_keyHeard : List Cond := .code yX1_keyHeard cX1_keyHeard 7 (some .int) :: ((wsX1_keyHeard_r1 ++ wsX1_keyHeard_r2) ++ wsX10 ++ wsX00)
def wsX1_ticksLost_r1 : List Cond := [Cond.fieldLink RX1 24 "TwoKeys$Music" "board" "LTwoKeys$Board;", Cond.fieldLink RX1 67 "TwoKeys$Board" "struck" "[I", Cond.fieldLink RX1 9 "TwoKeys$Music" "keyAt" "[I", Cond.fieldLink RX1 15 "TwoKeys$Music" "beginAt" "[I", Cond.methodLink RX1 70 Lib.Math.max.name, Cond.static Lib.Math.max.name, Cond.initialized "java/lang/Math", Cond.code Lib.Math.max.name Lib.Math.max.code 2 (some .int), Cond.methodLink RX1 44 yX1_startOf, Cond.instanceMethod yX1_startOf, Cond.selects RX1 yX1_startOf yX1_startOf, Cond.initialized RX1, Cond.code yX1_startOf cX1_startOf 2 (some .int), Cond.methodLink RX1 28 yX1_endOf, Cond.instanceMethod yX1_endOf, Cond.selects RX1 yX1_endOf yX1_endOf, Cond.code yX1_endOf cX1_endOf 2 (some .int), Cond.fieldLink RX1 21 "TwoKeys$Music" "sizes" "[I", Cond.methodLink RX1 32 yX1_tickBehind, Cond.instanceMethod yX1_tickBehind, Cond.selects RX1 yX1_tickBehind yX1_tickBehind, Cond.code yX1_tickBehind cX1_tickBehind 2 (some .int), Cond.fieldLink RX1 18 "TwoKeys$Music" "lengthAt" "[I", Cond.methodLink RX1 75 yX1_keyHeard]
def wsX1_ticksLost_r2 : List Cond := [Cond.instanceMethod yX1_keyHeard, Cond.selects RX1 yX1_keyHeard yX1_keyHeard, Cond.code yX1_keyHeard cX1_keyHeard 7 (some .int), Cond.constant RX1 50 (-100009), Cond.methodLink RX1 58 yX0_strikes, Cond.instanceMethod yX0_strikes, Cond.selects RX0 yX0_strikes yX0_strikes, Cond.initialized RX0, Cond.code yX0_strikes cX0_strikes 3 (some .boolean), Cond.fieldLink RX0 15 "TwoKeys$Board" "struck" "[I", Cond.methodLink RX0 32 yX0_has, Cond.instanceMethod yX0_has, Cond.selects RX0 yX0_has yX0_has, Cond.code yX0_has cX0_has 2 (some .boolean), Cond.fieldLink RX0 9 "TwoKeys$Board" "size" "I", Cond.methodLink RX1 61 yX1_soundsAt, Cond.instanceMethod yX1_soundsAt, Cond.selects RX1 yX1_soundsAt yX1_soundsAt, Cond.code yX1_soundsAt cX1_soundsAt 3 (some .boolean), Cond.methodLink RX1 64 yX0_stopsNearer, Cond.instanceMethod yX0_stopsNearer, Cond.selects RX0 yX0_stopsNearer yX0_stopsNearer, Cond.code yX0_stopsNearer cX0_stopsNearer 5 (some .boolean), Cond.methodLink RX0 40 yX0_soundingLength]
def wsX1_ticksLost_r3 : List Cond := [Cond.instanceMethod yX0_soundingLength, Cond.selects RX0 yX0_soundingLength yX0_soundingLength, Cond.code yX0_soundingLength cX0_soundingLength 2 (some .int), Cond.fieldLink RX0 19 "TwoKeys$Board" "lengths" "[I", Cond.fieldLink RX0 22 "TwoKeys$Board" "bends" "[I"]
def wsX1_ticksLost : List Cond := .code yX1_ticksLost cX1_ticksLost 8 (some .int) :: ((wsX1_ticksLost_r1 ++ (wsX1_ticksLost_r2 ++ wsX1_ticksLost_r3)) ++ wsX10 ++ wsX00)
def wsX1_allKeysThere : List Cond := .code yX1_allKeysThere cX1_allKeysThere 3 (some .boolean) :: ([.fieldLink RX1 24 "TwoKeys$Music" "board" "LTwoKeys$Board;", .fieldLink RX1 9 "TwoKeys$Music" "keyAt" "[I", .methodLink RX1 44 yX1_startOf, .instanceMethod yX1_startOf, .selects RX1 yX1_startOf yX1_startOf, .initialized RX1, .code yX1_startOf cX1_startOf 2 (some .int), .methodLink RX1 28 yX1_endOf, .instanceMethod yX1_endOf, .selects RX1 yX1_endOf yX1_endOf, .code yX1_endOf cX1_endOf 2 (some .int), .fieldLink RX1 21 "TwoKeys$Music" "sizes" "[I", .methodLink RX1 79 yX0_has, .instanceMethod yX0_has, .selects RX0 yX0_has yX0_has, .initialized RX0, .code yX0_has cX0_has 2 (some .boolean), .fieldLink RX0 9 "TwoKeys$Board" "size" "I"] ++ wsX10 ++ wsX00)
def wsX2_init : List Cond := .code yX2_init cX2_init 4 none :: ([.methodLink RX2 3 objectInit, .instanceMethod objectInit, .code objectInit ⟨#[0xb1]⟩ 1 none, .arrayClass .int, .fieldLink RX2 9 "TwoKeys$OldOne" "measured" "[I", .fieldLink RX2 15 "TwoKeys$OldOne" "pitchFound" "I", .fieldLink RX2 19 "TwoKeys$OldOne" "misfitFound" "I", .fieldLink RX2 22 "TwoKeys$OldOne" "board" "LTwoKeys$Board;", .fieldLink RX2 26 "TwoKeys$OldOne" "scales" "LTwoKeys$Scales;", .constant RX2 30 (-100009)] ++ wsX20)
def wsX2_countMeasured : List Cond := .code yX2_countMeasured cX2_countMeasured 3 (some .int) :: ([.fieldLink RX2 22 "TwoKeys$OldOne" "board" "LTwoKeys$Board;", .fieldLink RX2 31 "TwoKeys$Board" "size" "I", .fieldLink RX2 9 "TwoKeys$OldOne" "measured" "[I", .constant RX2 30 (-100009)] ++ wsX20 ++ wsX00)
def wsX3_goalAt : List Cond := .code yX3_goalAt cX3_goalAt 7 (some .int) :: ([.fieldLink RX3 15 "TwoKeys$Scales" "belows" "[I", .fieldLink RX3 9 "TwoKeys$Scales" "aboves" "[I"] ++ wsX30)
def wsX2_misfitAt : List Cond := .code yX2_misfitAt cX2_misfitAt 6 (some .int) :: ([.fieldLink RX2 22 "TwoKeys$OldOne" "board" "LTwoKeys$Board;", .fieldLink RX2 31 "TwoKeys$Board" "size" "I", .fieldLink RX2 9 "TwoKeys$OldOne" "measured" "[I", .constant RX2 30 (-100009), .fieldLink RX2 26 "TwoKeys$OldOne" "scales" "LTwoKeys$Scales;", .methodLink RX2 42 Lib.Math.abs.name, .static Lib.Math.abs.name, .initialized "java/lang/Math", .code Lib.Math.abs.name Lib.Math.abs.code 1 (some .int), .methodLink RX2 36 yX3_goalAt, .instanceMethod yX3_goalAt, .selects RX3 yX3_goalAt yX3_goalAt, .initialized RX3, .code yX3_goalAt cX3_goalAt 7 (some .int), .fieldLink RX3 15 "TwoKeys$Scales" "belows" "[I", .fieldLink RX3 9 "TwoKeys$Scales" "aboves" "[I"] ++ wsX20 ++ wsX00 ++ wsX30)
def wsX2_likelyPitch : List Cond := .code yX2_likelyPitch cX2_likelyPitch 9 (some .int) :: ([.methodLink RX2 52 yX2_misfitAt, .instanceMethod yX2_misfitAt, .selects RX2 yX2_misfitAt yX2_misfitAt, .initialized RX2, .code yX2_misfitAt cX2_misfitAt 6 (some .int), .fieldLink RX2 22 "TwoKeys$OldOne" "board" "LTwoKeys$Board;", .fieldLink RX2 31 "TwoKeys$Board" "size" "I", .fieldLink RX2 9 "TwoKeys$OldOne" "measured" "[I", .constant RX2 30 (-100009), .fieldLink RX2 26 "TwoKeys$OldOne" "scales" "LTwoKeys$Scales;", .methodLink RX2 42 Lib.Math.abs.name, .static Lib.Math.abs.name, .initialized "java/lang/Math", .code Lib.Math.abs.name Lib.Math.abs.code 1 (some .int), .methodLink RX2 36 yX3_goalAt, .instanceMethod yX3_goalAt, .selects RX3 yX3_goalAt yX3_goalAt, .initialized RX3, .code yX3_goalAt cX3_goalAt 7 (some .int), .fieldLink RX3 15 "TwoKeys$Scales" "belows" "[I", .fieldLink RX3 9 "TwoKeys$Scales" "aboves" "[I"] ++ wsX20 ++ wsX00 ++ wsX30)
def wsX2_seek_r1 : List Cond := [Cond.constant RX2 55 (200000), Cond.fieldLink RX2 15 "TwoKeys$OldOne" "pitchFound" "I", Cond.fieldLink RX2 19 "TwoKeys$OldOne" "misfitFound" "I", Cond.methodLink RX2 48 yX2_likelyPitch, Cond.instanceMethod yX2_likelyPitch, Cond.selects RX2 yX2_likelyPitch yX2_likelyPitch, Cond.initialized RX2, Cond.code yX2_likelyPitch cX2_likelyPitch 9 (some .int), Cond.methodLink RX2 52 yX2_misfitAt, Cond.instanceMethod yX2_misfitAt, Cond.selects RX2 yX2_misfitAt yX2_misfitAt, Cond.code yX2_misfitAt cX2_misfitAt 6 (some .int), Cond.fieldLink RX2 22 "TwoKeys$OldOne" "board" "LTwoKeys$Board;", Cond.fieldLink RX2 31 "TwoKeys$Board" "size" "I", Cond.fieldLink RX2 9 "TwoKeys$OldOne" "measured" "[I", Cond.constant RX2 30 (-100009), Cond.fieldLink RX2 26 "TwoKeys$OldOne" "scales" "LTwoKeys$Scales;", Cond.methodLink RX2 42 Lib.Math.abs.name, Cond.static Lib.Math.abs.name, Cond.initialized "java/lang/Math", Cond.code Lib.Math.abs.name Lib.Math.abs.code 1 (some .int), Cond.methodLink RX2 36 yX3_goalAt, Cond.instanceMethod yX3_goalAt, Cond.selects RX3 yX3_goalAt yX3_goalAt]
def wsX2_seek_r2 : List Cond := [Cond.initialized RX3, Cond.code yX3_goalAt cX3_goalAt 7 (some .int), Cond.fieldLink RX3 15 "TwoKeys$Scales" "belows" "[I", Cond.fieldLink RX3 9 "TwoKeys$Scales" "aboves" "[I"]
def wsX2_seek : List Cond := .code yX2_seek cX2_seek 8 none :: ((wsX2_seek_r1 ++ wsX2_seek_r2) ++ wsX20 ++ wsX00 ++ wsX30)
def wsX2_scaleMeant_r1 : List Cond := [Cond.fieldLink RX2 19 "TwoKeys$OldOne" "misfitFound" "I", Cond.fieldLink RX2 15 "TwoKeys$OldOne" "pitchFound" "I", Cond.methodLink RX2 56 yX2_seek, Cond.instanceMethod yX2_seek, Cond.selects RX2 yX2_seek yX2_seek, Cond.initialized RX2, Cond.code yX2_seek cX2_seek 8 none, Cond.constant RX2 55 (200000), Cond.methodLink RX2 48 yX2_likelyPitch, Cond.instanceMethod yX2_likelyPitch, Cond.selects RX2 yX2_likelyPitch yX2_likelyPitch, Cond.code yX2_likelyPitch cX2_likelyPitch 9 (some .int), Cond.methodLink RX2 52 yX2_misfitAt, Cond.instanceMethod yX2_misfitAt, Cond.selects RX2 yX2_misfitAt yX2_misfitAt, Cond.code yX2_misfitAt cX2_misfitAt 6 (some .int), Cond.fieldLink RX2 22 "TwoKeys$OldOne" "board" "LTwoKeys$Board;", Cond.fieldLink RX2 31 "TwoKeys$Board" "size" "I", Cond.fieldLink RX2 9 "TwoKeys$OldOne" "measured" "[I", Cond.constant RX2 30 (-100009), Cond.fieldLink RX2 26 "TwoKeys$OldOne" "scales" "LTwoKeys$Scales;", Cond.methodLink RX2 42 Lib.Math.abs.name, Cond.static Lib.Math.abs.name, Cond.initialized "java/lang/Math"]
def wsX2_scaleMeant_r2 : List Cond := [Cond.code Lib.Math.abs.name Lib.Math.abs.code 1 (some .int), Cond.methodLink RX2 36 yX3_goalAt, Cond.instanceMethod yX3_goalAt, Cond.selects RX3 yX3_goalAt yX3_goalAt, Cond.initialized RX3, Cond.code yX3_goalAt cX3_goalAt 7 (some .int), Cond.fieldLink RX3 15 "TwoKeys$Scales" "belows" "[I", Cond.fieldLink RX3 9 "TwoKeys$Scales" "aboves" "[I"]
def wsX2_scaleMeant : List Cond := .code yX2_scaleMeant cX2_scaleMeant 5 (some .int) :: ((wsX2_scaleMeant_r1 ++ wsX2_scaleMeant_r2) ++ wsX20 ++ wsX00 ++ wsX30)
def wsX2_keyAdded_r1 : List Cond := [Cond.fieldLink RX2 22 "TwoKeys$OldOne" "board" "LTwoKeys$Board;", Cond.fieldLink RX2 31 "TwoKeys$Board" "size" "I", Cond.fieldLink RX2 9 "TwoKeys$OldOne" "measured" "[I", Cond.constant RX2 30 (-100009), Cond.fieldLink RX2 19 "TwoKeys$OldOne" "misfitFound" "I", Cond.methodLink RX2 60 yX2_scaleMeant, Cond.instanceMethod yX2_scaleMeant, Cond.selects RX2 yX2_scaleMeant yX2_scaleMeant, Cond.initialized RX2, Cond.code yX2_scaleMeant cX2_scaleMeant 5 (some .int), Cond.fieldLink RX2 15 "TwoKeys$OldOne" "pitchFound" "I", Cond.methodLink RX2 56 yX2_seek, Cond.instanceMethod yX2_seek, Cond.selects RX2 yX2_seek yX2_seek, Cond.code yX2_seek cX2_seek 8 none, Cond.constant RX2 55 (200000), Cond.methodLink RX2 48 yX2_likelyPitch, Cond.instanceMethod yX2_likelyPitch, Cond.selects RX2 yX2_likelyPitch yX2_likelyPitch, Cond.code yX2_likelyPitch cX2_likelyPitch 9 (some .int), Cond.methodLink RX2 52 yX2_misfitAt, Cond.instanceMethod yX2_misfitAt, Cond.selects RX2 yX2_misfitAt yX2_misfitAt, Cond.code yX2_misfitAt cX2_misfitAt 6 (some .int)]
def wsX2_keyAdded_r2 : List Cond := [Cond.fieldLink RX2 26 "TwoKeys$OldOne" "scales" "LTwoKeys$Scales;", Cond.methodLink RX2 42 Lib.Math.abs.name, Cond.static Lib.Math.abs.name, Cond.initialized "java/lang/Math", Cond.code Lib.Math.abs.name Lib.Math.abs.code 1 (some .int), Cond.methodLink RX2 36 yX3_goalAt, Cond.instanceMethod yX3_goalAt, Cond.selects RX3 yX3_goalAt yX3_goalAt, Cond.initialized RX3, Cond.code yX3_goalAt cX3_goalAt 7 (some .int), Cond.fieldLink RX3 15 "TwoKeys$Scales" "belows" "[I", Cond.fieldLink RX3 9 "TwoKeys$Scales" "aboves" "[I"]
def wsX2_keyAdded : List Cond := .code yX2_keyAdded cX2_keyAdded 5 (some .int) :: ((wsX2_keyAdded_r1 ++ wsX2_keyAdded_r2) ++ wsX20 ++ wsX00 ++ wsX30)
def wsX2_keyBentLater_r1 : List Cond := [Cond.fieldLink RX2 22 "TwoKeys$OldOne" "board" "LTwoKeys$Board;", Cond.fieldLink RX2 31 "TwoKeys$Board" "size" "I", Cond.fieldLink RX2 9 "TwoKeys$OldOne" "measured" "[I", Cond.constant RX2 30 (-100009), Cond.fieldLink RX2 26 "TwoKeys$OldOne" "scales" "LTwoKeys$Scales;", Cond.fieldLink RX2 15 "TwoKeys$OldOne" "pitchFound" "I", Cond.methodLink RX2 42 Lib.Math.abs.name, Cond.static Lib.Math.abs.name, Cond.initialized "java/lang/Math", Cond.code Lib.Math.abs.name Lib.Math.abs.code 1 (some .int), Cond.methodLink RX2 60 yX2_scaleMeant, Cond.instanceMethod yX2_scaleMeant, Cond.selects RX2 yX2_scaleMeant yX2_scaleMeant, Cond.initialized RX2, Cond.code yX2_scaleMeant cX2_scaleMeant 5 (some .int), Cond.fieldLink RX2 19 "TwoKeys$OldOne" "misfitFound" "I", Cond.methodLink RX2 56 yX2_seek, Cond.instanceMethod yX2_seek, Cond.selects RX2 yX2_seek yX2_seek, Cond.code yX2_seek cX2_seek 8 none, Cond.constant RX2 55 (200000), Cond.methodLink RX2 48 yX2_likelyPitch, Cond.instanceMethod yX2_likelyPitch, Cond.selects RX2 yX2_likelyPitch yX2_likelyPitch]
def wsX2_keyBentLater_r2 : List Cond := [Cond.code yX2_likelyPitch cX2_likelyPitch 9 (some .int), Cond.methodLink RX2 52 yX2_misfitAt, Cond.instanceMethod yX2_misfitAt, Cond.selects RX2 yX2_misfitAt yX2_misfitAt, Cond.code yX2_misfitAt cX2_misfitAt 6 (some .int), Cond.methodLink RX2 36 yX3_goalAt, Cond.instanceMethod yX3_goalAt, Cond.selects RX3 yX3_goalAt yX3_goalAt, Cond.initialized RX3, Cond.code yX3_goalAt cX3_goalAt 7 (some .int), Cond.fieldLink RX3 15 "TwoKeys$Scales" "belows" "[I", Cond.fieldLink RX3 9 "TwoKeys$Scales" "aboves" "[I"]
def wsX2_keyBentLater : List Cond := .code yX2_keyBentLater cX2_keyBentLater 6 (some .int) :: ((wsX2_keyBentLater_r1 ++ wsX2_keyBentLater_r2) ++ wsX20 ++ wsX00 ++ wsX30)
def wsX3_init : List Cond := .code yX3_init cX3_init 2 none :: ([.methodLink RX3 3 objectInit, .instanceMethod objectInit, .code objectInit ⟨#[0xb1]⟩ 1 none, .arrayClass .int, .fieldLink RX3 9 "TwoKeys$Scales" "aboves" "[I", .fieldLink RX3 15 "TwoKeys$Scales" "belows" "[I"] ++ wsX30)
def wsX3_put : List Cond := .code yX3_put cX3_put 5 none :: ([.fieldLink RX3 9 "TwoKeys$Scales" "aboves" "[I", .fieldLink RX3 15 "TwoKeys$Scales" "belows" "[I"] ++ wsX30)
def wsX3_partOf : List Cond := .code yX3_partOf cX3_partOf 5 (some .int) :: ([.fieldLink RX3 9 "TwoKeys$Scales" "aboves" "[I", .fieldLink RX3 15 "TwoKeys$Scales" "belows" "[I"] ++ wsX30)
def wsX4_init : List Cond := .code yX4_init cX4_init 1 none :: ([.methodLink RX4 3 objectInit, .instanceMethod objectInit, .code objectInit ⟨#[0xb1]⟩ 1 none, .arrayClass .int, .fieldLink RX4 9 "TwoKeys$Sharing" "pairs" "[I", .fieldLink RX4 15 "TwoKeys$Sharing" "leasts" "[I", .fieldLink RX4 18 "TwoKeys$Sharing" "groupOf" "[I", .fieldLink RX4 21 "TwoKeys$Sharing" "size" "I", .fieldLink RX4 25 "TwoKeys$Sharing" "most" "I"] ++ wsX40)
def wsX4_addPair : List Cond := .code yX4_addPair cX4_addPair 3 none :: ([.fieldLink RX4 9 "TwoKeys$Sharing" "pairs" "[I", .methodLink RX4 52 Lib.Math.min.name, .static Lib.Math.min.name, .initialized "java/lang/Math", .code Lib.Math.min.name Lib.Math.min.code 2 (some .int), .methodLink RX4 58 Lib.Math.max.name, .static Lib.Math.max.name, .code Lib.Math.max.name Lib.Math.max.code 2 (some .int)] ++ wsX40)
def wsX4_gatherPiece_r1 : List Cond := [Cond.fieldLink RX4 45 "TwoKeys$Music" "keyAt" "[I", Cond.methodLink RX4 32 yX1_startOf, Cond.instanceMethod yX1_startOf, Cond.selects RX1 yX1_startOf yX1_startOf, Cond.initialized RX1, Cond.code yX1_startOf cX1_startOf 2 (some .int), Cond.methodLink RX4 38 yX1_endOf, Cond.instanceMethod yX1_endOf, Cond.selects RX1 yX1_endOf yX1_endOf, Cond.code yX1_endOf cX1_endOf 2 (some .int), Cond.fieldLink RX1 21 "TwoKeys$Music" "sizes" "[I", Cond.methodLink RX4 41 yX1_soundAtOnce, Cond.instanceMethod yX1_soundAtOnce, Cond.selects RX1 yX1_soundAtOnce yX1_soundAtOnce, Cond.code yX1_soundAtOnce cX1_soundAtOnce 3 (some .boolean), Cond.fieldLink RX1 15 "TwoKeys$Music" "beginAt" "[I", Cond.methodLink RX1 32 yX1_tickBehind, Cond.instanceMethod yX1_tickBehind, Cond.selects RX1 yX1_tickBehind yX1_tickBehind, Cond.code yX1_tickBehind cX1_tickBehind 2 (some .int), Cond.fieldLink RX1 18 "TwoKeys$Music" "lengthAt" "[I", Cond.methodLink RX4 48 yX4_addPair, Cond.instanceMethod yX4_addPair, Cond.selects RX4 yX4_addPair yX4_addPair]
def wsX4_gatherPiece_r2 : List Cond := [Cond.initialized RX4, Cond.code yX4_addPair cX4_addPair 3 none, Cond.fieldLink RX4 9 "TwoKeys$Sharing" "pairs" "[I", Cond.methodLink RX4 52 Lib.Math.min.name, Cond.static Lib.Math.min.name, Cond.initialized "java/lang/Math", Cond.code Lib.Math.min.name Lib.Math.min.code 2 (some .int), Cond.methodLink RX4 58 Lib.Math.max.name, Cond.static Lib.Math.max.name, Cond.code Lib.Math.max.name Lib.Math.max.code 2 (some .int)]
def wsX4_gatherPiece : List Cond := .code yX4_gatherPiece cX4_gatherPiece 5 none :: ((wsX4_gatherPiece_r1 ++ wsX4_gatherPiece_r2) ++ wsX10 ++ wsX40)
def wsX4_gather_r1 : List Cond := [Cond.fieldLink RX4 9 "TwoKeys$Sharing" "pairs" "[I", Cond.methodLink RX4 28 yX4_gatherPiece, Cond.instanceMethod yX4_gatherPiece, Cond.selects RX4 yX4_gatherPiece yX4_gatherPiece, Cond.initialized RX4, Cond.code yX4_gatherPiece cX4_gatherPiece 5 none, Cond.fieldLink RX4 45 "TwoKeys$Music" "keyAt" "[I", Cond.methodLink RX4 32 yX1_startOf, Cond.instanceMethod yX1_startOf, Cond.selects RX1 yX1_startOf yX1_startOf, Cond.initialized RX1, Cond.code yX1_startOf cX1_startOf 2 (some .int), Cond.methodLink RX4 38 yX1_endOf, Cond.instanceMethod yX1_endOf, Cond.selects RX1 yX1_endOf yX1_endOf, Cond.code yX1_endOf cX1_endOf 2 (some .int), Cond.fieldLink RX1 21 "TwoKeys$Music" "sizes" "[I", Cond.methodLink RX4 41 yX1_soundAtOnce, Cond.instanceMethod yX1_soundAtOnce, Cond.selects RX1 yX1_soundAtOnce yX1_soundAtOnce, Cond.code yX1_soundAtOnce cX1_soundAtOnce 3 (some .boolean), Cond.fieldLink RX1 15 "TwoKeys$Music" "beginAt" "[I", Cond.methodLink RX1 32 yX1_tickBehind, Cond.instanceMethod yX1_tickBehind]
def wsX4_gather_r2 : List Cond := [Cond.selects RX1 yX1_tickBehind yX1_tickBehind, Cond.code yX1_tickBehind cX1_tickBehind 2 (some .int), Cond.fieldLink RX1 18 "TwoKeys$Music" "lengthAt" "[I", Cond.methodLink RX4 48 yX4_addPair, Cond.instanceMethod yX4_addPair, Cond.selects RX4 yX4_addPair yX4_addPair, Cond.code yX4_addPair cX4_addPair 3 none, Cond.methodLink RX4 52 Lib.Math.min.name, Cond.static Lib.Math.min.name, Cond.initialized "java/lang/Math", Cond.code Lib.Math.min.name Lib.Math.min.code 2 (some .int), Cond.methodLink RX4 58 Lib.Math.max.name, Cond.static Lib.Math.max.name, Cond.code Lib.Math.max.name Lib.Math.max.code 2 (some .int)]
def wsX4_gather : List Cond := .code yX4_gather cX4_gather 4 none :: ((wsX4_gather_r1 ++ wsX4_gather_r2) ++ wsX40 ++ wsX10)
def wsX4_clashesBelow : List Cond := .code yX4_clashesBelow cX4_clashesBelow 5 (some .int) :: ([.fieldLink RX4 9 "TwoKeys$Sharing" "pairs" "[I"] ++ wsX40)
def wsX4_clashesOf : List Cond := .code yX4_clashesOf cX4_clashesOf 5 (some .int) :: ([.methodLink RX4 61 yX4_clashesBelow, .instanceMethod yX4_clashesBelow, .selects RX4 yX4_clashesBelow yX4_clashesBelow, .initialized RX4, .code yX4_clashesBelow cX4_clashesBelow 5 (some .int), .fieldLink RX4 9 "TwoKeys$Sharing" "pairs" "[I"] ++ wsX40)
def wsX4_leastFrom : List Cond := .code yX4_leastFrom cX4_leastFrom 6 (some .int) :: ([.constant RX4 64 (1000000), .fieldLink RX4 21 "TwoKeys$Sharing" "size" "I", .fieldLink RX4 25 "TwoKeys$Sharing" "most" "I", .fieldLink RX4 15 "TwoKeys$Sharing" "leasts" "[I", .methodLink RX4 52 Lib.Math.min.name, .static Lib.Math.min.name, .initialized "java/lang/Math", .code Lib.Math.min.name Lib.Math.min.code 2 (some .int), .methodLink RX4 61 yX4_clashesBelow, .instanceMethod yX4_clashesBelow, .selects RX4 yX4_clashesBelow yX4_clashesBelow, .initialized RX4, .code yX4_clashesBelow cX4_clashesBelow 5 (some .int), .fieldLink RX4 9 "TwoKeys$Sharing" "pairs" "[I"] ++ wsX40)
def wsX4_solve : List Cond := .code yX4_solve cX4_solve 5 none :: ([.fieldLink RX4 21 "TwoKeys$Sharing" "size" "I", .fieldLink RX4 25 "TwoKeys$Sharing" "most" "I", .fieldLink RX4 15 "TwoKeys$Sharing" "leasts" "[I", .constant RX4 64 (1000000), .methodLink RX4 65 yX4_leastFrom, .instanceMethod yX4_leastFrom, .selects RX4 yX4_leastFrom yX4_leastFrom, .initialized RX4, .code yX4_leastFrom cX4_leastFrom 6 (some .int), .methodLink RX4 52 Lib.Math.min.name, .static Lib.Math.min.name, .initialized "java/lang/Math", .code Lib.Math.min.name Lib.Math.min.code 2 (some .int), .methodLink RX4 61 yX4_clashesBelow, .instanceMethod yX4_clashesBelow, .selects RX4 yX4_clashesBelow yX4_clashesBelow, .code yX4_clashesBelow cX4_clashesBelow 5 (some .int), .fieldLink RX4 9 "TwoKeys$Sharing" "pairs" "[I"] ++ wsX40)
def wsX4_leastWith : List Cond := .code yX4_leastWith cX4_leastWith 2 (some .int) :: ([.fieldLink RX4 15 "TwoKeys$Sharing" "leasts" "[I"] ++ wsX40)
def wsX4_fewestStrings : List Cond := .code yX4_fewestStrings cX4_fewestStrings 2 (some .int) :: ([.fieldLink RX4 21 "TwoKeys$Sharing" "size" "I", .methodLink RX4 68 yX4_leastWith, .instanceMethod yX4_leastWith, .selects RX4 yX4_leastWith yX4_leastWith, .initialized RX4, .code yX4_leastWith cX4_leastWith 2 (some .int), .fieldLink RX4 15 "TwoKeys$Sharing" "leasts" "[I"] ++ wsX40)
def wsX4_bestStrings : List Cond := .code yX4_bestStrings cX4_bestStrings 5 (some .int) :: ([.constant RX4 71 (-100009), .constant RX4 64 (1000000), .fieldLink RX4 21 "TwoKeys$Sharing" "size" "I", .methodLink RX4 68 yX4_leastWith, .instanceMethod yX4_leastWith, .selects RX4 yX4_leastWith yX4_leastWith, .initialized RX4, .code yX4_leastWith cX4_leastWith 2 (some .int), .fieldLink RX4 15 "TwoKeys$Sharing" "leasts" "[I"] ++ wsX40)
def wsX4_greatestGroupEnd : List Cond := .code yX4_greatestGroupEnd cX4_greatestGroupEnd 7 (some .int) :: ([.fieldLink RX4 21 "TwoKeys$Sharing" "size" "I", .fieldLink RX4 25 "TwoKeys$Sharing" "most" "I", .fieldLink RX4 15 "TwoKeys$Sharing" "leasts" "[I", .methodLink RX4 61 yX4_clashesBelow, .instanceMethod yX4_clashesBelow, .selects RX4 yX4_clashesBelow yX4_clashesBelow, .initialized RX4, .code yX4_clashesBelow cX4_clashesBelow 5 (some .int), .fieldLink RX4 9 "TwoKeys$Sharing" "pairs" "[I"] ++ wsX40)
def wsX4_layOut : List Cond := .code yX4_layOut cX4_layOut 6 none :: ([.fieldLink RX4 18 "TwoKeys$Sharing" "groupOf" "[I", .methodLink RX4 72 yX4_greatestGroupEnd, .instanceMethod yX4_greatestGroupEnd, .selects RX4 yX4_greatestGroupEnd yX4_greatestGroupEnd, .initialized RX4, .code yX4_greatestGroupEnd cX4_greatestGroupEnd 7 (some .int), .fieldLink RX4 21 "TwoKeys$Sharing" "size" "I", .fieldLink RX4 25 "TwoKeys$Sharing" "most" "I", .fieldLink RX4 15 "TwoKeys$Sharing" "leasts" "[I", .methodLink RX4 61 yX4_clashesBelow, .instanceMethod yX4_clashesBelow, .selects RX4 yX4_clashesBelow yX4_clashesBelow, .code yX4_clashesBelow cX4_clashesBelow 5 (some .int), .fieldLink RX4 9 "TwoKeys$Sharing" "pairs" "[I"] ++ wsX40)
def wsX5_init_r1 : List Cond := [Cond.methodLink RX5 1 objectInit, Cond.instanceMethod objectInit, Cond.code objectInit ⟨#[0xb1]⟩ 1 none, Cond.fieldLink RX5 7 "TwoKeys" "scaleInUse" "I", Cond.fieldLink RX5 13 "TwoKeys" "pitchNow" "I", Cond.fieldLink RX5 16 "TwoKeys" "restNow" "I", Cond.fieldLink RX5 19 "TwoKeys" "bookNow" "I", Cond.classLink RX5 22 RX0, Cond.instantiable RX0 5, Cond.initialized RX0, Cond.fieldLink RX5 25 "TwoKeys" "board" "LTwoKeys$Board;", Cond.classLink RX5 29 RX3, Cond.instantiable RX3 2, Cond.initialized RX3, Cond.fieldLink RX5 32 "TwoKeys" "scales" "LTwoKeys$Scales;", Cond.classLink RX5 36 RX1, Cond.instantiable RX1 5, Cond.initialized RX1, Cond.fieldLink RX5 41 "TwoKeys" "music" "LTwoKeys$Music;", Cond.classLink RX5 45 RX4, Cond.instantiable RX4 5, Cond.initialized RX4, Cond.fieldLink RX5 48 "TwoKeys" "sharing" "LTwoKeys$Sharing;", Cond.classLink RX5 52 RX2]
def wsX5_init_r2 : List Cond := [Cond.instantiable RX2 5, Cond.initialized RX2, Cond.fieldLink RX5 57 "TwoKeys" "oldOne" "LTwoKeys$OldOne;", Cond.methodLink RX5 24 yX0_init, Cond.instanceMethod yX0_init, Cond.code yX0_init cX0_init 2 none, Cond.methodLink RX0 3 objectInit, Cond.fieldLink RX0 9 "TwoKeys$Board" "size" "I", Cond.arrayClass .int, Cond.fieldLink RX0 15 "TwoKeys$Board" "struck" "[I", Cond.fieldLink RX0 19 "TwoKeys$Board" "lengths" "[I", Cond.fieldLink RX0 22 "TwoKeys$Board" "bends" "[I", Cond.fieldLink RX0 25 "TwoKeys$Board" "tensions" "[I", Cond.methodLink RX5 31 yX3_init, Cond.instanceMethod yX3_init, Cond.code yX3_init cX3_init 2 none, Cond.methodLink RX3 3 objectInit, Cond.fieldLink RX3 9 "TwoKeys$Scales" "aboves" "[I", Cond.fieldLink RX3 15 "TwoKeys$Scales" "belows" "[I", Cond.methodLink RX5 38 yX1_init, Cond.instanceMethod yX1_init, Cond.code yX1_init cX1_init 2 none, Cond.methodLink RX1 3 objectInit, Cond.fieldLink RX1 9 "TwoKeys$Music" "keyAt" "[I"]
def wsX5_init_r3 : List Cond := [Cond.fieldLink RX1 15 "TwoKeys$Music" "beginAt" "[I", Cond.fieldLink RX1 18 "TwoKeys$Music" "lengthAt" "[I", Cond.fieldLink RX1 21 "TwoKeys$Music" "sizes" "[I", Cond.fieldLink RX1 24 "TwoKeys$Music" "board" "LTwoKeys$Board;", Cond.instanceMethod yX4_init, Cond.code yX4_init cX4_init 1 none, Cond.methodLink RX4 3 objectInit, Cond.fieldLink RX4 9 "TwoKeys$Sharing" "pairs" "[I", Cond.fieldLink RX4 15 "TwoKeys$Sharing" "leasts" "[I", Cond.fieldLink RX4 18 "TwoKeys$Sharing" "groupOf" "[I", Cond.fieldLink RX4 21 "TwoKeys$Sharing" "size" "I", Cond.fieldLink RX4 25 "TwoKeys$Sharing" "most" "I", Cond.methodLink RX5 54 yX2_init, Cond.instanceMethod yX2_init, Cond.code yX2_init cX2_init 4 none, Cond.methodLink RX2 3 objectInit, Cond.fieldLink RX2 9 "TwoKeys$OldOne" "measured" "[I", Cond.fieldLink RX2 15 "TwoKeys$OldOne" "pitchFound" "I", Cond.fieldLink RX2 19 "TwoKeys$OldOne" "misfitFound" "I", Cond.fieldLink RX2 22 "TwoKeys$OldOne" "board" "LTwoKeys$Board;", Cond.fieldLink RX2 26 "TwoKeys$OldOne" "scales" "LTwoKeys$Scales;", Cond.constant RX2 30 (-100009)]
def wsX5_init : List Cond := .code yX5_init cX5_init 1 none :: ((wsX5_init_r1 ++ (wsX5_init_r2 ++ wsX5_init_r3)) ++ wsX50 ++ wsX00 ++ wsX30 ++ wsX10 ++ wsX40 ++ wsX20)
def wsX5_within : List Cond := .code yX5_within cX5_within 3 (some .boolean) :: ([])
def wsX5_keys : List Cond := .code yX5_keys cX5_keys 3 (some .int) :: ([.constant RX5 65 (-100002), .fieldLink RX5 25 "TwoKeys" "board" "LTwoKeys$Board;", .fieldLink RX5 66 "TwoKeys$Board" "size" "I", .methodLink RX5 61 yX5_within, .static yX5_within, .initialized RX5, .code yX5_within cX5_within 3 (some .boolean)] ++ wsX50 ++ wsX00)
def wsX5_isString : List Cond := .code yX5_isString cX5_isString 1 (some .boolean) :: ([.methodLink RX5 61 yX5_within, .static yX5_within, .initialized RX5, .code yX5_within cX5_within 3 (some .boolean)])
def wsX5_strike : List Cond := .code yX5_strike cX5_strike 5 (some .int) :: ([.fieldLink RX5 25 "TwoKeys" "board" "LTwoKeys$Board;", .constant RX5 76 (-100001), .constant RX5 65 (-100002), .fieldLink RX5 77 "TwoKeys$Board" "struck" "[I", .fieldLink RX5 81 "TwoKeys$Board" "lengths" "[I", .fieldLink RX5 84 "TwoKeys$Board" "bends" "[I", .methodLink RX5 69 yX0_has, .instanceMethod yX0_has, .selects RX0 yX0_has yX0_has, .initialized RX0, .code yX0_has cX0_has 2 (some .boolean), .fieldLink RX0 9 "TwoKeys$Board" "size" "I", .methodLink RX5 73 yX5_isString, .static yX5_isString, .initialized RX5, .code yX5_isString cX5_isString 1 (some .boolean), .methodLink RX5 61 yX5_within, .static yX5_within, .code yX5_within cX5_within 3 (some .boolean)] ++ wsX50 ++ wsX00)
def wsX5_tension : List Cond := .code yX5_tension cX5_tension 4 (some .int) :: ([.constant RX5 76 (-100001), .constant RX5 65 (-100002), .fieldLink RX5 25 "TwoKeys" "board" "LTwoKeys$Board;", .fieldLink RX5 87 "TwoKeys$Board" "tensions" "[I", .methodLink RX5 73 yX5_isString, .static yX5_isString, .initialized RX5, .code yX5_isString cX5_isString 1 (some .boolean), .methodLink RX5 61 yX5_within, .static yX5_within, .code yX5_within cX5_within 3 (some .boolean)] ++ wsX50 ++ wsX00)
def wsX5_bend : List Cond := .code yX5_bend cX5_bend 4 (some .int) :: ([.fieldLink RX5 25 "TwoKeys" "board" "LTwoKeys$Board;", .constant RX5 76 (-100001), .constant RX5 65 (-100002), .fieldLink RX5 84 "TwoKeys$Board" "bends" "[I", .methodLink RX5 69 yX0_has, .instanceMethod yX0_has, .selects RX0 yX0_has yX0_has, .initialized RX0, .code yX0_has cX0_has 2 (some .boolean), .fieldLink RX0 9 "TwoKeys$Board" "size" "I", .methodLink RX5 61 yX5_within, .static yX5_within, .initialized RX5, .code yX5_within cX5_within 3 (some .boolean)] ++ wsX50 ++ wsX00)
def wsX5_goalOf : List Cond := .code yX5_goalOf cX5_goalOf 2 (some .int) :: ([.fieldLink RX5 32 "TwoKeys" "scales" "LTwoKeys$Scales;", .fieldLink RX5 7 "TwoKeys" "scaleInUse" "I", .fieldLink RX5 13 "TwoKeys" "pitchNow" "I", .methodLink RX5 249 yX3_goalAt, .instanceMethod yX3_goalAt, .selects RX3 yX3_goalAt yX3_goalAt, .initialized RX3, .code yX3_goalAt cX3_goalAt 7 (some .int), .fieldLink RX3 15 "TwoKeys$Scales" "belows" "[I", .fieldLink RX3 9 "TwoKeys$Scales" "aboves" "[I"] ++ wsX50 ++ wsX30)
def wsX5_errorOf_r1 : List Cond := [Cond.fieldLink RX5 25 "TwoKeys" "board" "LTwoKeys$Board;", Cond.methodLink RX5 90 yX0_toneOf, Cond.instanceMethod yX0_toneOf, Cond.selects RX0 yX0_toneOf yX0_toneOf, Cond.initialized RX0, Cond.code yX0_toneOf cX0_toneOf 2 (some .int), Cond.fieldLink RX0 22 "TwoKeys$Board" "bends" "[I", Cond.methodLink RX0 28 yX0_toneBent, Cond.instanceMethod yX0_toneBent, Cond.selects RX0 yX0_toneBent yX0_toneBent, Cond.code yX0_toneBent cX0_toneBent 4 (some .int), Cond.fieldLink RX0 19 "TwoKeys$Board" "lengths" "[I", Cond.fieldLink RX0 25 "TwoKeys$Board" "tensions" "[I", Cond.fieldLink RX0 15 "TwoKeys$Board" "struck" "[I", Cond.methodLink RX5 94 yX5_goalOf, Cond.instanceMethod yX5_goalOf, Cond.selects RX5 yX5_goalOf yX5_goalOf, Cond.initialized RX5, Cond.code yX5_goalOf cX5_goalOf 2 (some .int), Cond.fieldLink RX5 32 "TwoKeys" "scales" "LTwoKeys$Scales;", Cond.fieldLink RX5 7 "TwoKeys" "scaleInUse" "I", Cond.fieldLink RX5 13 "TwoKeys" "pitchNow" "I", Cond.methodLink RX5 249 yX3_goalAt, Cond.instanceMethod yX3_goalAt]
def wsX5_errorOf_r2 : List Cond := [Cond.selects RX3 yX3_goalAt yX3_goalAt, Cond.initialized RX3, Cond.code yX3_goalAt cX3_goalAt 7 (some .int), Cond.fieldLink RX3 15 "TwoKeys$Scales" "belows" "[I", Cond.fieldLink RX3 9 "TwoKeys$Scales" "aboves" "[I"]
def wsX5_errorOf : List Cond := .code yX5_errorOf cX5_errorOf 2 (some .int) :: ((wsX5_errorOf_r1 ++ wsX5_errorOf_r2) ++ wsX50 ++ wsX00 ++ wsX30)
def wsX5_about_r1 : List Cond := [Cond.fieldLink RX5 25 "TwoKeys" "board" "LTwoKeys$Board;", Cond.constant RX5 76 (-100001), Cond.fieldLink RX5 77 "TwoKeys$Board" "struck" "[I", Cond.fieldLink RX5 81 "TwoKeys$Board" "lengths" "[I", Cond.fieldLink RX5 84 "TwoKeys$Board" "bends" "[I", Cond.constant RX5 65 (-100002), Cond.methodLink RX5 69 yX0_has, Cond.instanceMethod yX0_has, Cond.selects RX0 yX0_has yX0_has, Cond.initialized RX0, Cond.code yX0_has cX0_has 2 (some .boolean), Cond.fieldLink RX0 9 "TwoKeys$Board" "size" "I", Cond.methodLink RX5 90 yX0_toneOf, Cond.instanceMethod yX0_toneOf, Cond.selects RX0 yX0_toneOf yX0_toneOf, Cond.code yX0_toneOf cX0_toneOf 2 (some .int), Cond.fieldLink RX0 22 "TwoKeys$Board" "bends" "[I", Cond.methodLink RX0 28 yX0_toneBent, Cond.instanceMethod yX0_toneBent, Cond.selects RX0 yX0_toneBent yX0_toneBent, Cond.code yX0_toneBent cX0_toneBent 4 (some .int), Cond.fieldLink RX0 19 "TwoKeys$Board" "lengths" "[I", Cond.fieldLink RX0 25 "TwoKeys$Board" "tensions" "[I", Cond.fieldLink RX0 15 "TwoKeys$Board" "struck" "[I"]
def wsX5_about_r2 : List Cond := [Cond.methodLink RX5 94 yX5_goalOf, Cond.instanceMethod yX5_goalOf, Cond.selects RX5 yX5_goalOf yX5_goalOf, Cond.initialized RX5, Cond.code yX5_goalOf cX5_goalOf 2 (some .int), Cond.fieldLink RX5 32 "TwoKeys" "scales" "LTwoKeys$Scales;", Cond.fieldLink RX5 7 "TwoKeys" "scaleInUse" "I", Cond.fieldLink RX5 13 "TwoKeys" "pitchNow" "I", Cond.methodLink RX5 249 yX3_goalAt, Cond.instanceMethod yX3_goalAt, Cond.selects RX3 yX3_goalAt yX3_goalAt, Cond.initialized RX3, Cond.code yX3_goalAt cX3_goalAt 7 (some .int), Cond.fieldLink RX3 15 "TwoKeys$Scales" "belows" "[I", Cond.fieldLink RX3 9 "TwoKeys$Scales" "aboves" "[I", Cond.methodLink RX5 97 yX5_errorOf, Cond.instanceMethod yX5_errorOf, Cond.selects RX5 yX5_errorOf yX5_errorOf, Cond.code yX5_errorOf cX5_errorOf 2 (some .int)]
def wsX5_about : List Cond := .code yX5_about cX5_about 3 (some .int) :: ((wsX5_about_r1 ++ wsX5_about_r2) ++ wsX50 ++ wsX00 ++ wsX30)
def wsX5_pressed_r1 : List Cond := [Cond.fieldLink RX5 25 "TwoKeys" "board" "LTwoKeys$Board;", Cond.constant RX5 76 (-100001), Cond.constant RX5 65 (-100002), Cond.methodLink RX5 69 yX0_has, Cond.instanceMethod yX0_has, Cond.selects RX0 yX0_has yX0_has, Cond.initialized RX0, Cond.code yX0_has cX0_has 2 (some .boolean), Cond.fieldLink RX0 9 "TwoKeys$Board" "size" "I", Cond.methodLink RX5 61 yX5_within, Cond.static yX5_within, Cond.initialized RX5, Cond.code yX5_within cX5_within 3 (some .boolean), Cond.methodLink RX5 90 yX0_toneOf, Cond.instanceMethod yX0_toneOf, Cond.selects RX0 yX0_toneOf yX0_toneOf, Cond.code yX0_toneOf cX0_toneOf 2 (some .int), Cond.fieldLink RX0 22 "TwoKeys$Board" "bends" "[I", Cond.methodLink RX0 28 yX0_toneBent, Cond.instanceMethod yX0_toneBent, Cond.selects RX0 yX0_toneBent yX0_toneBent, Cond.code yX0_toneBent cX0_toneBent 4 (some .int), Cond.fieldLink RX0 19 "TwoKeys$Board" "lengths" "[I", Cond.fieldLink RX0 25 "TwoKeys$Board" "tensions" "[I"]
def wsX5_pressed_r2 : List Cond := [Cond.fieldLink RX0 15 "TwoKeys$Board" "struck" "[I"]
def wsX5_pressed : List Cond := .code yX5_pressed cX5_pressed 4 (some .int) :: ((wsX5_pressed_r1 ++ wsX5_pressed_r2) ++ wsX50 ++ wsX00)
def wsX5_sharers : List Cond := .code yX5_sharers cX5_sharers 2 (some .int) :: ([.constant RX5 76 (-100001), .fieldLink RX5 25 "TwoKeys" "board" "LTwoKeys$Board;", .methodLink RX5 73 yX5_isString, .static yX5_isString, .initialized RX5, .code yX5_isString cX5_isString 1 (some .boolean), .methodLink RX5 61 yX5_within, .static yX5_within, .code yX5_within cX5_within 3 (some .boolean), .methodLink RX5 100 yX0_strikersOf, .instanceMethod yX0_strikersOf, .selects RX0 yX0_strikersOf yX0_strikersOf, .initialized RX0, .code yX0_strikersOf cX0_strikersOf 4 (some .int), .fieldLink RX0 9 "TwoKeys$Board" "size" "I", .fieldLink RX0 15 "TwoKeys$Board" "struck" "[I"] ++ wsX50 ++ wsX00)
def wsX5_asNumber : List Cond := .code yX5_asNumber cX5_asNumber 1 (some .int) :: ([])
def wsX5_order_r1 : List Cond := [Cond.fieldLink RX5 25 "TwoKeys" "board" "LTwoKeys$Board;", Cond.methodLink RX5 103 yX0_isInOrder, Cond.instanceMethod yX0_isInOrder, Cond.selects RX0 yX0_isInOrder yX0_isInOrder, Cond.initialized RX0, Cond.code yX0_isInOrder cX0_isInOrder 3 (some .boolean), Cond.fieldLink RX0 9 "TwoKeys$Board" "size" "I", Cond.methodLink RX0 36 yX0_doShare, Cond.instanceMethod yX0_doShare, Cond.selects RX0 yX0_doShare yX0_doShare, Cond.code yX0_doShare cX0_doShare 3 (some .boolean), Cond.fieldLink RX0 15 "TwoKeys$Board" "struck" "[I", Cond.methodLink RX0 32 yX0_has, Cond.instanceMethod yX0_has, Cond.selects RX0 yX0_has yX0_has, Cond.code yX0_has cX0_has 2 (some .boolean), Cond.methodLink RX0 40 yX0_soundingLength, Cond.instanceMethod yX0_soundingLength, Cond.selects RX0 yX0_soundingLength yX0_soundingLength, Cond.code yX0_soundingLength cX0_soundingLength 2 (some .int), Cond.fieldLink RX0 19 "TwoKeys$Board" "lengths" "[I", Cond.fieldLink RX0 22 "TwoKeys$Board" "bends" "[I", Cond.methodLink RX5 107 yX5_asNumber, Cond.static yX5_asNumber]
def wsX5_order_r2 : List Cond := [Cond.initialized RX5, Cond.code yX5_asNumber cX5_asNumber 1 (some .int)]
def wsX5_order : List Cond := .code yX5_order cX5_order 1 (some .int) :: ((wsX5_order_r1 ++ wsX5_order_r2) ++ wsX50 ++ wsX00)
def wsX5_isScale : List Cond := .code yX5_isScale cX5_isScale 1 (some .boolean) :: ([.methodLink RX5 61 yX5_within, .static yX5_within, .initialized RX5, .code yX5_within cX5_within 3 (some .boolean)])
def wsX5_isStep : List Cond := .code yX5_isStep cX5_isStep 1 (some .boolean) :: ([.methodLink RX5 61 yX5_within, .static yX5_within, .initialized RX5, .code yX5_within cX5_within 3 (some .boolean)])
def wsX5_step : List Cond := .code yX5_step cX5_step 5 (some .int) :: ([.constant RX5 76 (-100001), .constant RX5 65 (-100002), .fieldLink RX5 32 "TwoKeys" "scales" "LTwoKeys$Scales;", .methodLink RX5 111 yX5_isScale, .static yX5_isScale, .initialized RX5, .code yX5_isScale cX5_isScale 1 (some .boolean), .methodLink RX5 61 yX5_within, .static yX5_within, .code yX5_within cX5_within 3 (some .boolean), .methodLink RX5 114 yX5_isStep, .static yX5_isStep, .code yX5_isStep cX5_isStep 1 (some .boolean), .methodLink RX5 117 yX3_put, .instanceMethod yX3_put, .selects RX3 yX3_put yX3_put, .initialized RX3, .code yX3_put cX3_put 5 none, .fieldLink RX3 9 "TwoKeys$Scales" "aboves" "[I", .fieldLink RX3 15 "TwoKeys$Scales" "belows" "[I"] ++ wsX50 ++ wsX30)
def wsX5_share : List Cond := .code yX5_share cX5_share 4 (some .int) :: ([.constant RX5 76 (-100001), .fieldLink RX5 32 "TwoKeys" "scales" "LTwoKeys$Scales;", .methodLink RX5 111 yX5_isScale, .static yX5_isScale, .initialized RX5, .code yX5_isScale cX5_isScale 1 (some .boolean), .methodLink RX5 61 yX5_within, .static yX5_within, .code yX5_within cX5_within 3 (some .boolean), .methodLink RX5 114 yX5_isStep, .static yX5_isStep, .code yX5_isStep cX5_isStep 1 (some .boolean), .methodLink RX5 121 yX3_partOf, .instanceMethod yX3_partOf, .selects RX3 yX3_partOf yX3_partOf, .initialized RX3, .code yX3_partOf cX3_partOf 5 (some .int), .fieldLink RX3 9 "TwoKeys$Scales" "aboves" "[I", .fieldLink RX3 15 "TwoKeys$Scales" "belows" "[I"] ++ wsX50 ++ wsX30)
def wsX5_use : List Cond := .code yX5_use cX5_use 3 (some .int) :: ([.constant RX5 76 (-100001), .fieldLink RX5 7 "TwoKeys" "scaleInUse" "I", .methodLink RX5 111 yX5_isScale, .static yX5_isScale, .initialized RX5, .code yX5_isScale cX5_isScale 1 (some .boolean), .methodLink RX5 61 yX5_within, .static yX5_within, .code yX5_within cX5_within 3 (some .boolean)] ++ wsX50)
def wsX5_isPitch : List Cond := .code yX5_isPitch cX5_isPitch 1 (some .boolean) :: ([.constant RX5 264 (200000), .methodLink RX5 61 yX5_within, .static yX5_within, .initialized RX5, .code yX5_within cX5_within 3 (some .boolean)])
def wsX5_pitch : List Cond := .code yX5_pitch cX5_pitch 3 (some .int) :: ([.constant RX5 65 (-100002), .fieldLink RX5 13 "TwoKeys" "pitchNow" "I", .methodLink RX5 125 yX5_isPitch, .static yX5_isPitch, .initialized RX5, .code yX5_isPitch cX5_isPitch 1 (some .boolean), .constant RX5 264 (200000), .methodLink RX5 61 yX5_within, .static yX5_within, .code yX5_within cX5_within 3 (some .boolean)] ++ wsX50)
def wsX5_allErrors_r1 : List Cond := [Cond.fieldLink RX5 25 "TwoKeys" "board" "LTwoKeys$Board;", Cond.fieldLink RX5 66 "TwoKeys$Board" "size" "I", Cond.methodLink RX5 136 Lib.Math.abs.name, Cond.static Lib.Math.abs.name, Cond.initialized "java/lang/Math", Cond.code Lib.Math.abs.name Lib.Math.abs.code 1 (some .int), Cond.methodLink RX5 97 yX5_errorOf, Cond.instanceMethod yX5_errorOf, Cond.selects RX5 yX5_errorOf yX5_errorOf, Cond.initialized RX5, Cond.code yX5_errorOf cX5_errorOf 2 (some .int), Cond.methodLink RX5 90 yX0_toneOf, Cond.instanceMethod yX0_toneOf, Cond.selects RX0 yX0_toneOf yX0_toneOf, Cond.initialized RX0, Cond.code yX0_toneOf cX0_toneOf 2 (some .int), Cond.fieldLink RX0 22 "TwoKeys$Board" "bends" "[I", Cond.methodLink RX0 28 yX0_toneBent, Cond.instanceMethod yX0_toneBent, Cond.selects RX0 yX0_toneBent yX0_toneBent, Cond.code yX0_toneBent cX0_toneBent 4 (some .int), Cond.fieldLink RX0 19 "TwoKeys$Board" "lengths" "[I", Cond.fieldLink RX0 25 "TwoKeys$Board" "tensions" "[I", Cond.fieldLink RX0 15 "TwoKeys$Board" "struck" "[I"]
def wsX5_allErrors_r2 : List Cond := [Cond.methodLink RX5 94 yX5_goalOf, Cond.instanceMethod yX5_goalOf, Cond.selects RX5 yX5_goalOf yX5_goalOf, Cond.code yX5_goalOf cX5_goalOf 2 (some .int), Cond.fieldLink RX5 32 "TwoKeys" "scales" "LTwoKeys$Scales;", Cond.fieldLink RX5 7 "TwoKeys" "scaleInUse" "I", Cond.fieldLink RX5 13 "TwoKeys" "pitchNow" "I", Cond.methodLink RX5 249 yX3_goalAt, Cond.instanceMethod yX3_goalAt, Cond.selects RX3 yX3_goalAt yX3_goalAt, Cond.initialized RX3, Cond.code yX3_goalAt cX3_goalAt 7 (some .int), Cond.fieldLink RX3 15 "TwoKeys$Scales" "belows" "[I", Cond.fieldLink RX3 9 "TwoKeys$Scales" "aboves" "[I"]
def wsX5_allErrors : List Cond := .code yX5_allErrors cX5_allErrors 3 (some .int) :: ((wsX5_allErrors_r1 ++ wsX5_allErrors_r2) ++ wsX50 ++ wsX00 ++ wsX30)
def wsX5_wrong_r1 : List Cond := [Cond.methodLink RX5 128 yX5_allErrors, Cond.instanceMethod yX5_allErrors, Cond.selects RX5 yX5_allErrors yX5_allErrors, Cond.initialized RX5, Cond.code yX5_allErrors cX5_allErrors 3 (some .int), Cond.fieldLink RX5 25 "TwoKeys" "board" "LTwoKeys$Board;", Cond.fieldLink RX5 66 "TwoKeys$Board" "size" "I", Cond.methodLink RX5 136 Lib.Math.abs.name, Cond.static Lib.Math.abs.name, Cond.initialized "java/lang/Math", Cond.code Lib.Math.abs.name Lib.Math.abs.code 1 (some .int), Cond.methodLink RX5 97 yX5_errorOf, Cond.instanceMethod yX5_errorOf, Cond.selects RX5 yX5_errorOf yX5_errorOf, Cond.code yX5_errorOf cX5_errorOf 2 (some .int), Cond.methodLink RX5 90 yX0_toneOf, Cond.instanceMethod yX0_toneOf, Cond.selects RX0 yX0_toneOf yX0_toneOf, Cond.initialized RX0, Cond.code yX0_toneOf cX0_toneOf 2 (some .int), Cond.fieldLink RX0 22 "TwoKeys$Board" "bends" "[I", Cond.methodLink RX0 28 yX0_toneBent, Cond.instanceMethod yX0_toneBent, Cond.selects RX0 yX0_toneBent yX0_toneBent]
def wsX5_wrong_r2 : List Cond := [Cond.code yX0_toneBent cX0_toneBent 4 (some .int), Cond.fieldLink RX0 19 "TwoKeys$Board" "lengths" "[I", Cond.fieldLink RX0 25 "TwoKeys$Board" "tensions" "[I", Cond.fieldLink RX0 15 "TwoKeys$Board" "struck" "[I", Cond.methodLink RX5 94 yX5_goalOf, Cond.instanceMethod yX5_goalOf, Cond.selects RX5 yX5_goalOf yX5_goalOf, Cond.code yX5_goalOf cX5_goalOf 2 (some .int), Cond.fieldLink RX5 32 "TwoKeys" "scales" "LTwoKeys$Scales;", Cond.fieldLink RX5 7 "TwoKeys" "scaleInUse" "I", Cond.fieldLink RX5 13 "TwoKeys" "pitchNow" "I", Cond.methodLink RX5 249 yX3_goalAt, Cond.instanceMethod yX3_goalAt, Cond.selects RX3 yX3_goalAt yX3_goalAt, Cond.initialized RX3, Cond.code yX3_goalAt cX3_goalAt 7 (some .int), Cond.fieldLink RX3 15 "TwoKeys$Scales" "belows" "[I", Cond.fieldLink RX3 9 "TwoKeys$Scales" "aboves" "[I"]
def wsX5_wrong : List Cond := .code yX5_wrong cX5_wrong 1 (some .int) :: ((wsX5_wrong_r1 ++ wsX5_wrong_r2) ++ wsX50 ++ wsX00 ++ wsX30)
def wsX5_tuneOne_r1 : List Cond := [Cond.fieldLink RX5 25 "TwoKeys" "board" "LTwoKeys$Board;", Cond.methodLink RX5 136 Lib.Math.abs.name, Cond.static Lib.Math.abs.name, Cond.initialized "java/lang/Math", Cond.code Lib.Math.abs.name Lib.Math.abs.code 1 (some .int), Cond.fieldLink RX5 84 "TwoKeys$Board" "bends" "[I", Cond.methodLink RX5 94 yX5_goalOf, Cond.instanceMethod yX5_goalOf, Cond.selects RX5 yX5_goalOf yX5_goalOf, Cond.initialized RX5, Cond.code yX5_goalOf cX5_goalOf 2 (some .int), Cond.fieldLink RX5 32 "TwoKeys" "scales" "LTwoKeys$Scales;", Cond.fieldLink RX5 7 "TwoKeys" "scaleInUse" "I", Cond.fieldLink RX5 13 "TwoKeys" "pitchNow" "I", Cond.methodLink RX5 249 yX3_goalAt, Cond.instanceMethod yX3_goalAt, Cond.selects RX3 yX3_goalAt yX3_goalAt, Cond.initialized RX3, Cond.code yX3_goalAt cX3_goalAt 7 (some .int), Cond.fieldLink RX3 15 "TwoKeys$Scales" "belows" "[I", Cond.fieldLink RX3 9 "TwoKeys$Scales" "aboves" "[I", Cond.methodLink RX5 252 yX0_toneBent, Cond.instanceMethod yX0_toneBent, Cond.selects RX0 yX0_toneBent yX0_toneBent]
def wsX5_tuneOne_r2 : List Cond := [Cond.initialized RX0, Cond.code yX0_toneBent cX0_toneBent 4 (some .int), Cond.fieldLink RX0 19 "TwoKeys$Board" "lengths" "[I", Cond.fieldLink RX0 25 "TwoKeys$Board" "tensions" "[I", Cond.fieldLink RX0 15 "TwoKeys$Board" "struck" "[I"]
def wsX5_tuneOne : List Cond := .code yX5_tuneOne cX5_tuneOne 8 none :: ((wsX5_tuneOne_r1 ++ wsX5_tuneOne_r2) ++ wsX50 ++ wsX00 ++ wsX30)
def wsX5_tune_r1 : List Cond := [Cond.fieldLink RX5 25 "TwoKeys" "board" "LTwoKeys$Board;", Cond.constant RX5 76 (-100001), Cond.methodLink RX5 69 yX0_has, Cond.instanceMethod yX0_has, Cond.selects RX0 yX0_has yX0_has, Cond.initialized RX0, Cond.code yX0_has cX0_has 2 (some .boolean), Cond.fieldLink RX0 9 "TwoKeys$Board" "size" "I", Cond.methodLink RX5 132 yX5_tuneOne, Cond.instanceMethod yX5_tuneOne, Cond.selects RX5 yX5_tuneOne yX5_tuneOne, Cond.initialized RX5, Cond.code yX5_tuneOne cX5_tuneOne 8 none, Cond.methodLink RX5 136 Lib.Math.abs.name, Cond.static Lib.Math.abs.name, Cond.initialized "java/lang/Math", Cond.code Lib.Math.abs.name Lib.Math.abs.code 1 (some .int), Cond.fieldLink RX5 84 "TwoKeys$Board" "bends" "[I", Cond.methodLink RX5 94 yX5_goalOf, Cond.instanceMethod yX5_goalOf, Cond.selects RX5 yX5_goalOf yX5_goalOf, Cond.code yX5_goalOf cX5_goalOf 2 (some .int), Cond.fieldLink RX5 32 "TwoKeys" "scales" "LTwoKeys$Scales;", Cond.fieldLink RX5 7 "TwoKeys" "scaleInUse" "I"]
def wsX5_tune_r2 : List Cond := [Cond.fieldLink RX5 13 "TwoKeys" "pitchNow" "I", Cond.methodLink RX5 249 yX3_goalAt, Cond.instanceMethod yX3_goalAt, Cond.selects RX3 yX3_goalAt yX3_goalAt, Cond.initialized RX3, Cond.code yX3_goalAt cX3_goalAt 7 (some .int), Cond.fieldLink RX3 15 "TwoKeys$Scales" "belows" "[I", Cond.fieldLink RX3 9 "TwoKeys$Scales" "aboves" "[I", Cond.methodLink RX5 252 yX0_toneBent, Cond.instanceMethod yX0_toneBent, Cond.selects RX0 yX0_toneBent yX0_toneBent, Cond.code yX0_toneBent cX0_toneBent 4 (some .int), Cond.fieldLink RX0 19 "TwoKeys$Board" "lengths" "[I", Cond.fieldLink RX0 25 "TwoKeys$Board" "tensions" "[I", Cond.fieldLink RX0 15 "TwoKeys$Board" "struck" "[I", Cond.methodLink RX5 97 yX5_errorOf, Cond.instanceMethod yX5_errorOf, Cond.selects RX5 yX5_errorOf yX5_errorOf, Cond.code yX5_errorOf cX5_errorOf 2 (some .int), Cond.methodLink RX5 90 yX0_toneOf, Cond.instanceMethod yX0_toneOf, Cond.selects RX0 yX0_toneOf yX0_toneOf, Cond.code yX0_toneOf cX0_toneOf 2 (some .int), Cond.fieldLink RX0 22 "TwoKeys$Board" "bends" "[I"]
def wsX5_tune_r3 : List Cond := [Cond.methodLink RX0 28 yX0_toneBent]
def wsX5_tune : List Cond := .code yX5_tune cX5_tune 2 (some .int) :: ((wsX5_tune_r1 ++ (wsX5_tune_r2 ++ wsX5_tune_r3)) ++ wsX50 ++ wsX00 ++ wsX30)
def wsX5_tuneAll_r1 : List Cond := [Cond.fieldLink RX5 25 "TwoKeys" "board" "LTwoKeys$Board;", Cond.fieldLink RX5 66 "TwoKeys$Board" "size" "I", Cond.methodLink RX5 132 yX5_tuneOne, Cond.instanceMethod yX5_tuneOne, Cond.selects RX5 yX5_tuneOne yX5_tuneOne, Cond.initialized RX5, Cond.code yX5_tuneOne cX5_tuneOne 8 none, Cond.methodLink RX5 136 Lib.Math.abs.name, Cond.static Lib.Math.abs.name, Cond.initialized "java/lang/Math", Cond.code Lib.Math.abs.name Lib.Math.abs.code 1 (some .int), Cond.fieldLink RX5 84 "TwoKeys$Board" "bends" "[I", Cond.methodLink RX5 94 yX5_goalOf, Cond.instanceMethod yX5_goalOf, Cond.selects RX5 yX5_goalOf yX5_goalOf, Cond.code yX5_goalOf cX5_goalOf 2 (some .int), Cond.fieldLink RX5 32 "TwoKeys" "scales" "LTwoKeys$Scales;", Cond.fieldLink RX5 7 "TwoKeys" "scaleInUse" "I", Cond.fieldLink RX5 13 "TwoKeys" "pitchNow" "I", Cond.methodLink RX5 249 yX3_goalAt, Cond.instanceMethod yX3_goalAt, Cond.selects RX3 yX3_goalAt yX3_goalAt, Cond.initialized RX3, Cond.code yX3_goalAt cX3_goalAt 7 (some .int)]
def wsX5_tuneAll_r2 : List Cond := [Cond.fieldLink RX3 15 "TwoKeys$Scales" "belows" "[I", Cond.fieldLink RX3 9 "TwoKeys$Scales" "aboves" "[I", Cond.methodLink RX5 252 yX0_toneBent, Cond.instanceMethod yX0_toneBent, Cond.selects RX0 yX0_toneBent yX0_toneBent, Cond.initialized RX0, Cond.code yX0_toneBent cX0_toneBent 4 (some .int), Cond.fieldLink RX0 19 "TwoKeys$Board" "lengths" "[I", Cond.fieldLink RX0 25 "TwoKeys$Board" "tensions" "[I", Cond.fieldLink RX0 15 "TwoKeys$Board" "struck" "[I", Cond.methodLink RX5 128 yX5_allErrors, Cond.instanceMethod yX5_allErrors, Cond.selects RX5 yX5_allErrors yX5_allErrors, Cond.code yX5_allErrors cX5_allErrors 3 (some .int), Cond.methodLink RX5 97 yX5_errorOf, Cond.instanceMethod yX5_errorOf, Cond.selects RX5 yX5_errorOf yX5_errorOf, Cond.code yX5_errorOf cX5_errorOf 2 (some .int), Cond.methodLink RX5 90 yX0_toneOf, Cond.instanceMethod yX0_toneOf, Cond.selects RX0 yX0_toneOf yX0_toneOf, Cond.code yX0_toneOf cX0_toneOf 2 (some .int), Cond.fieldLink RX0 22 "TwoKeys$Board" "bends" "[I", Cond.methodLink RX0 28 yX0_toneBent]
def wsX5_tuneAll : List Cond := .code yX5_tuneAll cX5_tuneAll 2 (some .int) :: ((wsX5_tuneAll_r1 ++ wsX5_tuneAll_r2) ++ wsX50 ++ wsX00 ++ wsX30)
def wsX5_worst_r1 : List Cond := [Cond.methodLink RX5 136 Lib.Math.abs.name, Cond.static Lib.Math.abs.name, Cond.initialized "java/lang/Math", Cond.code Lib.Math.abs.name Lib.Math.abs.code 1 (some .int), Cond.fieldLink RX5 25 "TwoKeys" "board" "LTwoKeys$Board;", Cond.fieldLink RX5 66 "TwoKeys$Board" "size" "I", Cond.methodLink RX5 97 yX5_errorOf, Cond.instanceMethod yX5_errorOf, Cond.selects RX5 yX5_errorOf yX5_errorOf, Cond.initialized RX5, Cond.code yX5_errorOf cX5_errorOf 2 (some .int), Cond.methodLink RX5 90 yX0_toneOf, Cond.instanceMethod yX0_toneOf, Cond.selects RX0 yX0_toneOf yX0_toneOf, Cond.initialized RX0, Cond.code yX0_toneOf cX0_toneOf 2 (some .int), Cond.fieldLink RX0 22 "TwoKeys$Board" "bends" "[I", Cond.methodLink RX0 28 yX0_toneBent, Cond.instanceMethod yX0_toneBent, Cond.selects RX0 yX0_toneBent yX0_toneBent, Cond.code yX0_toneBent cX0_toneBent 4 (some .int), Cond.fieldLink RX0 19 "TwoKeys$Board" "lengths" "[I", Cond.fieldLink RX0 25 "TwoKeys$Board" "tensions" "[I", Cond.fieldLink RX0 15 "TwoKeys$Board" "struck" "[I"]
def wsX5_worst_r2 : List Cond := [Cond.methodLink RX5 94 yX5_goalOf, Cond.instanceMethod yX5_goalOf, Cond.selects RX5 yX5_goalOf yX5_goalOf, Cond.code yX5_goalOf cX5_goalOf 2 (some .int), Cond.fieldLink RX5 32 "TwoKeys" "scales" "LTwoKeys$Scales;", Cond.fieldLink RX5 7 "TwoKeys" "scaleInUse" "I", Cond.fieldLink RX5 13 "TwoKeys" "pitchNow" "I", Cond.methodLink RX5 249 yX3_goalAt, Cond.instanceMethod yX3_goalAt, Cond.selects RX3 yX3_goalAt yX3_goalAt, Cond.initialized RX3, Cond.code yX3_goalAt cX3_goalAt 7 (some .int), Cond.fieldLink RX3 15 "TwoKeys$Scales" "belows" "[I", Cond.fieldLink RX3 9 "TwoKeys$Scales" "aboves" "[I"]
def wsX5_worst : List Cond := .code yX5_worst cX5_worst 5 (some .int) :: ((wsX5_worst_r1 ++ wsX5_worst_r2) ++ wsX50 ++ wsX00 ++ wsX30)
def wsX5_isPiece : List Cond := .code yX5_isPiece cX5_isPiece 1 (some .boolean) :: ([.methodLink RX5 61 yX5_within, .static yX5_within, .initialized RX5, .code yX5_within cX5_within 3 (some .boolean)])
def wsX5_note_r1 : List Cond := [Cond.constant RX5 76 (-100001), Cond.constant RX5 65 (-100002), Cond.fieldLink RX5 41 "TwoKeys" "music" "LTwoKeys$Music;", Cond.constant RX5 147 (-100003), Cond.constant RX5 151 (-100004), Cond.methodLink RX5 141 yX5_isPiece, Cond.static yX5_isPiece, Cond.initialized RX5, Cond.code yX5_isPiece cX5_isPiece 1 (some .boolean), Cond.methodLink RX5 61 yX5_within, Cond.static yX5_within, Cond.code yX5_within cX5_within 3 (some .boolean), Cond.methodLink RX5 144 yX1_lastBegin, Cond.instanceMethod yX1_lastBegin, Cond.selects RX1 yX1_lastBegin yX1_lastBegin, Cond.initialized RX1, Cond.code yX1_lastBegin cX1_lastBegin 2 (some .int), Cond.fieldLink RX1 21 "TwoKeys$Music" "sizes" "[I", Cond.fieldLink RX1 15 "TwoKeys$Music" "beginAt" "[I", Cond.methodLink RX1 28 yX1_endOf, Cond.instanceMethod yX1_endOf, Cond.selects RX1 yX1_endOf yX1_endOf, Cond.code yX1_endOf cX1_endOf 2 (some .int), Cond.methodLink RX5 148 yX1_isFull]
def wsX5_note_r2 : List Cond := [Cond.instanceMethod yX1_isFull, Cond.selects RX1 yX1_isFull yX1_isFull, Cond.code yX1_isFull cX1_isFull 2 (some .boolean), Cond.methodLink RX5 152 yX1_append, Cond.instanceMethod yX1_append, Cond.selects RX1 yX1_append yX1_append, Cond.code yX1_append cX1_append 6 (some .int), Cond.fieldLink RX1 9 "TwoKeys$Music" "keyAt" "[I", Cond.fieldLink RX1 18 "TwoKeys$Music" "lengthAt" "[I"]
def wsX5_note : List Cond := .code yX5_note cX5_note 5 (some .int) :: ((wsX5_note_r1 ++ wsX5_note_r2) ++ wsX50 ++ wsX10)
def wsX5_wipe : List Cond := .code yX5_wipe cX5_wipe 3 (some .int) :: ([.constant RX5 76 (-100001), .fieldLink RX5 41 "TwoKeys" "music" "LTwoKeys$Music;", .fieldLink RX5 156 "TwoKeys$Music" "sizes" "[I", .methodLink RX5 141 yX5_isPiece, .static yX5_isPiece, .initialized RX5, .code yX5_isPiece cX5_isPiece 1 (some .boolean), .methodLink RX5 61 yX5_within, .static yX5_within, .code yX5_within cX5_within 3 (some .boolean)] ++ wsX50 ++ wsX10)
def wsX5_rest : List Cond := .code yX5_rest cX5_rest 3 (some .int) :: ([.constant RX5 65 (-100002), .fieldLink RX5 16 "TwoKeys" "restNow" "I", .methodLink RX5 61 yX5_within, .static yX5_within, .initialized RX5, .code yX5_within cX5_within 3 (some .boolean)] ++ wsX50)
def wsX5_clashes_r1 : List Cond := [Cond.constant RX5 76 (-100001), Cond.fieldLink RX5 41 "TwoKeys" "music" "LTwoKeys$Music;", Cond.methodLink RX5 141 yX5_isPiece, Cond.static yX5_isPiece, Cond.initialized RX5, Cond.code yX5_isPiece cX5_isPiece 1 (some .boolean), Cond.methodLink RX5 61 yX5_within, Cond.static yX5_within, Cond.code yX5_within cX5_within 3 (some .boolean), Cond.methodLink RX5 159 yX1_countClashes, Cond.instanceMethod yX1_countClashes, Cond.selects RX1 yX1_countClashes yX1_countClashes, Cond.initialized RX1, Cond.code yX1_countClashes cX1_countClashes 5 (some .int), Cond.methodLink RX1 44 yX1_startOf, Cond.instanceMethod yX1_startOf, Cond.selects RX1 yX1_startOf yX1_startOf, Cond.code yX1_startOf cX1_startOf 2 (some .int), Cond.methodLink RX1 28 yX1_endOf, Cond.instanceMethod yX1_endOf, Cond.selects RX1 yX1_endOf yX1_endOf, Cond.code yX1_endOf cX1_endOf 2 (some .int), Cond.fieldLink RX1 21 "TwoKeys$Music" "sizes" "[I", Cond.methodLink RX1 47 yX1_doClash]
def wsX5_clashes_r2 : List Cond := [Cond.instanceMethod yX1_doClash, Cond.selects RX1 yX1_doClash yX1_doClash, Cond.code yX1_doClash cX1_doClash 3 (some .boolean), Cond.fieldLink RX1 24 "TwoKeys$Music" "board" "LTwoKeys$Board;", Cond.fieldLink RX1 9 "TwoKeys$Music" "keyAt" "[I", Cond.methodLink RX1 35 yX0_doShare, Cond.instanceMethod yX0_doShare, Cond.selects RX0 yX0_doShare yX0_doShare, Cond.initialized RX0, Cond.code yX0_doShare cX0_doShare 3 (some .boolean), Cond.fieldLink RX0 15 "TwoKeys$Board" "struck" "[I", Cond.methodLink RX0 32 yX0_has, Cond.instanceMethod yX0_has, Cond.selects RX0 yX0_has yX0_has, Cond.code yX0_has cX0_has 2 (some .boolean), Cond.fieldLink RX0 9 "TwoKeys$Board" "size" "I", Cond.methodLink RX1 41 yX1_soundAtOnce, Cond.instanceMethod yX1_soundAtOnce, Cond.selects RX1 yX1_soundAtOnce yX1_soundAtOnce, Cond.code yX1_soundAtOnce cX1_soundAtOnce 3 (some .boolean), Cond.fieldLink RX1 15 "TwoKeys$Music" "beginAt" "[I", Cond.methodLink RX1 32 yX1_tickBehind, Cond.instanceMethod yX1_tickBehind, Cond.selects RX1 yX1_tickBehind yX1_tickBehind]
def wsX5_clashes_r3 : List Cond := [Cond.code yX1_tickBehind cX1_tickBehind 2 (some .int), Cond.fieldLink RX1 18 "TwoKeys$Music" "lengthAt" "[I"]
def wsX5_clashes : List Cond := .code yX5_clashes cX5_clashes 2 (some .int) :: ((wsX5_clashes_r1 ++ (wsX5_clashes_r2 ++ wsX5_clashes_r3)) ++ wsX50 ++ wsX10 ++ wsX00)
def wsX5_clash_r1 : List Cond := [Cond.constant RX5 76 (-100001), Cond.fieldLink RX5 41 "TwoKeys" "music" "LTwoKeys$Music;", Cond.methodLink RX5 141 yX5_isPiece, Cond.static yX5_isPiece, Cond.initialized RX5, Cond.code yX5_isPiece cX5_isPiece 1 (some .boolean), Cond.methodLink RX5 61 yX5_within, Cond.static yX5_within, Cond.code yX5_within cX5_within 3 (some .boolean), Cond.methodLink RX5 162 yX1_clashNumbered, Cond.instanceMethod yX1_clashNumbered, Cond.selects RX1 yX1_clashNumbered yX1_clashNumbered, Cond.initialized RX1, Cond.code yX1_clashNumbered cX1_clashNumbered 7 (some .int), Cond.constant RX1 50 (-100009), Cond.methodLink RX1 44 yX1_startOf, Cond.instanceMethod yX1_startOf, Cond.selects RX1 yX1_startOf yX1_startOf, Cond.code yX1_startOf cX1_startOf 2 (some .int), Cond.methodLink RX1 28 yX1_endOf, Cond.instanceMethod yX1_endOf, Cond.selects RX1 yX1_endOf yX1_endOf, Cond.code yX1_endOf cX1_endOf 2 (some .int), Cond.fieldLink RX1 21 "TwoKeys$Music" "sizes" "[I"]
def wsX5_clash_r2 : List Cond := [Cond.methodLink RX1 47 yX1_doClash, Cond.instanceMethod yX1_doClash, Cond.selects RX1 yX1_doClash yX1_doClash, Cond.code yX1_doClash cX1_doClash 3 (some .boolean), Cond.fieldLink RX1 24 "TwoKeys$Music" "board" "LTwoKeys$Board;", Cond.fieldLink RX1 9 "TwoKeys$Music" "keyAt" "[I", Cond.methodLink RX1 35 yX0_doShare, Cond.instanceMethod yX0_doShare, Cond.selects RX0 yX0_doShare yX0_doShare, Cond.initialized RX0, Cond.code yX0_doShare cX0_doShare 3 (some .boolean), Cond.fieldLink RX0 15 "TwoKeys$Board" "struck" "[I", Cond.methodLink RX0 32 yX0_has, Cond.instanceMethod yX0_has, Cond.selects RX0 yX0_has yX0_has, Cond.code yX0_has cX0_has 2 (some .boolean), Cond.fieldLink RX0 9 "TwoKeys$Board" "size" "I", Cond.methodLink RX1 41 yX1_soundAtOnce, Cond.instanceMethod yX1_soundAtOnce, Cond.selects RX1 yX1_soundAtOnce yX1_soundAtOnce, Cond.code yX1_soundAtOnce cX1_soundAtOnce 3 (some .boolean), Cond.fieldLink RX1 15 "TwoKeys$Music" "beginAt" "[I", Cond.methodLink RX1 32 yX1_tickBehind, Cond.instanceMethod yX1_tickBehind]
def wsX5_clash_r3 : List Cond := [Cond.selects RX1 yX1_tickBehind yX1_tickBehind, Cond.code yX1_tickBehind cX1_tickBehind 2 (some .int), Cond.fieldLink RX1 18 "TwoKeys$Music" "lengthAt" "[I"]
def wsX5_clash : List Cond := .code yX5_clash cX5_clash 3 (some .int) :: ((wsX5_clash_r1 ++ (wsX5_clash_r2 ++ wsX5_clash_r3)) ++ wsX50 ++ wsX10 ++ wsX00)
def wsX5_chokes_r1 : List Cond := [Cond.constant RX5 76 (-100001), Cond.fieldLink RX5 41 "TwoKeys" "music" "LTwoKeys$Music;", Cond.fieldLink RX5 16 "TwoKeys" "restNow" "I", Cond.methodLink RX5 141 yX5_isPiece, Cond.static yX5_isPiece, Cond.initialized RX5, Cond.code yX5_isPiece cX5_isPiece 1 (some .boolean), Cond.methodLink RX5 61 yX5_within, Cond.static yX5_within, Cond.code yX5_within cX5_within 3 (some .boolean), Cond.methodLink RX5 166 yX1_countChokes, Cond.instanceMethod yX1_countChokes, Cond.selects RX1 yX1_countChokes yX1_countChokes, Cond.initialized RX1, Cond.code yX1_countChokes cX1_countChokes 7 (some .int), Cond.fieldLink RX1 15 "TwoKeys$Music" "beginAt" "[I", Cond.fieldLink RX1 24 "TwoKeys$Music" "board" "LTwoKeys$Board;", Cond.fieldLink RX1 9 "TwoKeys$Music" "keyAt" "[I", Cond.methodLink RX1 44 yX1_startOf, Cond.instanceMethod yX1_startOf, Cond.selects RX1 yX1_startOf yX1_startOf, Cond.code yX1_startOf cX1_startOf 2 (some .int), Cond.methodLink RX1 28 yX1_endOf, Cond.instanceMethod yX1_endOf]
def wsX5_chokes_r2 : List Cond := [Cond.selects RX1 yX1_endOf yX1_endOf, Cond.code yX1_endOf cX1_endOf 2 (some .int), Cond.fieldLink RX1 21 "TwoKeys$Music" "sizes" "[I", Cond.methodLink RX1 32 yX1_tickBehind, Cond.instanceMethod yX1_tickBehind, Cond.selects RX1 yX1_tickBehind yX1_tickBehind, Cond.code yX1_tickBehind cX1_tickBehind 2 (some .int), Cond.fieldLink RX1 18 "TwoKeys$Music" "lengthAt" "[I", Cond.methodLink RX1 35 yX0_doShare, Cond.instanceMethod yX0_doShare, Cond.selects RX0 yX0_doShare yX0_doShare, Cond.initialized RX0, Cond.code yX0_doShare cX0_doShare 3 (some .boolean), Cond.fieldLink RX0 15 "TwoKeys$Board" "struck" "[I", Cond.methodLink RX0 32 yX0_has, Cond.instanceMethod yX0_has, Cond.selects RX0 yX0_has yX0_has, Cond.code yX0_has cX0_has 2 (some .boolean), Cond.fieldLink RX0 9 "TwoKeys$Board" "size" "I"]
def wsX5_chokes : List Cond := .code yX5_chokes cX5_chokes 2 (some .int) :: ((wsX5_chokes_r1 ++ wsX5_chokes_r2) ++ wsX50 ++ wsX10 ++ wsX00)
def wsX5_trills_r1 : List Cond := [Cond.constant RX5 76 (-100001), Cond.fieldLink RX5 41 "TwoKeys" "music" "LTwoKeys$Music;", Cond.methodLink RX5 141 yX5_isPiece, Cond.static yX5_isPiece, Cond.initialized RX5, Cond.code yX5_isPiece cX5_isPiece 1 (some .boolean), Cond.methodLink RX5 61 yX5_within, Cond.static yX5_within, Cond.code yX5_within cX5_within 3 (some .boolean), Cond.methodLink RX5 169 yX1_countTrills, Cond.instanceMethod yX1_countTrills, Cond.selects RX1 yX1_countTrills yX1_countTrills, Cond.initialized RX1, Cond.code yX1_countTrills cX1_countTrills 6 (some .int), Cond.fieldLink RX1 24 "TwoKeys$Music" "board" "LTwoKeys$Board;", Cond.fieldLink RX1 9 "TwoKeys$Music" "keyAt" "[I", Cond.methodLink RX1 44 yX1_startOf, Cond.instanceMethod yX1_startOf, Cond.selects RX1 yX1_startOf yX1_startOf, Cond.code yX1_startOf cX1_startOf 2 (some .int), Cond.methodLink RX1 28 yX1_endOf, Cond.instanceMethod yX1_endOf, Cond.selects RX1 yX1_endOf yX1_endOf, Cond.code yX1_endOf cX1_endOf 2 (some .int)]
def wsX5_trills_r2 : List Cond := [Cond.fieldLink RX1 21 "TwoKeys$Music" "sizes" "[I", Cond.methodLink RX1 51 yX1_lastOfTrill, Cond.instanceMethod yX1_lastOfTrill, Cond.selects RX1 yX1_lastOfTrill yX1_lastOfTrill, Cond.code yX1_lastOfTrill cX1_lastOfTrill 5 (some .int), Cond.methodLink RX1 55 yX1_goesOn, Cond.instanceMethod yX1_goesOn, Cond.selects RX1 yX1_goesOn yX1_goesOn, Cond.code yX1_goesOn cX1_goesOn 3 (some .boolean), Cond.fieldLink RX1 15 "TwoKeys$Music" "beginAt" "[I", Cond.methodLink RX1 32 yX1_tickBehind, Cond.instanceMethod yX1_tickBehind, Cond.selects RX1 yX1_tickBehind yX1_tickBehind, Cond.code yX1_tickBehind cX1_tickBehind 2 (some .int), Cond.fieldLink RX1 18 "TwoKeys$Music" "lengthAt" "[I", Cond.methodLink RX1 35 yX0_doShare, Cond.instanceMethod yX0_doShare, Cond.selects RX0 yX0_doShare yX0_doShare, Cond.initialized RX0, Cond.code yX0_doShare cX0_doShare 3 (some .boolean), Cond.fieldLink RX0 15 "TwoKeys$Board" "struck" "[I", Cond.methodLink RX0 32 yX0_has, Cond.instanceMethod yX0_has, Cond.selects RX0 yX0_has yX0_has]
def wsX5_trills_r3 : List Cond := [Cond.code yX0_has cX0_has 2 (some .boolean), Cond.fieldLink RX0 9 "TwoKeys$Board" "size" "I"]
def wsX5_trills : List Cond := .code yX5_trills cX5_trills 3 (some .int) :: ((wsX5_trills_r1 ++ (wsX5_trills_r2 ++ wsX5_trills_r3)) ++ wsX50 ++ wsX10 ++ wsX00)
def wsX5_heard_r1 : List Cond := [Cond.constant RX5 76 (-100001), Cond.constant RX5 65 (-100002), Cond.fieldLink RX5 41 "TwoKeys" "music" "LTwoKeys$Music;", Cond.methodLink RX5 141 yX5_isPiece, Cond.static yX5_isPiece, Cond.initialized RX5, Cond.code yX5_isPiece cX5_isPiece 1 (some .boolean), Cond.methodLink RX5 61 yX5_within, Cond.static yX5_within, Cond.code yX5_within cX5_within 3 (some .boolean), Cond.methodLink RX5 73 yX5_isString, Cond.static yX5_isString, Cond.code yX5_isString cX5_isString 1 (some .boolean), Cond.methodLink RX5 173 yX1_keyHeard, Cond.instanceMethod yX1_keyHeard, Cond.selects RX1 yX1_keyHeard yX1_keyHeard, Cond.initialized RX1, Cond.code yX1_keyHeard cX1_keyHeard 7 (some .int), Cond.fieldLink RX1 9 "TwoKeys$Music" "keyAt" "[I", Cond.fieldLink RX1 24 "TwoKeys$Music" "board" "LTwoKeys$Board;", Cond.constant RX1 50 (-100009), Cond.methodLink RX1 44 yX1_startOf, Cond.instanceMethod yX1_startOf, Cond.selects RX1 yX1_startOf yX1_startOf]
def wsX5_heard_r2 : List Cond := [Cond.code yX1_startOf cX1_startOf 2 (some .int), Cond.methodLink RX1 28 yX1_endOf, Cond.instanceMethod yX1_endOf, Cond.selects RX1 yX1_endOf yX1_endOf, Cond.code yX1_endOf cX1_endOf 2 (some .int), Cond.fieldLink RX1 21 "TwoKeys$Music" "sizes" "[I", Cond.methodLink RX1 58 yX0_strikes, Cond.instanceMethod yX0_strikes, Cond.selects RX0 yX0_strikes yX0_strikes, Cond.initialized RX0, Cond.code yX0_strikes cX0_strikes 3 (some .boolean), Cond.fieldLink RX0 15 "TwoKeys$Board" "struck" "[I", Cond.methodLink RX0 32 yX0_has, Cond.instanceMethod yX0_has, Cond.selects RX0 yX0_has yX0_has, Cond.code yX0_has cX0_has 2 (some .boolean), Cond.fieldLink RX0 9 "TwoKeys$Board" "size" "I", Cond.methodLink RX1 61 yX1_soundsAt, Cond.instanceMethod yX1_soundsAt, Cond.selects RX1 yX1_soundsAt yX1_soundsAt, Cond.code yX1_soundsAt cX1_soundsAt 3 (some .boolean), Cond.fieldLink RX1 15 "TwoKeys$Music" "beginAt" "[I", Cond.methodLink RX1 32 yX1_tickBehind, Cond.instanceMethod yX1_tickBehind]
def wsX5_heard_r3 : List Cond := [Cond.selects RX1 yX1_tickBehind yX1_tickBehind, Cond.code yX1_tickBehind cX1_tickBehind 2 (some .int), Cond.fieldLink RX1 18 "TwoKeys$Music" "lengthAt" "[I", Cond.methodLink RX1 64 yX0_stopsNearer, Cond.instanceMethod yX0_stopsNearer, Cond.selects RX0 yX0_stopsNearer yX0_stopsNearer, Cond.code yX0_stopsNearer cX0_stopsNearer 5 (some .boolean), Cond.methodLink RX0 40 yX0_soundingLength, Cond.instanceMethod yX0_soundingLength, Cond.selects RX0 yX0_soundingLength yX0_soundingLength, Cond.code yX0_soundingLength cX0_soundingLength 2 (some .int), Cond.fieldLink RX0 19 "TwoKeys$Board" "lengths" "[I", Cond.fieldLink RX0 22 "TwoKeys$Board" "bends" "[I"]
def wsX5_heard : List Cond := .code yX5_heard cX5_heard 4 (some .int) :: ((wsX5_heard_r1 ++ (wsX5_heard_r2 ++ wsX5_heard_r3)) ++ wsX50 ++ wsX10 ++ wsX00)
def wsX5_lost_r1 : List Cond := [Cond.fieldLink RX5 25 "TwoKeys" "board" "LTwoKeys$Board;", Cond.constant RX5 76 (-100001), Cond.fieldLink RX5 41 "TwoKeys" "music" "LTwoKeys$Music;", Cond.methodLink RX5 141 yX5_isPiece, Cond.static yX5_isPiece, Cond.initialized RX5, Cond.code yX5_isPiece cX5_isPiece 1 (some .boolean), Cond.methodLink RX5 61 yX5_within, Cond.static yX5_within, Cond.code yX5_within cX5_within 3 (some .boolean), Cond.methodLink RX5 69 yX0_has, Cond.instanceMethod yX0_has, Cond.selects RX0 yX0_has yX0_has, Cond.initialized RX0, Cond.code yX0_has cX0_has 2 (some .boolean), Cond.fieldLink RX0 9 "TwoKeys$Board" "size" "I", Cond.methodLink RX5 177 yX1_ticksLost, Cond.instanceMethod yX1_ticksLost, Cond.selects RX1 yX1_ticksLost yX1_ticksLost, Cond.initialized RX1, Cond.code yX1_ticksLost cX1_ticksLost 8 (some .int), Cond.fieldLink RX1 24 "TwoKeys$Music" "board" "LTwoKeys$Board;", Cond.fieldLink RX1 67 "TwoKeys$Board" "struck" "[I", Cond.fieldLink RX1 9 "TwoKeys$Music" "keyAt" "[I"]
def wsX5_lost_r2 : List Cond := [Cond.fieldLink RX1 15 "TwoKeys$Music" "beginAt" "[I", Cond.methodLink RX1 70 Lib.Math.max.name, Cond.static Lib.Math.max.name, Cond.initialized "java/lang/Math", Cond.code Lib.Math.max.name Lib.Math.max.code 2 (some .int), Cond.methodLink RX1 44 yX1_startOf, Cond.instanceMethod yX1_startOf, Cond.selects RX1 yX1_startOf yX1_startOf, Cond.code yX1_startOf cX1_startOf 2 (some .int), Cond.methodLink RX1 28 yX1_endOf, Cond.instanceMethod yX1_endOf, Cond.selects RX1 yX1_endOf yX1_endOf, Cond.code yX1_endOf cX1_endOf 2 (some .int), Cond.fieldLink RX1 21 "TwoKeys$Music" "sizes" "[I", Cond.methodLink RX1 32 yX1_tickBehind, Cond.instanceMethod yX1_tickBehind, Cond.selects RX1 yX1_tickBehind yX1_tickBehind, Cond.code yX1_tickBehind cX1_tickBehind 2 (some .int), Cond.fieldLink RX1 18 "TwoKeys$Music" "lengthAt" "[I", Cond.methodLink RX1 75 yX1_keyHeard, Cond.instanceMethod yX1_keyHeard, Cond.selects RX1 yX1_keyHeard yX1_keyHeard, Cond.code yX1_keyHeard cX1_keyHeard 7 (some .int), Cond.constant RX1 50 (-100009)]
def wsX5_lost_r3 : List Cond := [Cond.methodLink RX1 58 yX0_strikes, Cond.instanceMethod yX0_strikes, Cond.selects RX0 yX0_strikes yX0_strikes, Cond.code yX0_strikes cX0_strikes 3 (some .boolean), Cond.fieldLink RX0 15 "TwoKeys$Board" "struck" "[I", Cond.methodLink RX0 32 yX0_has, Cond.methodLink RX1 61 yX1_soundsAt, Cond.instanceMethod yX1_soundsAt, Cond.selects RX1 yX1_soundsAt yX1_soundsAt, Cond.code yX1_soundsAt cX1_soundsAt 3 (some .boolean), Cond.methodLink RX1 64 yX0_stopsNearer, Cond.instanceMethod yX0_stopsNearer, Cond.selects RX0 yX0_stopsNearer yX0_stopsNearer, Cond.code yX0_stopsNearer cX0_stopsNearer 5 (some .boolean), Cond.methodLink RX0 40 yX0_soundingLength, Cond.instanceMethod yX0_soundingLength, Cond.selects RX0 yX0_soundingLength yX0_soundingLength, Cond.code yX0_soundingLength cX0_soundingLength 2 (some .int), Cond.fieldLink RX0 19 "TwoKeys$Board" "lengths" "[I", Cond.fieldLink RX0 22 "TwoKeys$Board" "bends" "[I"]
def wsX5_lost : List Cond := .code yX5_lost cX5_lost 3 (some .int) :: ((wsX5_lost_r1 ++ (wsX5_lost_r2 ++ wsX5_lost_r3)) ++ wsX50 ++ wsX00 ++ wsX10)
def wsX5_passes_r1 : List Cond := [Cond.constant RX5 76 (-100001), Cond.fieldLink RX5 41 "TwoKeys" "music" "LTwoKeys$Music;", Cond.methodLink RX5 141 yX5_isPiece, Cond.static yX5_isPiece, Cond.initialized RX5, Cond.code yX5_isPiece cX5_isPiece 1 (some .boolean), Cond.methodLink RX5 61 yX5_within, Cond.static yX5_within, Cond.code yX5_within cX5_within 3 (some .boolean), Cond.methodLink RX5 180 yX1_allKeysThere, Cond.instanceMethod yX1_allKeysThere, Cond.selects RX1 yX1_allKeysThere yX1_allKeysThere, Cond.initialized RX1, Cond.code yX1_allKeysThere cX1_allKeysThere 3 (some .boolean), Cond.fieldLink RX1 24 "TwoKeys$Music" "board" "LTwoKeys$Board;", Cond.fieldLink RX1 9 "TwoKeys$Music" "keyAt" "[I", Cond.methodLink RX1 44 yX1_startOf, Cond.instanceMethod yX1_startOf, Cond.selects RX1 yX1_startOf yX1_startOf, Cond.code yX1_startOf cX1_startOf 2 (some .int), Cond.methodLink RX1 28 yX1_endOf, Cond.instanceMethod yX1_endOf, Cond.selects RX1 yX1_endOf yX1_endOf, Cond.code yX1_endOf cX1_endOf 2 (some .int)]
def wsX5_passes_r2 : List Cond := [Cond.fieldLink RX1 21 "TwoKeys$Music" "sizes" "[I", Cond.methodLink RX1 79 yX0_has, Cond.instanceMethod yX0_has, Cond.selects RX0 yX0_has yX0_has, Cond.initialized RX0, Cond.code yX0_has cX0_has 2 (some .boolean), Cond.fieldLink RX0 9 "TwoKeys$Board" "size" "I", Cond.methodLink RX5 159 yX1_countClashes, Cond.instanceMethod yX1_countClashes, Cond.selects RX1 yX1_countClashes yX1_countClashes, Cond.code yX1_countClashes cX1_countClashes 5 (some .int), Cond.methodLink RX1 47 yX1_doClash, Cond.instanceMethod yX1_doClash, Cond.selects RX1 yX1_doClash yX1_doClash, Cond.code yX1_doClash cX1_doClash 3 (some .boolean), Cond.methodLink RX1 35 yX0_doShare, Cond.instanceMethod yX0_doShare, Cond.selects RX0 yX0_doShare yX0_doShare, Cond.code yX0_doShare cX0_doShare 3 (some .boolean), Cond.fieldLink RX0 15 "TwoKeys$Board" "struck" "[I", Cond.methodLink RX0 32 yX0_has, Cond.methodLink RX1 41 yX1_soundAtOnce, Cond.instanceMethod yX1_soundAtOnce, Cond.selects RX1 yX1_soundAtOnce yX1_soundAtOnce]
def wsX5_passes_r3 : List Cond := [Cond.code yX1_soundAtOnce cX1_soundAtOnce 3 (some .boolean), Cond.fieldLink RX1 15 "TwoKeys$Music" "beginAt" "[I", Cond.methodLink RX1 32 yX1_tickBehind, Cond.instanceMethod yX1_tickBehind, Cond.selects RX1 yX1_tickBehind yX1_tickBehind, Cond.code yX1_tickBehind cX1_tickBehind 2 (some .int), Cond.fieldLink RX1 18 "TwoKeys$Music" "lengthAt" "[I", Cond.methodLink RX5 107 yX5_asNumber, Cond.static yX5_asNumber, Cond.code yX5_asNumber cX5_asNumber 1 (some .int)]
def wsX5_passes : List Cond := .code yX5_passes cX5_passes 2 (some .int) :: ((wsX5_passes_r1 ++ (wsX5_passes_r2 ++ wsX5_passes_r3)) ++ wsX50 ++ wsX10 ++ wsX00)
def wsX5_book : List Cond := .code yX5_book cX5_book 3 (some .int) :: ([.constant RX5 65 (-100002), .fieldLink RX5 19 "TwoKeys" "bookNow" "I", .methodLink RX5 61 yX5_within, .static yX5_within, .initialized RX5, .code yX5_within cX5_within 3 (some .boolean)] ++ wsX50)
def wsX5_together_r1 : List Cond := [Cond.fieldLink RX5 25 "TwoKeys" "board" "LTwoKeys$Board;", Cond.constant RX5 76 (-100001), Cond.constant RX5 65 (-100002), Cond.fieldLink RX5 48 "TwoKeys" "sharing" "LTwoKeys$Sharing;", Cond.fieldLink RX5 41 "TwoKeys" "music" "LTwoKeys$Music;", Cond.fieldLink RX5 19 "TwoKeys" "bookNow" "I", Cond.methodLink RX5 69 yX0_has, Cond.instanceMethod yX0_has, Cond.selects RX0 yX0_has yX0_has, Cond.initialized RX0, Cond.code yX0_has cX0_has 2 (some .boolean), Cond.fieldLink RX0 9 "TwoKeys$Board" "size" "I", Cond.methodLink RX5 183 yX4_gather, Cond.instanceMethod yX4_gather, Cond.selects RX4 yX4_gather yX4_gather, Cond.initialized RX4, Cond.code yX4_gather cX4_gather 4 none, Cond.fieldLink RX4 9 "TwoKeys$Sharing" "pairs" "[I", Cond.methodLink RX4 28 yX4_gatherPiece, Cond.instanceMethod yX4_gatherPiece, Cond.selects RX4 yX4_gatherPiece yX4_gatherPiece, Cond.code yX4_gatherPiece cX4_gatherPiece 5 none, Cond.fieldLink RX4 45 "TwoKeys$Music" "keyAt" "[I", Cond.methodLink RX4 32 yX1_startOf]
def wsX5_together_r2 : List Cond := [Cond.instanceMethod yX1_startOf, Cond.selects RX1 yX1_startOf yX1_startOf, Cond.initialized RX1, Cond.code yX1_startOf cX1_startOf 2 (some .int), Cond.methodLink RX4 38 yX1_endOf, Cond.instanceMethod yX1_endOf, Cond.selects RX1 yX1_endOf yX1_endOf, Cond.code yX1_endOf cX1_endOf 2 (some .int), Cond.fieldLink RX1 21 "TwoKeys$Music" "sizes" "[I", Cond.methodLink RX4 41 yX1_soundAtOnce, Cond.instanceMethod yX1_soundAtOnce, Cond.selects RX1 yX1_soundAtOnce yX1_soundAtOnce, Cond.code yX1_soundAtOnce cX1_soundAtOnce 3 (some .boolean), Cond.fieldLink RX1 15 "TwoKeys$Music" "beginAt" "[I", Cond.methodLink RX1 32 yX1_tickBehind, Cond.instanceMethod yX1_tickBehind, Cond.selects RX1 yX1_tickBehind yX1_tickBehind, Cond.code yX1_tickBehind cX1_tickBehind 2 (some .int), Cond.fieldLink RX1 18 "TwoKeys$Music" "lengthAt" "[I", Cond.methodLink RX4 48 yX4_addPair, Cond.instanceMethod yX4_addPair, Cond.selects RX4 yX4_addPair yX4_addPair, Cond.code yX4_addPair cX4_addPair 3 none, Cond.methodLink RX4 52 Lib.Math.min.name]
def wsX5_together_r3 : List Cond := [Cond.static Lib.Math.min.name, Cond.initialized "java/lang/Math", Cond.code Lib.Math.min.name Lib.Math.min.code 2 (some .int), Cond.methodLink RX4 58 Lib.Math.max.name, Cond.static Lib.Math.max.name, Cond.code Lib.Math.max.name Lib.Math.max.code 2 (some .int), Cond.methodLink RX5 187 yX4_clashesOf, Cond.instanceMethod yX4_clashesOf, Cond.selects RX4 yX4_clashesOf yX4_clashesOf, Cond.code yX4_clashesOf cX4_clashesOf 5 (some .int), Cond.methodLink RX4 61 yX4_clashesBelow, Cond.instanceMethod yX4_clashesBelow, Cond.selects RX4 yX4_clashesBelow yX4_clashesBelow, Cond.code yX4_clashesBelow cX4_clashesBelow 5 (some .int)]
def wsX5_together : List Cond := .code yX5_together cX5_together 3 (some .int) :: ((wsX5_together_r1 ++ (wsX5_together_r2 ++ wsX5_together_r3)) ++ wsX50 ++ wsX00 ++ wsX40 ++ wsX10)
def wsX5_isMost : List Cond := .code yX5_isMost cX5_isMost 1 (some .boolean) :: ([.methodLink RX5 61 yX5_within, .static yX5_within, .initialized RX5, .code yX5_within cX5_within 3 (some .boolean)])
def wsX5_findStrings_r1 : List Cond := [Cond.fieldLink RX5 48 "TwoKeys" "sharing" "LTwoKeys$Sharing;", Cond.fieldLink RX5 41 "TwoKeys" "music" "LTwoKeys$Music;", Cond.fieldLink RX5 19 "TwoKeys" "bookNow" "I", Cond.fieldLink RX5 25 "TwoKeys" "board" "LTwoKeys$Board;", Cond.fieldLink RX5 66 "TwoKeys$Board" "size" "I", Cond.methodLink RX5 183 yX4_gather, Cond.instanceMethod yX4_gather, Cond.selects RX4 yX4_gather yX4_gather, Cond.initialized RX4, Cond.code yX4_gather cX4_gather 4 none, Cond.fieldLink RX4 9 "TwoKeys$Sharing" "pairs" "[I", Cond.methodLink RX4 28 yX4_gatherPiece, Cond.instanceMethod yX4_gatherPiece, Cond.selects RX4 yX4_gatherPiece yX4_gatherPiece, Cond.code yX4_gatherPiece cX4_gatherPiece 5 none, Cond.fieldLink RX4 45 "TwoKeys$Music" "keyAt" "[I", Cond.methodLink RX4 32 yX1_startOf, Cond.instanceMethod yX1_startOf, Cond.selects RX1 yX1_startOf yX1_startOf, Cond.initialized RX1, Cond.code yX1_startOf cX1_startOf 2 (some .int), Cond.methodLink RX4 38 yX1_endOf, Cond.instanceMethod yX1_endOf, Cond.selects RX1 yX1_endOf yX1_endOf]
def wsX5_findStrings_r2 : List Cond := [Cond.code yX1_endOf cX1_endOf 2 (some .int), Cond.fieldLink RX1 21 "TwoKeys$Music" "sizes" "[I", Cond.methodLink RX4 41 yX1_soundAtOnce, Cond.instanceMethod yX1_soundAtOnce, Cond.selects RX1 yX1_soundAtOnce yX1_soundAtOnce, Cond.code yX1_soundAtOnce cX1_soundAtOnce 3 (some .boolean), Cond.fieldLink RX1 15 "TwoKeys$Music" "beginAt" "[I", Cond.methodLink RX1 32 yX1_tickBehind, Cond.instanceMethod yX1_tickBehind, Cond.selects RX1 yX1_tickBehind yX1_tickBehind, Cond.code yX1_tickBehind cX1_tickBehind 2 (some .int), Cond.fieldLink RX1 18 "TwoKeys$Music" "lengthAt" "[I", Cond.methodLink RX4 48 yX4_addPair, Cond.instanceMethod yX4_addPair, Cond.selects RX4 yX4_addPair yX4_addPair, Cond.code yX4_addPair cX4_addPair 3 none, Cond.methodLink RX4 52 Lib.Math.min.name, Cond.static Lib.Math.min.name, Cond.initialized "java/lang/Math", Cond.code Lib.Math.min.name Lib.Math.min.code 2 (some .int), Cond.methodLink RX4 58 Lib.Math.max.name, Cond.static Lib.Math.max.name, Cond.code Lib.Math.max.name Lib.Math.max.code 2 (some .int), Cond.methodLink RX5 255 yX4_solve]
def wsX5_findStrings_r3 : List Cond := [Cond.instanceMethod yX4_solve, Cond.selects RX4 yX4_solve yX4_solve, Cond.code yX4_solve cX4_solve 5 none, Cond.fieldLink RX4 21 "TwoKeys$Sharing" "size" "I", Cond.fieldLink RX4 25 "TwoKeys$Sharing" "most" "I", Cond.fieldLink RX4 15 "TwoKeys$Sharing" "leasts" "[I", Cond.constant RX4 64 (1000000), Cond.methodLink RX4 65 yX4_leastFrom, Cond.instanceMethod yX4_leastFrom, Cond.selects RX4 yX4_leastFrom yX4_leastFrom, Cond.code yX4_leastFrom cX4_leastFrom 6 (some .int), Cond.methodLink RX4 61 yX4_clashesBelow, Cond.instanceMethod yX4_clashesBelow, Cond.selects RX4 yX4_clashesBelow yX4_clashesBelow, Cond.code yX4_clashesBelow cX4_clashesBelow 5 (some .int), Cond.methodLink RX5 258 yX4_fewestStrings, Cond.instanceMethod yX4_fewestStrings, Cond.selects RX4 yX4_fewestStrings yX4_fewestStrings, Cond.code yX4_fewestStrings cX4_fewestStrings 2 (some .int), Cond.methodLink RX4 68 yX4_leastWith, Cond.instanceMethod yX4_leastWith, Cond.selects RX4 yX4_leastWith yX4_leastWith, Cond.code yX4_leastWith cX4_leastWith 2 (some .int), Cond.methodLink RX5 261 yX4_bestStrings]
def wsX5_findStrings_r4 : List Cond := [Cond.instanceMethod yX4_bestStrings, Cond.selects RX4 yX4_bestStrings yX4_bestStrings, Cond.code yX4_bestStrings cX4_bestStrings 5 (some .int), Cond.constant RX4 71 (-100009)]
def wsX5_findStrings : List Cond := .code yX5_findStrings cX5_findStrings 3 (some .int) :: ((wsX5_findStrings_r1 ++ (wsX5_findStrings_r2 ++ (wsX5_findStrings_r3 ++ wsX5_findStrings_r4))) ++ wsX50 ++ wsX00 ++ wsX40 ++ wsX10)
def wsX5_fewest_r1 : List Cond := [Cond.constant RX5 65 (-100002), Cond.methodLink RX5 190 yX5_isMost, Cond.static yX5_isMost, Cond.initialized RX5, Cond.code yX5_isMost cX5_isMost 1 (some .boolean), Cond.methodLink RX5 61 yX5_within, Cond.static yX5_within, Cond.code yX5_within cX5_within 3 (some .boolean), Cond.methodLink RX5 193 yX5_findStrings, Cond.instanceMethod yX5_findStrings, Cond.selects RX5 yX5_findStrings yX5_findStrings, Cond.code yX5_findStrings cX5_findStrings 3 (some .int), Cond.fieldLink RX5 48 "TwoKeys" "sharing" "LTwoKeys$Sharing;", Cond.fieldLink RX5 41 "TwoKeys" "music" "LTwoKeys$Music;", Cond.fieldLink RX5 19 "TwoKeys" "bookNow" "I", Cond.fieldLink RX5 25 "TwoKeys" "board" "LTwoKeys$Board;", Cond.fieldLink RX5 66 "TwoKeys$Board" "size" "I", Cond.methodLink RX5 183 yX4_gather, Cond.instanceMethod yX4_gather, Cond.selects RX4 yX4_gather yX4_gather, Cond.initialized RX4, Cond.code yX4_gather cX4_gather 4 none, Cond.fieldLink RX4 9 "TwoKeys$Sharing" "pairs" "[I", Cond.methodLink RX4 28 yX4_gatherPiece]
def wsX5_fewest_r2 : List Cond := [Cond.instanceMethod yX4_gatherPiece, Cond.selects RX4 yX4_gatherPiece yX4_gatherPiece, Cond.code yX4_gatherPiece cX4_gatherPiece 5 none, Cond.fieldLink RX4 45 "TwoKeys$Music" "keyAt" "[I", Cond.methodLink RX4 32 yX1_startOf, Cond.instanceMethod yX1_startOf, Cond.selects RX1 yX1_startOf yX1_startOf, Cond.initialized RX1, Cond.code yX1_startOf cX1_startOf 2 (some .int), Cond.methodLink RX4 38 yX1_endOf, Cond.instanceMethod yX1_endOf, Cond.selects RX1 yX1_endOf yX1_endOf, Cond.code yX1_endOf cX1_endOf 2 (some .int), Cond.fieldLink RX1 21 "TwoKeys$Music" "sizes" "[I", Cond.methodLink RX4 41 yX1_soundAtOnce, Cond.instanceMethod yX1_soundAtOnce, Cond.selects RX1 yX1_soundAtOnce yX1_soundAtOnce, Cond.code yX1_soundAtOnce cX1_soundAtOnce 3 (some .boolean), Cond.fieldLink RX1 15 "TwoKeys$Music" "beginAt" "[I", Cond.methodLink RX1 32 yX1_tickBehind, Cond.instanceMethod yX1_tickBehind, Cond.selects RX1 yX1_tickBehind yX1_tickBehind, Cond.code yX1_tickBehind cX1_tickBehind 2 (some .int), Cond.fieldLink RX1 18 "TwoKeys$Music" "lengthAt" "[I"]
def wsX5_fewest_r3 : List Cond := [Cond.methodLink RX4 48 yX4_addPair, Cond.instanceMethod yX4_addPair, Cond.selects RX4 yX4_addPair yX4_addPair, Cond.code yX4_addPair cX4_addPair 3 none, Cond.methodLink RX4 52 Lib.Math.min.name, Cond.static Lib.Math.min.name, Cond.initialized "java/lang/Math", Cond.code Lib.Math.min.name Lib.Math.min.code 2 (some .int), Cond.methodLink RX4 58 Lib.Math.max.name, Cond.static Lib.Math.max.name, Cond.code Lib.Math.max.name Lib.Math.max.code 2 (some .int), Cond.methodLink RX5 255 yX4_solve, Cond.instanceMethod yX4_solve, Cond.selects RX4 yX4_solve yX4_solve, Cond.code yX4_solve cX4_solve 5 none, Cond.fieldLink RX4 21 "TwoKeys$Sharing" "size" "I", Cond.fieldLink RX4 25 "TwoKeys$Sharing" "most" "I", Cond.fieldLink RX4 15 "TwoKeys$Sharing" "leasts" "[I", Cond.constant RX4 64 (1000000), Cond.methodLink RX4 65 yX4_leastFrom, Cond.instanceMethod yX4_leastFrom, Cond.selects RX4 yX4_leastFrom yX4_leastFrom, Cond.code yX4_leastFrom cX4_leastFrom 6 (some .int), Cond.methodLink RX4 61 yX4_clashesBelow]
def wsX5_fewest_r4 : List Cond := [Cond.instanceMethod yX4_clashesBelow, Cond.selects RX4 yX4_clashesBelow yX4_clashesBelow, Cond.code yX4_clashesBelow cX4_clashesBelow 5 (some .int), Cond.methodLink RX5 258 yX4_fewestStrings, Cond.instanceMethod yX4_fewestStrings, Cond.selects RX4 yX4_fewestStrings yX4_fewestStrings, Cond.code yX4_fewestStrings cX4_fewestStrings 2 (some .int), Cond.methodLink RX4 68 yX4_leastWith, Cond.instanceMethod yX4_leastWith, Cond.selects RX4 yX4_leastWith yX4_leastWith, Cond.code yX4_leastWith cX4_leastWith 2 (some .int), Cond.methodLink RX5 261 yX4_bestStrings, Cond.instanceMethod yX4_bestStrings, Cond.selects RX4 yX4_bestStrings yX4_bestStrings, Cond.code yX4_bestStrings cX4_bestStrings 5 (some .int), Cond.constant RX4 71 (-100009)]
def wsX5_fewest : List Cond := .code yX5_fewest cX5_fewest 2 (some .int) :: ((wsX5_fewest_r1 ++ (wsX5_fewest_r2 ++ (wsX5_fewest_r3 ++ wsX5_fewest_r4))) ++ wsX50 ++ wsX00 ++ wsX40 ++ wsX10)
def wsX5_least_r1 : List Cond := [Cond.constant RX5 65 (-100002), Cond.constant RX5 196 (-100009), Cond.fieldLink RX5 48 "TwoKeys" "sharing" "LTwoKeys$Sharing;", Cond.methodLink RX5 190 yX5_isMost, Cond.static yX5_isMost, Cond.initialized RX5, Cond.code yX5_isMost cX5_isMost 1 (some .boolean), Cond.methodLink RX5 61 yX5_within, Cond.static yX5_within, Cond.code yX5_within cX5_within 3 (some .boolean), Cond.methodLink RX5 193 yX5_findStrings, Cond.instanceMethod yX5_findStrings, Cond.selects RX5 yX5_findStrings yX5_findStrings, Cond.code yX5_findStrings cX5_findStrings 3 (some .int), Cond.fieldLink RX5 41 "TwoKeys" "music" "LTwoKeys$Music;", Cond.fieldLink RX5 19 "TwoKeys" "bookNow" "I", Cond.fieldLink RX5 25 "TwoKeys" "board" "LTwoKeys$Board;", Cond.fieldLink RX5 66 "TwoKeys$Board" "size" "I", Cond.methodLink RX5 183 yX4_gather, Cond.instanceMethod yX4_gather, Cond.selects RX4 yX4_gather yX4_gather, Cond.initialized RX4, Cond.code yX4_gather cX4_gather 4 none, Cond.fieldLink RX4 9 "TwoKeys$Sharing" "pairs" "[I"]
def wsX5_least_r2 : List Cond := [Cond.methodLink RX4 28 yX4_gatherPiece, Cond.instanceMethod yX4_gatherPiece, Cond.selects RX4 yX4_gatherPiece yX4_gatherPiece, Cond.code yX4_gatherPiece cX4_gatherPiece 5 none, Cond.fieldLink RX4 45 "TwoKeys$Music" "keyAt" "[I", Cond.methodLink RX4 32 yX1_startOf, Cond.instanceMethod yX1_startOf, Cond.selects RX1 yX1_startOf yX1_startOf, Cond.initialized RX1, Cond.code yX1_startOf cX1_startOf 2 (some .int), Cond.methodLink RX4 38 yX1_endOf, Cond.instanceMethod yX1_endOf, Cond.selects RX1 yX1_endOf yX1_endOf, Cond.code yX1_endOf cX1_endOf 2 (some .int), Cond.fieldLink RX1 21 "TwoKeys$Music" "sizes" "[I", Cond.methodLink RX4 41 yX1_soundAtOnce, Cond.instanceMethod yX1_soundAtOnce, Cond.selects RX1 yX1_soundAtOnce yX1_soundAtOnce, Cond.code yX1_soundAtOnce cX1_soundAtOnce 3 (some .boolean), Cond.fieldLink RX1 15 "TwoKeys$Music" "beginAt" "[I", Cond.methodLink RX1 32 yX1_tickBehind, Cond.instanceMethod yX1_tickBehind, Cond.selects RX1 yX1_tickBehind yX1_tickBehind, Cond.code yX1_tickBehind cX1_tickBehind 2 (some .int)]
def wsX5_least_r3 : List Cond := [Cond.fieldLink RX1 18 "TwoKeys$Music" "lengthAt" "[I", Cond.methodLink RX4 48 yX4_addPair, Cond.instanceMethod yX4_addPair, Cond.selects RX4 yX4_addPair yX4_addPair, Cond.code yX4_addPair cX4_addPair 3 none, Cond.methodLink RX4 52 Lib.Math.min.name, Cond.static Lib.Math.min.name, Cond.initialized "java/lang/Math", Cond.code Lib.Math.min.name Lib.Math.min.code 2 (some .int), Cond.methodLink RX4 58 Lib.Math.max.name, Cond.static Lib.Math.max.name, Cond.code Lib.Math.max.name Lib.Math.max.code 2 (some .int), Cond.methodLink RX5 255 yX4_solve, Cond.instanceMethod yX4_solve, Cond.selects RX4 yX4_solve yX4_solve, Cond.code yX4_solve cX4_solve 5 none, Cond.fieldLink RX4 21 "TwoKeys$Sharing" "size" "I", Cond.fieldLink RX4 25 "TwoKeys$Sharing" "most" "I", Cond.fieldLink RX4 15 "TwoKeys$Sharing" "leasts" "[I", Cond.constant RX4 64 (1000000), Cond.methodLink RX4 65 yX4_leastFrom, Cond.instanceMethod yX4_leastFrom, Cond.selects RX4 yX4_leastFrom yX4_leastFrom, Cond.code yX4_leastFrom cX4_leastFrom 6 (some .int)]
def wsX5_least_r4 : List Cond := [Cond.methodLink RX4 61 yX4_clashesBelow, Cond.instanceMethod yX4_clashesBelow, Cond.selects RX4 yX4_clashesBelow yX4_clashesBelow, Cond.code yX4_clashesBelow cX4_clashesBelow 5 (some .int), Cond.methodLink RX5 258 yX4_fewestStrings, Cond.instanceMethod yX4_fewestStrings, Cond.selects RX4 yX4_fewestStrings yX4_fewestStrings, Cond.code yX4_fewestStrings cX4_fewestStrings 2 (some .int), Cond.methodLink RX4 68 yX4_leastWith, Cond.instanceMethod yX4_leastWith, Cond.selects RX4 yX4_leastWith yX4_leastWith, Cond.code yX4_leastWith cX4_leastWith 2 (some .int), Cond.methodLink RX5 261 yX4_bestStrings, Cond.instanceMethod yX4_bestStrings, Cond.selects RX4 yX4_bestStrings yX4_bestStrings, Cond.code yX4_bestStrings cX4_bestStrings 5 (some .int), Cond.constant RX4 71 (-100009), Cond.methodLink RX5 197 yX4_leastWith]
def wsX5_least : List Cond := .code yX5_least cX5_least 4 (some .int) :: ((wsX5_least_r1 ++ (wsX5_least_r2 ++ (wsX5_least_r3 ++ wsX5_least_r4))) ++ wsX50 ++ wsX00 ++ wsX40 ++ wsX10)
def wsX5_group_r1 : List Cond := [Cond.fieldLink RX5 25 "TwoKeys" "board" "LTwoKeys$Board;", Cond.constant RX5 76 (-100001), Cond.constant RX5 65 (-100002), Cond.constant RX5 196 (-100009), Cond.fieldLink RX5 48 "TwoKeys" "sharing" "LTwoKeys$Sharing;", Cond.fieldLink RX5 203 "TwoKeys$Sharing" "groupOf" "[I", Cond.methodLink RX5 69 yX0_has, Cond.instanceMethod yX0_has, Cond.selects RX0 yX0_has yX0_has, Cond.initialized RX0, Cond.code yX0_has cX0_has 2 (some .boolean), Cond.fieldLink RX0 9 "TwoKeys$Board" "size" "I", Cond.methodLink RX5 190 yX5_isMost, Cond.static yX5_isMost, Cond.initialized RX5, Cond.code yX5_isMost cX5_isMost 1 (some .boolean), Cond.methodLink RX5 61 yX5_within, Cond.static yX5_within, Cond.code yX5_within cX5_within 3 (some .boolean), Cond.methodLink RX5 193 yX5_findStrings, Cond.instanceMethod yX5_findStrings, Cond.selects RX5 yX5_findStrings yX5_findStrings, Cond.code yX5_findStrings cX5_findStrings 3 (some .int), Cond.fieldLink RX5 41 "TwoKeys" "music" "LTwoKeys$Music;"]
def wsX5_group_r2 : List Cond := [Cond.fieldLink RX5 19 "TwoKeys" "bookNow" "I", Cond.fieldLink RX5 66 "TwoKeys$Board" "size" "I", Cond.methodLink RX5 183 yX4_gather, Cond.instanceMethod yX4_gather, Cond.selects RX4 yX4_gather yX4_gather, Cond.initialized RX4, Cond.code yX4_gather cX4_gather 4 none, Cond.fieldLink RX4 9 "TwoKeys$Sharing" "pairs" "[I", Cond.methodLink RX4 28 yX4_gatherPiece, Cond.instanceMethod yX4_gatherPiece, Cond.selects RX4 yX4_gatherPiece yX4_gatherPiece, Cond.code yX4_gatherPiece cX4_gatherPiece 5 none, Cond.fieldLink RX4 45 "TwoKeys$Music" "keyAt" "[I", Cond.methodLink RX4 32 yX1_startOf, Cond.instanceMethod yX1_startOf, Cond.selects RX1 yX1_startOf yX1_startOf, Cond.initialized RX1, Cond.code yX1_startOf cX1_startOf 2 (some .int), Cond.methodLink RX4 38 yX1_endOf, Cond.instanceMethod yX1_endOf, Cond.selects RX1 yX1_endOf yX1_endOf, Cond.code yX1_endOf cX1_endOf 2 (some .int), Cond.fieldLink RX1 21 "TwoKeys$Music" "sizes" "[I", Cond.methodLink RX4 41 yX1_soundAtOnce]
def wsX5_group_r3 : List Cond := [Cond.instanceMethod yX1_soundAtOnce, Cond.selects RX1 yX1_soundAtOnce yX1_soundAtOnce, Cond.code yX1_soundAtOnce cX1_soundAtOnce 3 (some .boolean), Cond.fieldLink RX1 15 "TwoKeys$Music" "beginAt" "[I", Cond.methodLink RX1 32 yX1_tickBehind, Cond.instanceMethod yX1_tickBehind, Cond.selects RX1 yX1_tickBehind yX1_tickBehind, Cond.code yX1_tickBehind cX1_tickBehind 2 (some .int), Cond.fieldLink RX1 18 "TwoKeys$Music" "lengthAt" "[I", Cond.methodLink RX4 48 yX4_addPair, Cond.instanceMethod yX4_addPair, Cond.selects RX4 yX4_addPair yX4_addPair, Cond.code yX4_addPair cX4_addPair 3 none, Cond.methodLink RX4 52 Lib.Math.min.name, Cond.static Lib.Math.min.name, Cond.initialized "java/lang/Math", Cond.code Lib.Math.min.name Lib.Math.min.code 2 (some .int), Cond.methodLink RX4 58 Lib.Math.max.name, Cond.static Lib.Math.max.name, Cond.code Lib.Math.max.name Lib.Math.max.code 2 (some .int), Cond.methodLink RX5 255 yX4_solve, Cond.instanceMethod yX4_solve, Cond.selects RX4 yX4_solve yX4_solve, Cond.code yX4_solve cX4_solve 5 none]
def wsX5_group_r4 : List Cond := [Cond.fieldLink RX4 21 "TwoKeys$Sharing" "size" "I", Cond.fieldLink RX4 25 "TwoKeys$Sharing" "most" "I", Cond.fieldLink RX4 15 "TwoKeys$Sharing" "leasts" "[I", Cond.constant RX4 64 (1000000), Cond.methodLink RX4 65 yX4_leastFrom, Cond.instanceMethod yX4_leastFrom, Cond.selects RX4 yX4_leastFrom yX4_leastFrom, Cond.code yX4_leastFrom cX4_leastFrom 6 (some .int), Cond.methodLink RX4 61 yX4_clashesBelow, Cond.instanceMethod yX4_clashesBelow, Cond.selects RX4 yX4_clashesBelow yX4_clashesBelow, Cond.code yX4_clashesBelow cX4_clashesBelow 5 (some .int), Cond.methodLink RX5 258 yX4_fewestStrings, Cond.instanceMethod yX4_fewestStrings, Cond.selects RX4 yX4_fewestStrings yX4_fewestStrings, Cond.code yX4_fewestStrings cX4_fewestStrings 2 (some .int), Cond.methodLink RX4 68 yX4_leastWith, Cond.instanceMethod yX4_leastWith, Cond.selects RX4 yX4_leastWith yX4_leastWith, Cond.code yX4_leastWith cX4_leastWith 2 (some .int), Cond.methodLink RX5 261 yX4_bestStrings, Cond.instanceMethod yX4_bestStrings, Cond.selects RX4 yX4_bestStrings yX4_bestStrings, Cond.code yX4_bestStrings cX4_bestStrings 5 (some .int)]
def wsX5_group_r5 : List Cond := [Cond.constant RX4 71 (-100009), Cond.methodLink RX5 200 yX4_layOut, Cond.instanceMethod yX4_layOut, Cond.selects RX4 yX4_layOut yX4_layOut, Cond.code yX4_layOut cX4_layOut 6 none, Cond.fieldLink RX4 18 "TwoKeys$Sharing" "groupOf" "[I", Cond.methodLink RX4 72 yX4_greatestGroupEnd, Cond.instanceMethod yX4_greatestGroupEnd, Cond.selects RX4 yX4_greatestGroupEnd yX4_greatestGroupEnd, Cond.code yX4_greatestGroupEnd cX4_greatestGroupEnd 7 (some .int)]
def wsX5_group : List Cond := .code yX5_group cX5_group 5 (some .int) :: ((wsX5_group_r1 ++ (wsX5_group_r2 ++ (wsX5_group_r3 ++ (wsX5_group_r4 ++ wsX5_group_r5)))) ++ wsX50 ++ wsX40 ++ wsX00 ++ wsX10)
def wsX5_setUp_r1 : List Cond := [Cond.constant RX5 65 (-100002), Cond.constant RX5 196 (-100009), Cond.fieldLink RX5 48 "TwoKeys" "sharing" "LTwoKeys$Sharing;", Cond.fieldLink RX5 25 "TwoKeys" "board" "LTwoKeys$Board;", Cond.fieldLink RX5 66 "TwoKeys$Board" "size" "I", Cond.fieldLink RX5 77 "TwoKeys$Board" "struck" "[I", Cond.fieldLink RX5 203 "TwoKeys$Sharing" "groupOf" "[I", Cond.methodLink RX5 190 yX5_isMost, Cond.static yX5_isMost, Cond.initialized RX5, Cond.code yX5_isMost cX5_isMost 1 (some .boolean), Cond.methodLink RX5 61 yX5_within, Cond.static yX5_within, Cond.code yX5_within cX5_within 3 (some .boolean), Cond.methodLink RX5 193 yX5_findStrings, Cond.instanceMethod yX5_findStrings, Cond.selects RX5 yX5_findStrings yX5_findStrings, Cond.code yX5_findStrings cX5_findStrings 3 (some .int), Cond.fieldLink RX5 41 "TwoKeys" "music" "LTwoKeys$Music;", Cond.fieldLink RX5 19 "TwoKeys" "bookNow" "I", Cond.methodLink RX5 183 yX4_gather, Cond.instanceMethod yX4_gather, Cond.selects RX4 yX4_gather yX4_gather, Cond.initialized RX4]
def wsX5_setUp_r2 : List Cond := [Cond.code yX4_gather cX4_gather 4 none, Cond.fieldLink RX4 9 "TwoKeys$Sharing" "pairs" "[I", Cond.methodLink RX4 28 yX4_gatherPiece, Cond.instanceMethod yX4_gatherPiece, Cond.selects RX4 yX4_gatherPiece yX4_gatherPiece, Cond.code yX4_gatherPiece cX4_gatherPiece 5 none, Cond.fieldLink RX4 45 "TwoKeys$Music" "keyAt" "[I", Cond.methodLink RX4 32 yX1_startOf, Cond.instanceMethod yX1_startOf, Cond.selects RX1 yX1_startOf yX1_startOf, Cond.initialized RX1, Cond.code yX1_startOf cX1_startOf 2 (some .int), Cond.methodLink RX4 38 yX1_endOf, Cond.instanceMethod yX1_endOf, Cond.selects RX1 yX1_endOf yX1_endOf, Cond.code yX1_endOf cX1_endOf 2 (some .int), Cond.fieldLink RX1 21 "TwoKeys$Music" "sizes" "[I", Cond.methodLink RX4 41 yX1_soundAtOnce, Cond.instanceMethod yX1_soundAtOnce, Cond.selects RX1 yX1_soundAtOnce yX1_soundAtOnce, Cond.code yX1_soundAtOnce cX1_soundAtOnce 3 (some .boolean), Cond.fieldLink RX1 15 "TwoKeys$Music" "beginAt" "[I", Cond.methodLink RX1 32 yX1_tickBehind, Cond.instanceMethod yX1_tickBehind]
def wsX5_setUp_r3 : List Cond := [Cond.selects RX1 yX1_tickBehind yX1_tickBehind, Cond.code yX1_tickBehind cX1_tickBehind 2 (some .int), Cond.fieldLink RX1 18 "TwoKeys$Music" "lengthAt" "[I", Cond.methodLink RX4 48 yX4_addPair, Cond.instanceMethod yX4_addPair, Cond.selects RX4 yX4_addPair yX4_addPair, Cond.code yX4_addPair cX4_addPair 3 none, Cond.methodLink RX4 52 Lib.Math.min.name, Cond.static Lib.Math.min.name, Cond.initialized "java/lang/Math", Cond.code Lib.Math.min.name Lib.Math.min.code 2 (some .int), Cond.methodLink RX4 58 Lib.Math.max.name, Cond.static Lib.Math.max.name, Cond.code Lib.Math.max.name Lib.Math.max.code 2 (some .int), Cond.methodLink RX5 255 yX4_solve, Cond.instanceMethod yX4_solve, Cond.selects RX4 yX4_solve yX4_solve, Cond.code yX4_solve cX4_solve 5 none, Cond.fieldLink RX4 21 "TwoKeys$Sharing" "size" "I", Cond.fieldLink RX4 25 "TwoKeys$Sharing" "most" "I", Cond.fieldLink RX4 15 "TwoKeys$Sharing" "leasts" "[I", Cond.constant RX4 64 (1000000), Cond.methodLink RX4 65 yX4_leastFrom, Cond.instanceMethod yX4_leastFrom]
def wsX5_setUp_r4 : List Cond := [Cond.selects RX4 yX4_leastFrom yX4_leastFrom, Cond.code yX4_leastFrom cX4_leastFrom 6 (some .int), Cond.methodLink RX4 61 yX4_clashesBelow, Cond.instanceMethod yX4_clashesBelow, Cond.selects RX4 yX4_clashesBelow yX4_clashesBelow, Cond.code yX4_clashesBelow cX4_clashesBelow 5 (some .int), Cond.methodLink RX5 258 yX4_fewestStrings, Cond.instanceMethod yX4_fewestStrings, Cond.selects RX4 yX4_fewestStrings yX4_fewestStrings, Cond.code yX4_fewestStrings cX4_fewestStrings 2 (some .int), Cond.methodLink RX4 68 yX4_leastWith, Cond.instanceMethod yX4_leastWith, Cond.selects RX4 yX4_leastWith yX4_leastWith, Cond.code yX4_leastWith cX4_leastWith 2 (some .int), Cond.methodLink RX5 261 yX4_bestStrings, Cond.instanceMethod yX4_bestStrings, Cond.selects RX4 yX4_bestStrings yX4_bestStrings, Cond.code yX4_bestStrings cX4_bestStrings 5 (some .int), Cond.constant RX4 71 (-100009), Cond.methodLink RX5 200 yX4_layOut, Cond.instanceMethod yX4_layOut, Cond.selects RX4 yX4_layOut yX4_layOut, Cond.code yX4_layOut cX4_layOut 6 none, Cond.fieldLink RX4 18 "TwoKeys$Sharing" "groupOf" "[I"]
def wsX5_setUp_r5 : List Cond := [Cond.methodLink RX4 72 yX4_greatestGroupEnd, Cond.instanceMethod yX4_greatestGroupEnd, Cond.selects RX4 yX4_greatestGroupEnd yX4_greatestGroupEnd, Cond.code yX4_greatestGroupEnd cX4_greatestGroupEnd 7 (some .int)]
def wsX5_setUp : List Cond := .code yX5_setUp cX5_setUp 5 (some .int) :: ((wsX5_setUp_r1 ++ (wsX5_setUp_r2 ++ (wsX5_setUp_r3 ++ (wsX5_setUp_r4 ++ wsX5_setUp_r5)))) ++ wsX50 ++ wsX00 ++ wsX40 ++ wsX10)
def wsX5_measure : List Cond := .code yX5_measure cX5_measure 4 (some .int) :: ([.fieldLink RX5 25 "TwoKeys" "board" "LTwoKeys$Board;", .constant RX5 76 (-100001), .constant RX5 196 (-100009), .constant RX5 206 (400000), .constant RX5 65 (-100002), .fieldLink RX5 57 "TwoKeys" "oldOne" "LTwoKeys$OldOne;", .fieldLink RX5 207 "TwoKeys$OldOne" "measured" "[I", .methodLink RX5 69 yX0_has, .instanceMethod yX0_has, .selects RX0 yX0_has yX0_has, .initialized RX0, .code yX0_has cX0_has 2 (some .boolean), .fieldLink RX0 9 "TwoKeys$Board" "size" "I", .methodLink RX5 61 yX5_within, .static yX5_within, .initialized RX5, .code yX5_within cX5_within 3 (some .boolean)] ++ wsX50 ++ wsX20 ++ wsX00)
def wsX5_misfit_r1 : List Cond := [Cond.constant RX5 76 (-100001), Cond.constant RX5 65 (-100002), Cond.fieldLink RX5 57 "TwoKeys" "oldOne" "LTwoKeys$OldOne;", Cond.methodLink RX5 111 yX5_isScale, Cond.static yX5_isScale, Cond.initialized RX5, Cond.code yX5_isScale cX5_isScale 1 (some .boolean), Cond.methodLink RX5 61 yX5_within, Cond.static yX5_within, Cond.code yX5_within cX5_within 3 (some .boolean), Cond.methodLink RX5 125 yX5_isPitch, Cond.static yX5_isPitch, Cond.code yX5_isPitch cX5_isPitch 1 (some .boolean), Cond.constant RX5 264 (200000), Cond.methodLink RX5 210 yX2_misfitAt, Cond.instanceMethod yX2_misfitAt, Cond.selects RX2 yX2_misfitAt yX2_misfitAt, Cond.initialized RX2, Cond.code yX2_misfitAt cX2_misfitAt 6 (some .int), Cond.fieldLink RX2 22 "TwoKeys$OldOne" "board" "LTwoKeys$Board;", Cond.fieldLink RX2 31 "TwoKeys$Board" "size" "I", Cond.fieldLink RX2 9 "TwoKeys$OldOne" "measured" "[I", Cond.constant RX2 30 (-100009), Cond.fieldLink RX2 26 "TwoKeys$OldOne" "scales" "LTwoKeys$Scales;"]
def wsX5_misfit_r2 : List Cond := [Cond.methodLink RX2 42 Lib.Math.abs.name, Cond.static Lib.Math.abs.name, Cond.initialized "java/lang/Math", Cond.code Lib.Math.abs.name Lib.Math.abs.code 1 (some .int), Cond.methodLink RX2 36 yX3_goalAt, Cond.instanceMethod yX3_goalAt, Cond.selects RX3 yX3_goalAt yX3_goalAt, Cond.initialized RX3, Cond.code yX3_goalAt cX3_goalAt 7 (some .int), Cond.fieldLink RX3 15 "TwoKeys$Scales" "belows" "[I", Cond.fieldLink RX3 9 "TwoKeys$Scales" "aboves" "[I"]
def wsX5_misfit : List Cond := .code yX5_misfit cX5_misfit 3 (some .int) :: ((wsX5_misfit_r1 ++ wsX5_misfit_r2) ++ wsX50 ++ wsX20 ++ wsX00 ++ wsX30)
def wsX5_found_r1 : List Cond := [Cond.constant RX5 76 (-100001), Cond.constant RX5 65 (-100002), Cond.fieldLink RX5 57 "TwoKeys" "oldOne" "LTwoKeys$OldOne;", Cond.constant RX5 147 (-100003), Cond.fieldLink RX5 220 "TwoKeys$OldOne" "pitchFound" "I", Cond.fieldLink RX5 223 "TwoKeys$OldOne" "misfitFound" "I", Cond.methodLink RX5 111 yX5_isScale, Cond.static yX5_isScale, Cond.initialized RX5, Cond.code yX5_isScale cX5_isScale 1 (some .boolean), Cond.methodLink RX5 61 yX5_within, Cond.static yX5_within, Cond.code yX5_within cX5_within 3 (some .boolean), Cond.methodLink RX5 213 yX2_countMeasured, Cond.instanceMethod yX2_countMeasured, Cond.selects RX2 yX2_countMeasured yX2_countMeasured, Cond.initialized RX2, Cond.code yX2_countMeasured cX2_countMeasured 3 (some .int), Cond.fieldLink RX2 22 "TwoKeys$OldOne" "board" "LTwoKeys$Board;", Cond.fieldLink RX2 31 "TwoKeys$Board" "size" "I", Cond.fieldLink RX2 9 "TwoKeys$OldOne" "measured" "[I", Cond.constant RX2 30 (-100009), Cond.methodLink RX5 216 yX2_seek, Cond.instanceMethod yX2_seek]
def wsX5_found_r2 : List Cond := [Cond.selects RX2 yX2_seek yX2_seek, Cond.code yX2_seek cX2_seek 8 none, Cond.constant RX2 55 (200000), Cond.fieldLink RX2 15 "TwoKeys$OldOne" "pitchFound" "I", Cond.fieldLink RX2 19 "TwoKeys$OldOne" "misfitFound" "I", Cond.methodLink RX2 48 yX2_likelyPitch, Cond.instanceMethod yX2_likelyPitch, Cond.selects RX2 yX2_likelyPitch yX2_likelyPitch, Cond.code yX2_likelyPitch cX2_likelyPitch 9 (some .int), Cond.methodLink RX2 52 yX2_misfitAt, Cond.instanceMethod yX2_misfitAt, Cond.selects RX2 yX2_misfitAt yX2_misfitAt, Cond.code yX2_misfitAt cX2_misfitAt 6 (some .int), Cond.fieldLink RX2 26 "TwoKeys$OldOne" "scales" "LTwoKeys$Scales;", Cond.methodLink RX2 42 Lib.Math.abs.name, Cond.static Lib.Math.abs.name, Cond.initialized "java/lang/Math", Cond.code Lib.Math.abs.name Lib.Math.abs.code 1 (some .int), Cond.methodLink RX2 36 yX3_goalAt, Cond.instanceMethod yX3_goalAt, Cond.selects RX3 yX3_goalAt yX3_goalAt, Cond.initialized RX3, Cond.code yX3_goalAt cX3_goalAt 7 (some .int), Cond.fieldLink RX3 15 "TwoKeys$Scales" "belows" "[I"]
def wsX5_found_r3 : List Cond := [Cond.fieldLink RX3 9 "TwoKeys$Scales" "aboves" "[I"]
def wsX5_found : List Cond := .code yX5_found cX5_found 3 (some .int) :: ((wsX5_found_r1 ++ (wsX5_found_r2 ++ wsX5_found_r3)) ++ wsX50 ++ wsX20 ++ wsX00 ++ wsX30)
def wsX5_meant_r1 : List Cond := [Cond.fieldLink RX5 57 "TwoKeys" "oldOne" "LTwoKeys$OldOne;", Cond.constant RX5 147 (-100003), Cond.methodLink RX5 213 yX2_countMeasured, Cond.instanceMethod yX2_countMeasured, Cond.selects RX2 yX2_countMeasured yX2_countMeasured, Cond.initialized RX2, Cond.code yX2_countMeasured cX2_countMeasured 3 (some .int), Cond.fieldLink RX2 22 "TwoKeys$OldOne" "board" "LTwoKeys$Board;", Cond.fieldLink RX2 31 "TwoKeys$Board" "size" "I", Cond.fieldLink RX2 9 "TwoKeys$OldOne" "measured" "[I", Cond.constant RX2 30 (-100009), Cond.methodLink RX5 226 yX2_scaleMeant, Cond.instanceMethod yX2_scaleMeant, Cond.selects RX2 yX2_scaleMeant yX2_scaleMeant, Cond.code yX2_scaleMeant cX2_scaleMeant 5 (some .int), Cond.fieldLink RX2 19 "TwoKeys$OldOne" "misfitFound" "I", Cond.fieldLink RX2 15 "TwoKeys$OldOne" "pitchFound" "I", Cond.methodLink RX2 56 yX2_seek, Cond.instanceMethod yX2_seek, Cond.selects RX2 yX2_seek yX2_seek, Cond.code yX2_seek cX2_seek 8 none, Cond.constant RX2 55 (200000), Cond.methodLink RX2 48 yX2_likelyPitch, Cond.instanceMethod yX2_likelyPitch]
def wsX5_meant_r2 : List Cond := [Cond.selects RX2 yX2_likelyPitch yX2_likelyPitch, Cond.code yX2_likelyPitch cX2_likelyPitch 9 (some .int), Cond.methodLink RX2 52 yX2_misfitAt, Cond.instanceMethod yX2_misfitAt, Cond.selects RX2 yX2_misfitAt yX2_misfitAt, Cond.code yX2_misfitAt cX2_misfitAt 6 (some .int), Cond.fieldLink RX2 26 "TwoKeys$OldOne" "scales" "LTwoKeys$Scales;", Cond.methodLink RX2 42 Lib.Math.abs.name, Cond.static Lib.Math.abs.name, Cond.initialized "java/lang/Math", Cond.code Lib.Math.abs.name Lib.Math.abs.code 1 (some .int), Cond.methodLink RX2 36 yX3_goalAt, Cond.instanceMethod yX3_goalAt, Cond.selects RX3 yX3_goalAt yX3_goalAt, Cond.initialized RX3, Cond.code yX3_goalAt cX3_goalAt 7 (some .int), Cond.fieldLink RX3 15 "TwoKeys$Scales" "belows" "[I", Cond.fieldLink RX3 9 "TwoKeys$Scales" "aboves" "[I"]
def wsX5_meant : List Cond := .code yX5_meant cX5_meant 1 (some .int) :: ((wsX5_meant_r1 ++ wsX5_meant_r2) ++ wsX50 ++ wsX20 ++ wsX00 ++ wsX30)
def wsX5_added_r1 : List Cond := [Cond.constant RX5 65 (-100002), Cond.fieldLink RX5 57 "TwoKeys" "oldOne" "LTwoKeys$OldOne;", Cond.constant RX5 147 (-100003), Cond.fieldLink RX5 223 "TwoKeys$OldOne" "misfitFound" "I", Cond.methodLink RX5 61 yX5_within, Cond.static yX5_within, Cond.initialized RX5, Cond.code yX5_within cX5_within 3 (some .boolean), Cond.methodLink RX5 213 yX2_countMeasured, Cond.instanceMethod yX2_countMeasured, Cond.selects RX2 yX2_countMeasured yX2_countMeasured, Cond.initialized RX2, Cond.code yX2_countMeasured cX2_countMeasured 3 (some .int), Cond.fieldLink RX2 22 "TwoKeys$OldOne" "board" "LTwoKeys$Board;", Cond.fieldLink RX2 31 "TwoKeys$Board" "size" "I", Cond.fieldLink RX2 9 "TwoKeys$OldOne" "measured" "[I", Cond.constant RX2 30 (-100009), Cond.methodLink RX5 229 yX2_keyAdded, Cond.instanceMethod yX2_keyAdded, Cond.selects RX2 yX2_keyAdded yX2_keyAdded, Cond.code yX2_keyAdded cX2_keyAdded 5 (some .int), Cond.fieldLink RX2 19 "TwoKeys$OldOne" "misfitFound" "I", Cond.methodLink RX2 60 yX2_scaleMeant, Cond.instanceMethod yX2_scaleMeant]
def wsX5_added_r2 : List Cond := [Cond.selects RX2 yX2_scaleMeant yX2_scaleMeant, Cond.code yX2_scaleMeant cX2_scaleMeant 5 (some .int), Cond.fieldLink RX2 15 "TwoKeys$OldOne" "pitchFound" "I", Cond.methodLink RX2 56 yX2_seek, Cond.instanceMethod yX2_seek, Cond.selects RX2 yX2_seek yX2_seek, Cond.code yX2_seek cX2_seek 8 none, Cond.constant RX2 55 (200000), Cond.methodLink RX2 48 yX2_likelyPitch, Cond.instanceMethod yX2_likelyPitch, Cond.selects RX2 yX2_likelyPitch yX2_likelyPitch, Cond.code yX2_likelyPitch cX2_likelyPitch 9 (some .int), Cond.methodLink RX2 52 yX2_misfitAt, Cond.instanceMethod yX2_misfitAt, Cond.selects RX2 yX2_misfitAt yX2_misfitAt, Cond.code yX2_misfitAt cX2_misfitAt 6 (some .int), Cond.fieldLink RX2 26 "TwoKeys$OldOne" "scales" "LTwoKeys$Scales;", Cond.methodLink RX2 42 Lib.Math.abs.name, Cond.static Lib.Math.abs.name, Cond.initialized "java/lang/Math", Cond.code Lib.Math.abs.name Lib.Math.abs.code 1 (some .int), Cond.methodLink RX2 36 yX3_goalAt, Cond.instanceMethod yX3_goalAt, Cond.selects RX3 yX3_goalAt yX3_goalAt]
def wsX5_added_r3 : List Cond := [Cond.initialized RX3, Cond.code yX3_goalAt cX3_goalAt 7 (some .int), Cond.fieldLink RX3 15 "TwoKeys$Scales" "belows" "[I", Cond.fieldLink RX3 9 "TwoKeys$Scales" "aboves" "[I"]
def wsX5_added : List Cond := .code yX5_added cX5_added 3 (some .int) :: ((wsX5_added_r1 ++ (wsX5_added_r2 ++ wsX5_added_r3)) ++ wsX50 ++ wsX20 ++ wsX00 ++ wsX30)
def wsX5_bentLater_r1 : List Cond := [Cond.constant RX5 206 (400000), Cond.constant RX5 65 (-100002), Cond.fieldLink RX5 57 "TwoKeys" "oldOne" "LTwoKeys$OldOne;", Cond.constant RX5 147 (-100003), Cond.methodLink RX5 61 yX5_within, Cond.static yX5_within, Cond.initialized RX5, Cond.code yX5_within cX5_within 3 (some .boolean), Cond.methodLink RX5 213 yX2_countMeasured, Cond.instanceMethod yX2_countMeasured, Cond.selects RX2 yX2_countMeasured yX2_countMeasured, Cond.initialized RX2, Cond.code yX2_countMeasured cX2_countMeasured 3 (some .int), Cond.fieldLink RX2 22 "TwoKeys$OldOne" "board" "LTwoKeys$Board;", Cond.fieldLink RX2 31 "TwoKeys$Board" "size" "I", Cond.fieldLink RX2 9 "TwoKeys$OldOne" "measured" "[I", Cond.constant RX2 30 (-100009), Cond.methodLink RX5 232 yX2_keyBentLater, Cond.instanceMethod yX2_keyBentLater, Cond.selects RX2 yX2_keyBentLater yX2_keyBentLater, Cond.code yX2_keyBentLater cX2_keyBentLater 6 (some .int), Cond.fieldLink RX2 26 "TwoKeys$OldOne" "scales" "LTwoKeys$Scales;", Cond.fieldLink RX2 15 "TwoKeys$OldOne" "pitchFound" "I", Cond.methodLink RX2 42 Lib.Math.abs.name]
def wsX5_bentLater_r2 : List Cond := [Cond.static Lib.Math.abs.name, Cond.initialized "java/lang/Math", Cond.code Lib.Math.abs.name Lib.Math.abs.code 1 (some .int), Cond.methodLink RX2 60 yX2_scaleMeant, Cond.instanceMethod yX2_scaleMeant, Cond.selects RX2 yX2_scaleMeant yX2_scaleMeant, Cond.code yX2_scaleMeant cX2_scaleMeant 5 (some .int), Cond.fieldLink RX2 19 "TwoKeys$OldOne" "misfitFound" "I", Cond.methodLink RX2 56 yX2_seek, Cond.instanceMethod yX2_seek, Cond.selects RX2 yX2_seek yX2_seek, Cond.code yX2_seek cX2_seek 8 none, Cond.constant RX2 55 (200000), Cond.methodLink RX2 48 yX2_likelyPitch, Cond.instanceMethod yX2_likelyPitch, Cond.selects RX2 yX2_likelyPitch yX2_likelyPitch, Cond.code yX2_likelyPitch cX2_likelyPitch 9 (some .int), Cond.methodLink RX2 52 yX2_misfitAt, Cond.instanceMethod yX2_misfitAt, Cond.selects RX2 yX2_misfitAt yX2_misfitAt, Cond.code yX2_misfitAt cX2_misfitAt 6 (some .int), Cond.methodLink RX2 36 yX3_goalAt, Cond.instanceMethod yX3_goalAt, Cond.selects RX3 yX3_goalAt yX3_goalAt]
def wsX5_bentLater_r3 : List Cond := [Cond.initialized RX3, Cond.code yX3_goalAt cX3_goalAt 7 (some .int), Cond.fieldLink RX3 15 "TwoKeys$Scales" "belows" "[I", Cond.fieldLink RX3 9 "TwoKeys$Scales" "aboves" "[I"]
def wsX5_bentLater : List Cond := .code yX5_bentLater cX5_bentLater 3 (some .int) :: ((wsX5_bentLater_r1 ++ (wsX5_bentLater_r2 ++ wsX5_bentLater_r3)) ++ wsX50 ++ wsX20 ++ wsX00 ++ wsX30)
def wsJ6_bitCount_0f7a4 : List Cond := .code yJ6_bitCount_0f7a4 cJ6_bitCount_0f7a4 1 (some .int) :: ([.constant RJ6 265 (1431655765), .constant RJ6 266 (858993459), .constant RJ6 267 (252645135)])
def wsX5_count_r1 : List Cond := [Cond.fieldLink RX5 25 "TwoKeys" "board" "LTwoKeys$Board;", Cond.fieldLink RX5 66 "TwoKeys$Board" "size" "I", Cond.fieldLink RX5 41 "TwoKeys" "music" "LTwoKeys$Music;", Cond.fieldLink RX5 19 "TwoKeys" "bookNow" "I", Cond.fieldLink RX5 57 "TwoKeys" "oldOne" "LTwoKeys$OldOne;", Cond.constant RX5 65 (-100002), Cond.methodLink RX5 235 yX0_countStruck, Cond.instanceMethod yX0_countStruck, Cond.selects RX0 yX0_countStruck yX0_countStruck, Cond.initialized RX0, Cond.code yX0_countStruck cX0_countStruck 3 (some .int), Cond.methodLink RX0 44 yX0_strikersOf, Cond.instanceMethod yX0_strikersOf, Cond.selects RX0 yX0_strikersOf yX0_strikersOf, Cond.code yX0_strikersOf cX0_strikersOf 4 (some .int), Cond.fieldLink RX0 9 "TwoKeys$Board" "size" "I", Cond.fieldLink RX0 15 "TwoKeys$Board" "struck" "[I", Cond.methodLink RX5 238 yX1_countNotes, Cond.instanceMethod yX1_countNotes, Cond.selects RX1 yX1_countNotes yX1_countNotes, Cond.initialized RX1, Cond.code yX1_countNotes cX1_countNotes 3 (some .int), Cond.fieldLink RX1 21 "TwoKeys$Music" "sizes" "[I", Cond.methodLink RX5 241 yJ6_bitCount_0f7a4]
def wsX5_count_r2 : List Cond := [Cond.static yJ6_bitCount_0f7a4, Cond.initialized RJ6, Cond.code yJ6_bitCount_0f7a4 cJ6_bitCount_0f7a4 1 (some .int), Cond.constant RJ6 265 (1431655765), Cond.constant RJ6 266 (858993459), Cond.constant RJ6 267 (252645135), Cond.methodLink RX5 213 yX2_countMeasured, Cond.instanceMethod yX2_countMeasured, Cond.selects RX2 yX2_countMeasured yX2_countMeasured, Cond.initialized RX2, Cond.code yX2_countMeasured cX2_countMeasured 3 (some .int), Cond.fieldLink RX2 22 "TwoKeys$OldOne" "board" "LTwoKeys$Board;", Cond.fieldLink RX2 31 "TwoKeys$Board" "size" "I", Cond.fieldLink RX2 9 "TwoKeys$OldOne" "measured" "[I", Cond.constant RX2 30 (-100009), Cond.methodLink RX5 246 yX0_countBent, Cond.instanceMethod yX0_countBent, Cond.selects RX0 yX0_countBent yX0_countBent, Cond.code yX0_countBent cX0_countBent 3 (some .int), Cond.fieldLink RX0 22 "TwoKeys$Board" "bends" "[I"]
def wsX5_count : List Cond := .code yX5_count cX5_count 2 (some .int) :: ((wsX5_count_r1 ++ wsX5_count_r2) ++ wsX50 ++ wsX00 ++ wsX10 ++ wsX20)
def wsX6_init : List Cond := .code yX6_init cX6_init 2 none :: ([.methodLink RX6 1 objectInit, .instanceMethod objectInit, .code objectInit ⟨#[0xb1]⟩ 1 none, .fieldLink RX6 7 "TwoKeysModel" "keys" "I", .arrayClass .int, .fieldLink RX6 13 "TwoKeysModel" "string" "[I", .fieldLink RX6 17 "TwoKeysModel" "length" "[I", .fieldLink RX6 20 "TwoKeysModel" "bent" "[I", .fieldLink RX6 23 "TwoKeysModel" "tension" "[I", .fieldLink RX6 26 "TwoKeysModel" "above" "[I", .fieldLink RX6 29 "TwoKeysModel" "below" "[I", .fieldLink RX6 32 "TwoKeysModel" "pitch" "I", .fieldLink RX6 35 "TwoKeysModel" "notes" "[I", .fieldLink RX6 38 "TwoKeysModel" "noteKey" "[I", .fieldLink RX6 41 "TwoKeysModel" "begin" "[I", .fieldLink RX6 44 "TwoKeysModel" "lasts" "[I", .fieldLink RX6 47 "TwoKeysModel" "rest" "I", .fieldLink RX6 50 "TwoKeysModel" "measured" "[I", .fieldLink RX6 53 "TwoKeysModel" "cost" "[I", .fieldLink RX6 56 "TwoKeysModel" "best" "[I", .fieldLink RX6 59 "TwoKeysModel" "groups" "[I", .constant RX6 62 (-100009)] ++ wsX60)
def wsX6_in : List Cond := .code yX6_in cX6_in 6 (some .boolean) :: ([])
def wsX6_size : List Cond := .code yX6_size cX6_size 1 (some .int) :: ([])
def wsX6_noKey : List Cond := .code yX6_noKey cX6_noKey 2 (some .boolean) :: ([.fieldLink RX6 7 "TwoKeysModel" "keys" "I", .methodLink RX6 66 yX6_in, .static yX6_in, .initialized RX6, .code yX6_in cX6_in 6 (some .boolean)] ++ wsX60)
def wsX6_noString : List Cond := .code yX6_noString cX6_noString 1 (some .boolean) :: ([.constantLong RX6 70 (23), .methodLink RX6 66 yX6_in, .static yX6_in, .initialized RX6, .code yX6_in cX6_in 6 (some .boolean)])
def wsX6_noScale : List Cond := .code yX6_noScale cX6_noScale 1 (some .boolean) :: ([.constantLong RX6 72 (4), .methodLink RX6 66 yX6_in, .static yX6_in, .initialized RX6, .code yX6_in cX6_in 6 (some .boolean)])
def wsX6_noPiece : List Cond := .code yX6_noPiece cX6_noPiece 1 (some .boolean) :: ([.constantLong RX6 74 (3), .methodLink RX6 66 yX6_in, .static yX6_in, .initialized RX6, .code yX6_in cX6_in 6 (some .boolean)])
def wsX6_keys : List Cond := .code yX6_keys cX6_keys 3 (some .int) :: ([.fieldLink RX6 63 "TwoKeysModel" "thrown" "I", .constantLong RX6 76 (24), .constant RX6 78 (-100002), .fieldLink RX6 7 "TwoKeysModel" "keys" "I", .methodLink RX6 66 yX6_in, .static yX6_in, .initialized RX6, .code yX6_in cX6_in 6 (some .boolean)] ++ wsX60)
def wsX6_strike : List Cond := .code yX6_strike cX6_strike 5 (some .int) :: ([.fieldLink RX6 63 "TwoKeysModel" "thrown" "I", .constant RX6 86 (-100001), .constantLong RX6 87 (500), .constantLong RX6 89 (9999), .constant RX6 78 (-100002), .fieldLink RX6 13 "TwoKeysModel" "string" "[I", .fieldLink RX6 17 "TwoKeysModel" "length" "[I", .fieldLink RX6 20 "TwoKeysModel" "bent" "[I", .methodLink RX6 79 yX6_noKey, .instanceMethod yX6_noKey, .selects RX6 yX6_noKey yX6_noKey, .initialized RX6, .code yX6_noKey cX6_noKey 2 (some .boolean), .fieldLink RX6 7 "TwoKeysModel" "keys" "I", .methodLink RX6 66 yX6_in, .static yX6_in, .code yX6_in cX6_in 6 (some .boolean), .methodLink RX6 83 yX6_noString, .static yX6_noString, .code yX6_noString cX6_noString 1 (some .boolean), .constantLong RX6 70 (23)] ++ wsX60)
def wsX6_tension : List Cond := .code yX6_tension cX6_tension 4 (some .int) :: ([.fieldLink RX6 63 "TwoKeysModel" "thrown" "I", .constant RX6 86 (-100001), .constantLong RX6 91 (100), .constantLong RX6 93 (20000), .constant RX6 78 (-100002), .fieldLink RX6 23 "TwoKeysModel" "tension" "[I", .methodLink RX6 83 yX6_noString, .static yX6_noString, .initialized RX6, .code yX6_noString cX6_noString 1 (some .boolean), .constantLong RX6 70 (23), .methodLink RX6 66 yX6_in, .static yX6_in, .code yX6_in cX6_in 6 (some .boolean)] ++ wsX60)
def wsX6_bend : List Cond := .code yX6_bend cX6_bend 4 (some .int) :: ([.fieldLink RX6 63 "TwoKeysModel" "thrown" "I", .constant RX6 86 (-100001), .constantLong RX6 95 (-40), .constantLong RX6 97 (40), .constant RX6 78 (-100002), .fieldLink RX6 20 "TwoKeysModel" "bent" "[I", .methodLink RX6 79 yX6_noKey, .instanceMethod yX6_noKey, .selects RX6 yX6_noKey yX6_noKey, .initialized RX6, .code yX6_noKey cX6_noKey 2 (some .boolean), .fieldLink RX6 7 "TwoKeysModel" "keys" "I", .methodLink RX6 66 yX6_in, .static yX6_in, .code yX6_in cX6_in 6 (some .boolean)] ++ wsX60)
def wsX6_soundsOf : List Cond := .code yX6_soundsOf cX6_soundsOf 2 (some .int) :: ([.fieldLink RX6 17 "TwoKeysModel" "length" "[I", .fieldLink RX6 20 "TwoKeysModel" "bent" "[I"] ++ wsX60)
def wsX6_toneOf : List Cond := .code yX6_toneOf cX6_toneOf 2 (some .int) :: ([.fieldLink RX6 23 "TwoKeysModel" "tension" "[I", .fieldLink RX6 13 "TwoKeysModel" "string" "[I", .methodLink RX6 99 yX6_soundsOf, .instanceMethod yX6_soundsOf, .selects RX6 yX6_soundsOf yX6_soundsOf, .initialized RX6, .code yX6_soundsOf cX6_soundsOf 2 (some .int), .fieldLink RX6 17 "TwoKeysModel" "length" "[I", .fieldLink RX6 20 "TwoKeysModel" "bent" "[I"] ++ wsX60)
def wsX6_goalOf : List Cond := .code yX6_goalOf cX6_goalOf 4 (some .int) :: ([.fieldLink RX6 26 "TwoKeysModel" "above" "[I", .fieldLink RX6 29 "TwoKeysModel" "below" "[I"] ++ wsX60)
def wsX6_errorOf : List Cond := .code yX6_errorOf cX6_errorOf 2 (some .int) :: ([.fieldLink RX6 106 "TwoKeysModel" "scale" "I", .fieldLink RX6 32 "TwoKeysModel" "pitch" "I", .methodLink RX6 103 yX6_toneOf, .instanceMethod yX6_toneOf, .selects RX6 yX6_toneOf yX6_toneOf, .initialized RX6, .code yX6_toneOf cX6_toneOf 2 (some .int), .fieldLink RX6 23 "TwoKeysModel" "tension" "[I", .fieldLink RX6 13 "TwoKeysModel" "string" "[I", .methodLink RX6 99 yX6_soundsOf, .instanceMethod yX6_soundsOf, .selects RX6 yX6_soundsOf yX6_soundsOf, .code yX6_soundsOf cX6_soundsOf 2 (some .int), .fieldLink RX6 17 "TwoKeysModel" "length" "[I", .fieldLink RX6 20 "TwoKeysModel" "bent" "[I", .methodLink RX6 109 yX6_goalOf, .instanceMethod yX6_goalOf, .selects RX6 yX6_goalOf yX6_goalOf, .code yX6_goalOf cX6_goalOf 4 (some .int), .fieldLink RX6 26 "TwoKeysModel" "above" "[I", .fieldLink RX6 29 "TwoKeysModel" "below" "[I"] ++ wsX60)
def wsX6_about_r1 : List Cond := [Cond.fieldLink RX6 63 "TwoKeysModel" "thrown" "I", Cond.constant RX6 86 (-100001), Cond.fieldLink RX6 13 "TwoKeysModel" "string" "[I", Cond.fieldLink RX6 17 "TwoKeysModel" "length" "[I", Cond.fieldLink RX6 20 "TwoKeysModel" "bent" "[I", Cond.fieldLink RX6 106 "TwoKeysModel" "scale" "I", Cond.fieldLink RX6 32 "TwoKeysModel" "pitch" "I", Cond.constant RX6 78 (-100002), Cond.methodLink RX6 79 yX6_noKey, Cond.instanceMethod yX6_noKey, Cond.selects RX6 yX6_noKey yX6_noKey, Cond.initialized RX6, Cond.code yX6_noKey cX6_noKey 2 (some .boolean), Cond.fieldLink RX6 7 "TwoKeysModel" "keys" "I", Cond.methodLink RX6 66 yX6_in, Cond.static yX6_in, Cond.code yX6_in cX6_in 6 (some .boolean), Cond.methodLink RX6 103 yX6_toneOf, Cond.instanceMethod yX6_toneOf, Cond.selects RX6 yX6_toneOf yX6_toneOf, Cond.code yX6_toneOf cX6_toneOf 2 (some .int), Cond.fieldLink RX6 23 "TwoKeysModel" "tension" "[I", Cond.methodLink RX6 99 yX6_soundsOf, Cond.instanceMethod yX6_soundsOf]
def wsX6_about_r2 : List Cond := [Cond.selects RX6 yX6_soundsOf yX6_soundsOf, Cond.code yX6_soundsOf cX6_soundsOf 2 (some .int), Cond.methodLink RX6 109 yX6_goalOf, Cond.instanceMethod yX6_goalOf, Cond.selects RX6 yX6_goalOf yX6_goalOf, Cond.code yX6_goalOf cX6_goalOf 4 (some .int), Cond.fieldLink RX6 26 "TwoKeysModel" "above" "[I", Cond.fieldLink RX6 29 "TwoKeysModel" "below" "[I", Cond.methodLink RX6 113 yX6_errorOf, Cond.instanceMethod yX6_errorOf, Cond.selects RX6 yX6_errorOf yX6_errorOf, Cond.code yX6_errorOf cX6_errorOf 2 (some .int)]
def wsX6_about : List Cond := .code yX6_about cX6_about 3 (some .int) :: ((wsX6_about_r1 ++ wsX6_about_r2) ++ wsX60)
def wsX6_pressed_r1 : List Cond := [Cond.fieldLink RX6 63 "TwoKeysModel" "thrown" "I", Cond.constant RX6 86 (-100001), Cond.constantLong RX6 116 (20), Cond.constant RX6 78 (-100002), Cond.methodLink RX6 79 yX6_noKey, Cond.instanceMethod yX6_noKey, Cond.selects RX6 yX6_noKey yX6_noKey, Cond.initialized RX6, Cond.code yX6_noKey cX6_noKey 2 (some .boolean), Cond.fieldLink RX6 7 "TwoKeysModel" "keys" "I", Cond.methodLink RX6 66 yX6_in, Cond.static yX6_in, Cond.code yX6_in cX6_in 6 (some .boolean), Cond.methodLink RX6 103 yX6_toneOf, Cond.instanceMethod yX6_toneOf, Cond.selects RX6 yX6_toneOf yX6_toneOf, Cond.code yX6_toneOf cX6_toneOf 2 (some .int), Cond.fieldLink RX6 23 "TwoKeysModel" "tension" "[I", Cond.fieldLink RX6 13 "TwoKeysModel" "string" "[I", Cond.methodLink RX6 99 yX6_soundsOf, Cond.instanceMethod yX6_soundsOf, Cond.selects RX6 yX6_soundsOf yX6_soundsOf, Cond.code yX6_soundsOf cX6_soundsOf 2 (some .int), Cond.fieldLink RX6 17 "TwoKeysModel" "length" "[I"]
def wsX6_pressed_r2 : List Cond := [Cond.fieldLink RX6 20 "TwoKeysModel" "bent" "[I"]
def wsX6_pressed : List Cond := .code yX6_pressed cX6_pressed 3 (some .int) :: ((wsX6_pressed_r1 ++ wsX6_pressed_r2) ++ wsX60)
def wsX6_onString : List Cond := .code yX6_onString cX6_onString 4 (some .int) :: ([.fieldLink RX6 7 "TwoKeysModel" "keys" "I", .fieldLink RX6 13 "TwoKeysModel" "string" "[I"] ++ wsX60)
def wsX6_sharers : List Cond := .code yX6_sharers cX6_sharers 2 (some .int) :: ([.fieldLink RX6 63 "TwoKeysModel" "thrown" "I", .constant RX6 86 (-100001), .methodLink RX6 83 yX6_noString, .static yX6_noString, .initialized RX6, .code yX6_noString cX6_noString 1 (some .boolean), .constantLong RX6 70 (23), .methodLink RX6 66 yX6_in, .static yX6_in, .code yX6_in cX6_in 6 (some .boolean), .methodLink RX6 118 yX6_onString, .instanceMethod yX6_onString, .selects RX6 yX6_onString yX6_onString, .code yX6_onString cX6_onString 4 (some .int), .fieldLink RX6 7 "TwoKeysModel" "keys" "I", .fieldLink RX6 13 "TwoKeysModel" "string" "[I"] ++ wsX60)
def wsX6_order : List Cond := .code yX6_order cX6_order 4 (some .int) :: ([.fieldLink RX6 63 "TwoKeysModel" "thrown" "I", .fieldLink RX6 7 "TwoKeysModel" "keys" "I", .fieldLink RX6 13 "TwoKeysModel" "string" "[I", .methodLink RX6 99 yX6_soundsOf, .instanceMethod yX6_soundsOf, .selects RX6 yX6_soundsOf yX6_soundsOf, .initialized RX6, .code yX6_soundsOf cX6_soundsOf 2 (some .int), .fieldLink RX6 17 "TwoKeysModel" "length" "[I", .fieldLink RX6 20 "TwoKeysModel" "bent" "[I"] ++ wsX60)
def wsX6_step : List Cond := .code yX6_step cX6_step 5 (some .int) :: ([.fieldLink RX6 63 "TwoKeysModel" "thrown" "I", .constantLong RX6 124 (11), .constant RX6 86 (-100001), .constantLong RX6 126 (999), .constant RX6 78 (-100002), .fieldLink RX6 26 "TwoKeysModel" "above" "[I", .fieldLink RX6 29 "TwoKeysModel" "below" "[I", .methodLink RX6 121 yX6_noScale, .static yX6_noScale, .initialized RX6, .code yX6_noScale cX6_noScale 1 (some .boolean), .constantLong RX6 72 (4), .methodLink RX6 66 yX6_in, .static yX6_in, .code yX6_in cX6_in 6 (some .boolean)] ++ wsX60)
def wsX6_share : List Cond := .code yX6_share cX6_share 4 (some .int) :: ([.fieldLink RX6 63 "TwoKeysModel" "thrown" "I", .constantLong RX6 124 (11), .constant RX6 86 (-100001), .fieldLink RX6 26 "TwoKeysModel" "above" "[I", .fieldLink RX6 29 "TwoKeysModel" "below" "[I", .methodLink RX6 121 yX6_noScale, .static yX6_noScale, .initialized RX6, .code yX6_noScale cX6_noScale 1 (some .boolean), .constantLong RX6 72 (4), .methodLink RX6 66 yX6_in, .static yX6_in, .code yX6_in cX6_in 6 (some .boolean)] ++ wsX60)
def wsX6_use : List Cond := .code yX6_use cX6_use 3 (some .int) :: ([.fieldLink RX6 63 "TwoKeysModel" "thrown" "I", .constant RX6 86 (-100001), .fieldLink RX6 106 "TwoKeysModel" "scale" "I", .methodLink RX6 121 yX6_noScale, .static yX6_noScale, .initialized RX6, .code yX6_noScale cX6_noScale 1 (some .boolean), .constantLong RX6 72 (4), .methodLink RX6 66 yX6_in, .static yX6_in, .code yX6_in cX6_in 6 (some .boolean)] ++ wsX60)
def wsX6_pitch : List Cond := .code yX6_pitch cX6_pitch 3 (some .int) :: ([.fieldLink RX6 63 "TwoKeysModel" "thrown" "I", .constantLong RX6 128 (1000), .constantLong RX6 130 (200000), .constant RX6 78 (-100002), .fieldLink RX6 32 "TwoKeysModel" "pitch" "I", .methodLink RX6 66 yX6_in, .static yX6_in, .initialized RX6, .code yX6_in cX6_in 6 (some .boolean)] ++ wsX60)
def wsX6_allWrong_r1 : List Cond := [Cond.fieldLink RX6 7 "TwoKeysModel" "keys" "I", Cond.methodLink RX6 113 yX6_errorOf, Cond.instanceMethod yX6_errorOf, Cond.selects RX6 yX6_errorOf yX6_errorOf, Cond.initialized RX6, Cond.code yX6_errorOf cX6_errorOf 2 (some .int), Cond.fieldLink RX6 106 "TwoKeysModel" "scale" "I", Cond.fieldLink RX6 32 "TwoKeysModel" "pitch" "I", Cond.methodLink RX6 103 yX6_toneOf, Cond.instanceMethod yX6_toneOf, Cond.selects RX6 yX6_toneOf yX6_toneOf, Cond.code yX6_toneOf cX6_toneOf 2 (some .int), Cond.fieldLink RX6 23 "TwoKeysModel" "tension" "[I", Cond.fieldLink RX6 13 "TwoKeysModel" "string" "[I", Cond.methodLink RX6 99 yX6_soundsOf, Cond.instanceMethod yX6_soundsOf, Cond.selects RX6 yX6_soundsOf yX6_soundsOf, Cond.code yX6_soundsOf cX6_soundsOf 2 (some .int), Cond.fieldLink RX6 17 "TwoKeysModel" "length" "[I", Cond.fieldLink RX6 20 "TwoKeysModel" "bent" "[I", Cond.methodLink RX6 109 yX6_goalOf, Cond.instanceMethod yX6_goalOf, Cond.selects RX6 yX6_goalOf yX6_goalOf, Cond.code yX6_goalOf cX6_goalOf 4 (some .int)]
def wsX6_allWrong_r2 : List Cond := [Cond.fieldLink RX6 26 "TwoKeysModel" "above" "[I", Cond.fieldLink RX6 29 "TwoKeysModel" "below" "[I", Cond.methodLink RX6 132 yX6_size, Cond.static yX6_size, Cond.code yX6_size cX6_size 1 (some .int)]
def wsX6_allWrong : List Cond := .code yX6_allWrong cX6_allWrong 3 (some .int) :: ((wsX6_allWrong_r1 ++ wsX6_allWrong_r2) ++ wsX60)
def wsX6_wrong_r1 : List Cond := [Cond.fieldLink RX6 63 "TwoKeysModel" "thrown" "I", Cond.methodLink RX6 135 yX6_allWrong, Cond.instanceMethod yX6_allWrong, Cond.selects RX6 yX6_allWrong yX6_allWrong, Cond.initialized RX6, Cond.code yX6_allWrong cX6_allWrong 3 (some .int), Cond.fieldLink RX6 7 "TwoKeysModel" "keys" "I", Cond.methodLink RX6 113 yX6_errorOf, Cond.instanceMethod yX6_errorOf, Cond.selects RX6 yX6_errorOf yX6_errorOf, Cond.code yX6_errorOf cX6_errorOf 2 (some .int), Cond.fieldLink RX6 106 "TwoKeysModel" "scale" "I", Cond.fieldLink RX6 32 "TwoKeysModel" "pitch" "I", Cond.methodLink RX6 103 yX6_toneOf, Cond.instanceMethod yX6_toneOf, Cond.selects RX6 yX6_toneOf yX6_toneOf, Cond.code yX6_toneOf cX6_toneOf 2 (some .int), Cond.fieldLink RX6 23 "TwoKeysModel" "tension" "[I", Cond.fieldLink RX6 13 "TwoKeysModel" "string" "[I", Cond.methodLink RX6 99 yX6_soundsOf, Cond.instanceMethod yX6_soundsOf, Cond.selects RX6 yX6_soundsOf yX6_soundsOf, Cond.code yX6_soundsOf cX6_soundsOf 2 (some .int), Cond.fieldLink RX6 17 "TwoKeysModel" "length" "[I"]
def wsX6_wrong_r2 : List Cond := [Cond.fieldLink RX6 20 "TwoKeysModel" "bent" "[I", Cond.methodLink RX6 109 yX6_goalOf, Cond.instanceMethod yX6_goalOf, Cond.selects RX6 yX6_goalOf yX6_goalOf, Cond.code yX6_goalOf cX6_goalOf 4 (some .int), Cond.fieldLink RX6 26 "TwoKeysModel" "above" "[I", Cond.fieldLink RX6 29 "TwoKeysModel" "below" "[I", Cond.methodLink RX6 132 yX6_size, Cond.static yX6_size, Cond.code yX6_size cX6_size 1 (some .int)]
def wsX6_wrong : List Cond := .code yX6_wrong cX6_wrong 1 (some .int) :: ((wsX6_wrong_r1 ++ wsX6_wrong_r2) ++ wsX60)
def wsX6_bendBest_r1 : List Cond := [Cond.fieldLink RX6 20 "TwoKeysModel" "bent" "[I", Cond.methodLink RX6 113 yX6_errorOf, Cond.instanceMethod yX6_errorOf, Cond.selects RX6 yX6_errorOf yX6_errorOf, Cond.initialized RX6, Cond.code yX6_errorOf cX6_errorOf 2 (some .int), Cond.fieldLink RX6 106 "TwoKeysModel" "scale" "I", Cond.fieldLink RX6 32 "TwoKeysModel" "pitch" "I", Cond.methodLink RX6 103 yX6_toneOf, Cond.instanceMethod yX6_toneOf, Cond.selects RX6 yX6_toneOf yX6_toneOf, Cond.code yX6_toneOf cX6_toneOf 2 (some .int), Cond.fieldLink RX6 23 "TwoKeysModel" "tension" "[I", Cond.fieldLink RX6 13 "TwoKeysModel" "string" "[I", Cond.methodLink RX6 99 yX6_soundsOf, Cond.instanceMethod yX6_soundsOf, Cond.selects RX6 yX6_soundsOf yX6_soundsOf, Cond.code yX6_soundsOf cX6_soundsOf 2 (some .int), Cond.fieldLink RX6 17 "TwoKeysModel" "length" "[I", Cond.methodLink RX6 109 yX6_goalOf, Cond.instanceMethod yX6_goalOf, Cond.selects RX6 yX6_goalOf yX6_goalOf, Cond.code yX6_goalOf cX6_goalOf 4 (some .int), Cond.fieldLink RX6 26 "TwoKeysModel" "above" "[I"]
def wsX6_bendBest_r2 : List Cond := [Cond.fieldLink RX6 29 "TwoKeysModel" "below" "[I", Cond.methodLink RX6 132 yX6_size, Cond.static yX6_size, Cond.code yX6_size cX6_size 1 (some .int)]
def wsX6_bendBest : List Cond := .code yX6_bendBest cX6_bendBest 6 none :: ((wsX6_bendBest_r1 ++ wsX6_bendBest_r2) ++ wsX60)
def wsX6_tune_r1 : List Cond := [Cond.fieldLink RX6 63 "TwoKeysModel" "thrown" "I", Cond.constant RX6 86 (-100001), Cond.methodLink RX6 79 yX6_noKey, Cond.instanceMethod yX6_noKey, Cond.selects RX6 yX6_noKey yX6_noKey, Cond.initialized RX6, Cond.code yX6_noKey cX6_noKey 2 (some .boolean), Cond.fieldLink RX6 7 "TwoKeysModel" "keys" "I", Cond.methodLink RX6 66 yX6_in, Cond.static yX6_in, Cond.code yX6_in cX6_in 6 (some .boolean), Cond.methodLink RX6 139 yX6_bendBest, Cond.instanceMethod yX6_bendBest, Cond.selects RX6 yX6_bendBest yX6_bendBest, Cond.code yX6_bendBest cX6_bendBest 6 none, Cond.fieldLink RX6 20 "TwoKeysModel" "bent" "[I", Cond.methodLink RX6 113 yX6_errorOf, Cond.instanceMethod yX6_errorOf, Cond.selects RX6 yX6_errorOf yX6_errorOf, Cond.code yX6_errorOf cX6_errorOf 2 (some .int), Cond.fieldLink RX6 106 "TwoKeysModel" "scale" "I", Cond.fieldLink RX6 32 "TwoKeysModel" "pitch" "I", Cond.methodLink RX6 103 yX6_toneOf, Cond.instanceMethod yX6_toneOf]
def wsX6_tune_r2 : List Cond := [Cond.selects RX6 yX6_toneOf yX6_toneOf, Cond.code yX6_toneOf cX6_toneOf 2 (some .int), Cond.fieldLink RX6 23 "TwoKeysModel" "tension" "[I", Cond.fieldLink RX6 13 "TwoKeysModel" "string" "[I", Cond.methodLink RX6 99 yX6_soundsOf, Cond.instanceMethod yX6_soundsOf, Cond.selects RX6 yX6_soundsOf yX6_soundsOf, Cond.code yX6_soundsOf cX6_soundsOf 2 (some .int), Cond.fieldLink RX6 17 "TwoKeysModel" "length" "[I", Cond.methodLink RX6 109 yX6_goalOf, Cond.instanceMethod yX6_goalOf, Cond.selects RX6 yX6_goalOf yX6_goalOf, Cond.code yX6_goalOf cX6_goalOf 4 (some .int), Cond.fieldLink RX6 26 "TwoKeysModel" "above" "[I", Cond.fieldLink RX6 29 "TwoKeysModel" "below" "[I", Cond.methodLink RX6 132 yX6_size, Cond.static yX6_size, Cond.code yX6_size cX6_size 1 (some .int)]
def wsX6_tune : List Cond := .code yX6_tune cX6_tune 2 (some .int) :: ((wsX6_tune_r1 ++ wsX6_tune_r2) ++ wsX60)
def wsX6_tuneAll_r1 : List Cond := [Cond.fieldLink RX6 63 "TwoKeysModel" "thrown" "I", Cond.fieldLink RX6 7 "TwoKeysModel" "keys" "I", Cond.methodLink RX6 139 yX6_bendBest, Cond.instanceMethod yX6_bendBest, Cond.selects RX6 yX6_bendBest yX6_bendBest, Cond.initialized RX6, Cond.code yX6_bendBest cX6_bendBest 6 none, Cond.fieldLink RX6 20 "TwoKeysModel" "bent" "[I", Cond.methodLink RX6 113 yX6_errorOf, Cond.instanceMethod yX6_errorOf, Cond.selects RX6 yX6_errorOf yX6_errorOf, Cond.code yX6_errorOf cX6_errorOf 2 (some .int), Cond.fieldLink RX6 106 "TwoKeysModel" "scale" "I", Cond.fieldLink RX6 32 "TwoKeysModel" "pitch" "I", Cond.methodLink RX6 103 yX6_toneOf, Cond.instanceMethod yX6_toneOf, Cond.selects RX6 yX6_toneOf yX6_toneOf, Cond.code yX6_toneOf cX6_toneOf 2 (some .int), Cond.fieldLink RX6 23 "TwoKeysModel" "tension" "[I", Cond.fieldLink RX6 13 "TwoKeysModel" "string" "[I", Cond.methodLink RX6 99 yX6_soundsOf, Cond.instanceMethod yX6_soundsOf, Cond.selects RX6 yX6_soundsOf yX6_soundsOf, Cond.code yX6_soundsOf cX6_soundsOf 2 (some .int)]
def wsX6_tuneAll_r2 : List Cond := [Cond.fieldLink RX6 17 "TwoKeysModel" "length" "[I", Cond.methodLink RX6 109 yX6_goalOf, Cond.instanceMethod yX6_goalOf, Cond.selects RX6 yX6_goalOf yX6_goalOf, Cond.code yX6_goalOf cX6_goalOf 4 (some .int), Cond.fieldLink RX6 26 "TwoKeysModel" "above" "[I", Cond.fieldLink RX6 29 "TwoKeysModel" "below" "[I", Cond.methodLink RX6 132 yX6_size, Cond.static yX6_size, Cond.code yX6_size cX6_size 1 (some .int), Cond.methodLink RX6 135 yX6_allWrong, Cond.instanceMethod yX6_allWrong, Cond.selects RX6 yX6_allWrong yX6_allWrong, Cond.code yX6_allWrong cX6_allWrong 3 (some .int)]
def wsX6_tuneAll : List Cond := .code yX6_tuneAll cX6_tuneAll 2 (some .int) :: ((wsX6_tuneAll_r1 ++ wsX6_tuneAll_r2) ++ wsX60)
def wsX6_worst_r1 : List Cond := [Cond.fieldLink RX6 63 "TwoKeysModel" "thrown" "I", Cond.fieldLink RX6 7 "TwoKeysModel" "keys" "I", Cond.methodLink RX6 113 yX6_errorOf, Cond.instanceMethod yX6_errorOf, Cond.selects RX6 yX6_errorOf yX6_errorOf, Cond.initialized RX6, Cond.code yX6_errorOf cX6_errorOf 2 (some .int), Cond.fieldLink RX6 106 "TwoKeysModel" "scale" "I", Cond.fieldLink RX6 32 "TwoKeysModel" "pitch" "I", Cond.methodLink RX6 103 yX6_toneOf, Cond.instanceMethod yX6_toneOf, Cond.selects RX6 yX6_toneOf yX6_toneOf, Cond.code yX6_toneOf cX6_toneOf 2 (some .int), Cond.fieldLink RX6 23 "TwoKeysModel" "tension" "[I", Cond.fieldLink RX6 13 "TwoKeysModel" "string" "[I", Cond.methodLink RX6 99 yX6_soundsOf, Cond.instanceMethod yX6_soundsOf, Cond.selects RX6 yX6_soundsOf yX6_soundsOf, Cond.code yX6_soundsOf cX6_soundsOf 2 (some .int), Cond.fieldLink RX6 17 "TwoKeysModel" "length" "[I", Cond.fieldLink RX6 20 "TwoKeysModel" "bent" "[I", Cond.methodLink RX6 109 yX6_goalOf, Cond.instanceMethod yX6_goalOf, Cond.selects RX6 yX6_goalOf yX6_goalOf]
def wsX6_worst_r2 : List Cond := [Cond.code yX6_goalOf cX6_goalOf 4 (some .int), Cond.fieldLink RX6 26 "TwoKeysModel" "above" "[I", Cond.fieldLink RX6 29 "TwoKeysModel" "below" "[I", Cond.methodLink RX6 132 yX6_size, Cond.static yX6_size, Cond.code yX6_size cX6_size 1 (some .int)]
def wsX6_worst : List Cond := .code yX6_worst cX6_worst 3 (some .int) :: ((wsX6_worst_r1 ++ wsX6_worst_r2) ++ wsX60)
def wsX6_note : List Cond := .code yX6_note cX6_note 6 (some .int) :: ([.fieldLink RX6 63 "TwoKeysModel" "thrown" "I", .constant RX6 86 (-100001), .constantLong RX6 70 (23), .constantLong RX6 126 (999), .constantLong RX6 146 (99), .constant RX6 78 (-100002), .fieldLink RX6 35 "TwoKeysModel" "notes" "[I", .fieldLink RX6 41 "TwoKeysModel" "begin" "[I", .constant RX6 148 (-100003), .constant RX6 149 (-100004), .fieldLink RX6 38 "TwoKeysModel" "noteKey" "[I", .fieldLink RX6 44 "TwoKeysModel" "lasts" "[I", .methodLink RX6 143 yX6_noPiece, .static yX6_noPiece, .initialized RX6, .code yX6_noPiece cX6_noPiece 1 (some .boolean), .constantLong RX6 74 (3), .methodLink RX6 66 yX6_in, .static yX6_in, .code yX6_in cX6_in 6 (some .boolean)] ++ wsX60)
def wsX6_wipe : List Cond := .code yX6_wipe cX6_wipe 3 (some .int) :: ([.fieldLink RX6 63 "TwoKeysModel" "thrown" "I", .constant RX6 86 (-100001), .fieldLink RX6 35 "TwoKeysModel" "notes" "[I", .methodLink RX6 143 yX6_noPiece, .static yX6_noPiece, .initialized RX6, .code yX6_noPiece cX6_noPiece 1 (some .boolean), .constantLong RX6 74 (3), .methodLink RX6 66 yX6_in, .static yX6_in, .code yX6_in cX6_in 6 (some .boolean)] ++ wsX60)
def wsX6_rest : List Cond := .code yX6_rest cX6_rest 3 (some .int) :: ([.fieldLink RX6 63 "TwoKeysModel" "thrown" "I", .constantLong RX6 116 (20), .constant RX6 78 (-100002), .fieldLink RX6 47 "TwoKeysModel" "rest" "I", .methodLink RX6 66 yX6_in, .static yX6_in, .initialized RX6, .code yX6_in cX6_in 6 (some .boolean)] ++ wsX60)
def wsX6_meet : List Cond := .code yX6_meet cX6_meet 3 (some .boolean) :: ([.fieldLink RX6 41 "TwoKeysModel" "begin" "[I", .fieldLink RX6 44 "TwoKeysModel" "lasts" "[I"] ++ wsX60)
def wsX6_shares : List Cond := .code yX6_shares cX6_shares 5 (some .boolean) :: ([.fieldLink RX6 38 "TwoKeysModel" "noteKey" "[I", .fieldLink RX6 7 "TwoKeysModel" "keys" "I", .fieldLink RX6 13 "TwoKeysModel" "string" "[I"] ++ wsX60)
def wsX6_clashesOf : List Cond := .code yX6_clashesOf cX6_clashesOf 5 (some .int) :: ([.fieldLink RX6 35 "TwoKeysModel" "notes" "[I", .methodLink RX6 150 yX6_shares, .instanceMethod yX6_shares, .selects RX6 yX6_shares yX6_shares, .initialized RX6, .code yX6_shares cX6_shares 5 (some .boolean), .fieldLink RX6 38 "TwoKeysModel" "noteKey" "[I", .fieldLink RX6 7 "TwoKeysModel" "keys" "I", .fieldLink RX6 13 "TwoKeysModel" "string" "[I", .methodLink RX6 154 yX6_meet, .instanceMethod yX6_meet, .selects RX6 yX6_meet yX6_meet, .code yX6_meet cX6_meet 3 (some .boolean), .fieldLink RX6 41 "TwoKeysModel" "begin" "[I", .fieldLink RX6 44 "TwoKeysModel" "lasts" "[I"] ++ wsX60)
def wsX6_clashes_r1 : List Cond := [Cond.fieldLink RX6 63 "TwoKeysModel" "thrown" "I", Cond.constant RX6 86 (-100001), Cond.methodLink RX6 143 yX6_noPiece, Cond.static yX6_noPiece, Cond.initialized RX6, Cond.code yX6_noPiece cX6_noPiece 1 (some .boolean), Cond.constantLong RX6 74 (3), Cond.methodLink RX6 66 yX6_in, Cond.static yX6_in, Cond.code yX6_in cX6_in 6 (some .boolean), Cond.methodLink RX6 157 yX6_clashesOf, Cond.instanceMethod yX6_clashesOf, Cond.selects RX6 yX6_clashesOf yX6_clashesOf, Cond.code yX6_clashesOf cX6_clashesOf 5 (some .int), Cond.fieldLink RX6 35 "TwoKeysModel" "notes" "[I", Cond.methodLink RX6 150 yX6_shares, Cond.instanceMethod yX6_shares, Cond.selects RX6 yX6_shares yX6_shares, Cond.code yX6_shares cX6_shares 5 (some .boolean), Cond.fieldLink RX6 38 "TwoKeysModel" "noteKey" "[I", Cond.fieldLink RX6 7 "TwoKeysModel" "keys" "I", Cond.fieldLink RX6 13 "TwoKeysModel" "string" "[I", Cond.methodLink RX6 154 yX6_meet, Cond.instanceMethod yX6_meet]
def wsX6_clashes_r2 : List Cond := [Cond.selects RX6 yX6_meet yX6_meet, Cond.code yX6_meet cX6_meet 3 (some .boolean), Cond.fieldLink RX6 41 "TwoKeysModel" "begin" "[I", Cond.fieldLink RX6 44 "TwoKeysModel" "lasts" "[I"]
def wsX6_clashes : List Cond := .code yX6_clashes cX6_clashes 2 (some .int) :: ((wsX6_clashes_r1 ++ wsX6_clashes_r2) ++ wsX60)
def wsX6_clash_r1 : List Cond := [Cond.fieldLink RX6 63 "TwoKeysModel" "thrown" "I", Cond.constant RX6 86 (-100001), Cond.fieldLink RX6 35 "TwoKeysModel" "notes" "[I", Cond.constant RX6 62 (-100009), Cond.methodLink RX6 143 yX6_noPiece, Cond.static yX6_noPiece, Cond.initialized RX6, Cond.code yX6_noPiece cX6_noPiece 1 (some .boolean), Cond.constantLong RX6 74 (3), Cond.methodLink RX6 66 yX6_in, Cond.static yX6_in, Cond.code yX6_in cX6_in 6 (some .boolean), Cond.methodLink RX6 150 yX6_shares, Cond.instanceMethod yX6_shares, Cond.selects RX6 yX6_shares yX6_shares, Cond.code yX6_shares cX6_shares 5 (some .boolean), Cond.fieldLink RX6 38 "TwoKeysModel" "noteKey" "[I", Cond.fieldLink RX6 7 "TwoKeysModel" "keys" "I", Cond.fieldLink RX6 13 "TwoKeysModel" "string" "[I", Cond.methodLink RX6 154 yX6_meet, Cond.instanceMethod yX6_meet, Cond.selects RX6 yX6_meet yX6_meet, Cond.code yX6_meet cX6_meet 3 (some .boolean), Cond.fieldLink RX6 41 "TwoKeysModel" "begin" "[I"]
def wsX6_clash_r2 : List Cond := [Cond.fieldLink RX6 44 "TwoKeysModel" "lasts" "[I"]
def wsX6_clash : List Cond := .code yX6_clash cX6_clash 6 (some .int) :: ((wsX6_clash_r1 ++ wsX6_clash_r2) ++ wsX60)
def wsX6_chokes : List Cond := .code yX6_chokes cX6_chokes 6 (some .int) :: ([.fieldLink RX6 63 "TwoKeysModel" "thrown" "I", .constant RX6 86 (-100001), .fieldLink RX6 35 "TwoKeysModel" "notes" "[I", .fieldLink RX6 41 "TwoKeysModel" "begin" "[I", .fieldLink RX6 44 "TwoKeysModel" "lasts" "[I", .fieldLink RX6 47 "TwoKeysModel" "rest" "I", .methodLink RX6 143 yX6_noPiece, .static yX6_noPiece, .initialized RX6, .code yX6_noPiece cX6_noPiece 1 (some .boolean), .constantLong RX6 74 (3), .methodLink RX6 66 yX6_in, .static yX6_in, .code yX6_in cX6_in 6 (some .boolean), .methodLink RX6 150 yX6_shares, .instanceMethod yX6_shares, .selects RX6 yX6_shares yX6_shares, .code yX6_shares cX6_shares 5 (some .boolean), .fieldLink RX6 38 "TwoKeysModel" "noteKey" "[I", .fieldLink RX6 7 "TwoKeysModel" "keys" "I", .fieldLink RX6 13 "TwoKeysModel" "string" "[I"] ++ wsX60)
def wsX6_trills : List Cond := .code yX6_trills cX6_trills 9 (some .int) :: ([.fieldLink RX6 63 "TwoKeysModel" "thrown" "I", .constant RX6 86 (-100001), .fieldLink RX6 35 "TwoKeysModel" "notes" "[I", .fieldLink RX6 41 "TwoKeysModel" "begin" "[I", .fieldLink RX6 44 "TwoKeysModel" "lasts" "[I", .fieldLink RX6 38 "TwoKeysModel" "noteKey" "[I", .methodLink RX6 143 yX6_noPiece, .static yX6_noPiece, .initialized RX6, .code yX6_noPiece cX6_noPiece 1 (some .boolean), .constantLong RX6 74 (3), .methodLink RX6 66 yX6_in, .static yX6_in, .code yX6_in cX6_in 6 (some .boolean), .methodLink RX6 150 yX6_shares, .instanceMethod yX6_shares, .selects RX6 yX6_shares yX6_shares, .code yX6_shares cX6_shares 5 (some .boolean), .fieldLink RX6 7 "TwoKeysModel" "keys" "I", .fieldLink RX6 13 "TwoKeysModel" "string" "[I"] ++ wsX60)
def wsX6_heardOf : List Cond := .code yX6_heardOf cX6_heardOf 8 (some .int) :: ([.constant RX6 62 (-100009), .fieldLink RX6 35 "TwoKeysModel" "notes" "[I", .fieldLink RX6 38 "TwoKeysModel" "noteKey" "[I", .fieldLink RX6 7 "TwoKeysModel" "keys" "I", .fieldLink RX6 13 "TwoKeysModel" "string" "[I", .fieldLink RX6 41 "TwoKeysModel" "begin" "[I", .fieldLink RX6 44 "TwoKeysModel" "lasts" "[I", .methodLink RX6 66 yX6_in, .static yX6_in, .initialized RX6, .code yX6_in cX6_in 6 (some .boolean), .methodLink RX6 99 yX6_soundsOf, .instanceMethod yX6_soundsOf, .selects RX6 yX6_soundsOf yX6_soundsOf, .code yX6_soundsOf cX6_soundsOf 2 (some .int), .fieldLink RX6 17 "TwoKeysModel" "length" "[I", .fieldLink RX6 20 "TwoKeysModel" "bent" "[I"] ++ wsX60)
def wsX6_heard_r1 : List Cond := [Cond.fieldLink RX6 63 "TwoKeysModel" "thrown" "I", Cond.constant RX6 86 (-100001), Cond.constantLong RX6 160 (1100), Cond.constant RX6 78 (-100002), Cond.methodLink RX6 143 yX6_noPiece, Cond.static yX6_noPiece, Cond.initialized RX6, Cond.code yX6_noPiece cX6_noPiece 1 (some .boolean), Cond.constantLong RX6 74 (3), Cond.methodLink RX6 66 yX6_in, Cond.static yX6_in, Cond.code yX6_in cX6_in 6 (some .boolean), Cond.methodLink RX6 83 yX6_noString, Cond.static yX6_noString, Cond.code yX6_noString cX6_noString 1 (some .boolean), Cond.constantLong RX6 70 (23), Cond.methodLink RX6 162 yX6_heardOf, Cond.instanceMethod yX6_heardOf, Cond.selects RX6 yX6_heardOf yX6_heardOf, Cond.code yX6_heardOf cX6_heardOf 8 (some .int), Cond.constant RX6 62 (-100009), Cond.fieldLink RX6 35 "TwoKeysModel" "notes" "[I", Cond.fieldLink RX6 38 "TwoKeysModel" "noteKey" "[I", Cond.fieldLink RX6 7 "TwoKeysModel" "keys" "I"]
def wsX6_heard_r2 : List Cond := [Cond.fieldLink RX6 13 "TwoKeysModel" "string" "[I", Cond.fieldLink RX6 41 "TwoKeysModel" "begin" "[I", Cond.fieldLink RX6 44 "TwoKeysModel" "lasts" "[I", Cond.methodLink RX6 99 yX6_soundsOf, Cond.instanceMethod yX6_soundsOf, Cond.selects RX6 yX6_soundsOf yX6_soundsOf, Cond.code yX6_soundsOf cX6_soundsOf 2 (some .int), Cond.fieldLink RX6 17 "TwoKeysModel" "length" "[I", Cond.fieldLink RX6 20 "TwoKeysModel" "bent" "[I"]
def wsX6_heard : List Cond := .code yX6_heard cX6_heard 4 (some .int) :: ((wsX6_heard_r1 ++ wsX6_heard_r2) ++ wsX60)
def wsX6_lost_r1 : List Cond := [Cond.fieldLink RX6 63 "TwoKeysModel" "thrown" "I", Cond.constant RX6 86 (-100001), Cond.fieldLink RX6 35 "TwoKeysModel" "notes" "[I", Cond.fieldLink RX6 38 "TwoKeysModel" "noteKey" "[I", Cond.fieldLink RX6 41 "TwoKeysModel" "begin" "[I", Cond.fieldLink RX6 44 "TwoKeysModel" "lasts" "[I", Cond.fieldLink RX6 13 "TwoKeysModel" "string" "[I", Cond.methodLink RX6 143 yX6_noPiece, Cond.static yX6_noPiece, Cond.initialized RX6, Cond.code yX6_noPiece cX6_noPiece 1 (some .boolean), Cond.constantLong RX6 74 (3), Cond.methodLink RX6 66 yX6_in, Cond.static yX6_in, Cond.code yX6_in cX6_in 6 (some .boolean), Cond.methodLink RX6 79 yX6_noKey, Cond.instanceMethod yX6_noKey, Cond.selects RX6 yX6_noKey yX6_noKey, Cond.code yX6_noKey cX6_noKey 2 (some .boolean), Cond.fieldLink RX6 7 "TwoKeysModel" "keys" "I", Cond.methodLink RX6 162 yX6_heardOf, Cond.instanceMethod yX6_heardOf, Cond.selects RX6 yX6_heardOf yX6_heardOf, Cond.code yX6_heardOf cX6_heardOf 8 (some .int)]
def wsX6_lost_r2 : List Cond := [Cond.constant RX6 62 (-100009), Cond.methodLink RX6 99 yX6_soundsOf, Cond.instanceMethod yX6_soundsOf, Cond.selects RX6 yX6_soundsOf yX6_soundsOf, Cond.code yX6_soundsOf cX6_soundsOf 2 (some .int), Cond.fieldLink RX6 17 "TwoKeysModel" "length" "[I", Cond.fieldLink RX6 20 "TwoKeysModel" "bent" "[I"]
def wsX6_lost : List Cond := .code yX6_lost cX6_lost 7 (some .int) :: ((wsX6_lost_r1 ++ wsX6_lost_r2) ++ wsX60)
def wsX6_passes_r1 : List Cond := [Cond.fieldLink RX6 63 "TwoKeysModel" "thrown" "I", Cond.constant RX6 86 (-100001), Cond.fieldLink RX6 35 "TwoKeysModel" "notes" "[I", Cond.fieldLink RX6 38 "TwoKeysModel" "noteKey" "[I", Cond.fieldLink RX6 7 "TwoKeysModel" "keys" "I", Cond.methodLink RX6 143 yX6_noPiece, Cond.static yX6_noPiece, Cond.initialized RX6, Cond.code yX6_noPiece cX6_noPiece 1 (some .boolean), Cond.constantLong RX6 74 (3), Cond.methodLink RX6 66 yX6_in, Cond.static yX6_in, Cond.code yX6_in cX6_in 6 (some .boolean), Cond.methodLink RX6 157 yX6_clashesOf, Cond.instanceMethod yX6_clashesOf, Cond.selects RX6 yX6_clashesOf yX6_clashesOf, Cond.code yX6_clashesOf cX6_clashesOf 5 (some .int), Cond.methodLink RX6 150 yX6_shares, Cond.instanceMethod yX6_shares, Cond.selects RX6 yX6_shares yX6_shares, Cond.code yX6_shares cX6_shares 5 (some .boolean), Cond.fieldLink RX6 13 "TwoKeysModel" "string" "[I", Cond.methodLink RX6 154 yX6_meet, Cond.instanceMethod yX6_meet]
def wsX6_passes_r2 : List Cond := [Cond.selects RX6 yX6_meet yX6_meet, Cond.code yX6_meet cX6_meet 3 (some .boolean), Cond.fieldLink RX6 41 "TwoKeysModel" "begin" "[I", Cond.fieldLink RX6 44 "TwoKeysModel" "lasts" "[I"]
def wsX6_passes : List Cond := .code yX6_passes cX6_passes 4 (some .int) :: ((wsX6_passes_r1 ++ wsX6_passes_r2) ++ wsX60)
def wsX6_book : List Cond := .code yX6_book cX6_book 3 (some .int) :: ([.fieldLink RX6 63 "TwoKeysModel" "thrown" "I", .constantLong RX6 165 (15), .constant RX6 78 (-100002), .fieldLink RX6 167 "TwoKeysModel" "book" "I", .methodLink RX6 66 yX6_in, .static yX6_in, .initialized RX6, .code yX6_in cX6_in 6 (some .boolean)] ++ wsX60)
def wsX6_togetherOf : List Cond := .code yX6_togetherOf cX6_togetherOf 8 (some .int) :: ([.fieldLink RX6 35 "TwoKeysModel" "notes" "[I", .fieldLink RX6 167 "TwoKeysModel" "book" "I", .fieldLink RX6 38 "TwoKeysModel" "noteKey" "[I", .methodLink RX6 66 yX6_in, .static yX6_in, .initialized RX6, .code yX6_in cX6_in 6 (some .boolean), .methodLink RX6 154 yX6_meet, .instanceMethod yX6_meet, .selects RX6 yX6_meet yX6_meet, .code yX6_meet cX6_meet 3 (some .boolean), .fieldLink RX6 41 "TwoKeysModel" "begin" "[I", .fieldLink RX6 44 "TwoKeysModel" "lasts" "[I"] ++ wsX60)
def wsX6_together_r1 : List Cond := [Cond.fieldLink RX6 63 "TwoKeysModel" "thrown" "I", Cond.constant RX6 86 (-100001), Cond.constant RX6 78 (-100002), Cond.methodLink RX6 79 yX6_noKey, Cond.instanceMethod yX6_noKey, Cond.selects RX6 yX6_noKey yX6_noKey, Cond.initialized RX6, Cond.code yX6_noKey cX6_noKey 2 (some .boolean), Cond.fieldLink RX6 7 "TwoKeysModel" "keys" "I", Cond.methodLink RX6 66 yX6_in, Cond.static yX6_in, Cond.code yX6_in cX6_in 6 (some .boolean), Cond.methodLink RX6 170 yX6_togetherOf, Cond.instanceMethod yX6_togetherOf, Cond.selects RX6 yX6_togetherOf yX6_togetherOf, Cond.code yX6_togetherOf cX6_togetherOf 8 (some .int), Cond.fieldLink RX6 35 "TwoKeysModel" "notes" "[I", Cond.fieldLink RX6 167 "TwoKeysModel" "book" "I", Cond.fieldLink RX6 38 "TwoKeysModel" "noteKey" "[I", Cond.methodLink RX6 154 yX6_meet, Cond.instanceMethod yX6_meet, Cond.selects RX6 yX6_meet yX6_meet, Cond.code yX6_meet cX6_meet 3 (some .boolean), Cond.fieldLink RX6 41 "TwoKeysModel" "begin" "[I"]
def wsX6_together_r2 : List Cond := [Cond.fieldLink RX6 44 "TwoKeysModel" "lasts" "[I"]
def wsX6_together : List Cond := .code yX6_together cX6_together 3 (some .int) :: ((wsX6_together_r1 ++ wsX6_together_r2) ++ wsX60)
def wsX6_look : List Cond := .code yX6_look cX6_look 8 none :: ([.fieldLink RX6 7 "TwoKeysModel" "keys" "I", .fieldLink RX6 53 "TwoKeysModel" "cost" "[I", .constant RX6 174 (1000000), .fieldLink RX6 56 "TwoKeysModel" "best" "[I", .methodLink RX6 170 yX6_togetherOf, .instanceMethod yX6_togetherOf, .selects RX6 yX6_togetherOf yX6_togetherOf, .initialized RX6, .code yX6_togetherOf cX6_togetherOf 8 (some .int), .fieldLink RX6 35 "TwoKeysModel" "notes" "[I", .fieldLink RX6 167 "TwoKeysModel" "book" "I", .fieldLink RX6 38 "TwoKeysModel" "noteKey" "[I", .methodLink RX6 66 yX6_in, .static yX6_in, .code yX6_in cX6_in 6 (some .boolean), .methodLink RX6 154 yX6_meet, .instanceMethod yX6_meet, .selects RX6 yX6_meet yX6_meet, .code yX6_meet cX6_meet 3 (some .boolean), .fieldLink RX6 41 "TwoKeysModel" "begin" "[I", .fieldLink RX6 44 "TwoKeysModel" "lasts" "[I"] ++ wsX60)
def wsX6_shareBest_r1 : List Cond := [Cond.constant RX6 62 (-100009), Cond.fieldLink RX6 56 "TwoKeysModel" "best" "[I", Cond.constant RX6 174 (1000000), Cond.fieldLink RX6 179 "TwoKeysModel" "leastOf" "I", Cond.fieldLink RX6 7 "TwoKeysModel" "keys" "I", Cond.fieldLink RX6 53 "TwoKeysModel" "cost" "[I", Cond.fieldLink RX6 59 "TwoKeysModel" "groups" "[I", Cond.methodLink RX6 175 yX6_look, Cond.instanceMethod yX6_look, Cond.selects RX6 yX6_look yX6_look, Cond.initialized RX6, Cond.code yX6_look cX6_look 8 none, Cond.methodLink RX6 170 yX6_togetherOf, Cond.instanceMethod yX6_togetherOf, Cond.selects RX6 yX6_togetherOf yX6_togetherOf, Cond.code yX6_togetherOf cX6_togetherOf 8 (some .int), Cond.fieldLink RX6 35 "TwoKeysModel" "notes" "[I", Cond.fieldLink RX6 167 "TwoKeysModel" "book" "I", Cond.fieldLink RX6 38 "TwoKeysModel" "noteKey" "[I", Cond.methodLink RX6 66 yX6_in, Cond.static yX6_in, Cond.code yX6_in cX6_in 6 (some .boolean), Cond.methodLink RX6 154 yX6_meet, Cond.instanceMethod yX6_meet]
def wsX6_shareBest_r2 : List Cond := [Cond.selects RX6 yX6_meet yX6_meet, Cond.code yX6_meet cX6_meet 3 (some .boolean), Cond.fieldLink RX6 41 "TwoKeysModel" "begin" "[I", Cond.fieldLink RX6 44 "TwoKeysModel" "lasts" "[I"]
def wsX6_shareBest : List Cond := .code yX6_shareBest cX6_shareBest 9 (some .int) :: ((wsX6_shareBest_r1 ++ wsX6_shareBest_r2) ++ wsX60)
def wsX6_badSharing : List Cond := .code yX6_badSharing cX6_badSharing 2 (some .boolean) :: ([.constantLong RX6 182 (6), .constantLong RX6 76 (24), .methodLink RX6 66 yX6_in, .static yX6_in, .initialized RX6, .code yX6_in cX6_in 6 (some .boolean)])
def wsX6_fewest_r1 : List Cond := [Cond.fieldLink RX6 63 "TwoKeysModel" "thrown" "I", Cond.constantLong RX6 182 (6), Cond.constant RX6 78 (-100002), Cond.methodLink RX6 66 yX6_in, Cond.static yX6_in, Cond.initialized RX6, Cond.code yX6_in cX6_in 6 (some .boolean), Cond.methodLink RX6 184 yX6_shareBest, Cond.instanceMethod yX6_shareBest, Cond.selects RX6 yX6_shareBest yX6_shareBest, Cond.code yX6_shareBest cX6_shareBest 9 (some .int), Cond.constant RX6 62 (-100009), Cond.fieldLink RX6 56 "TwoKeysModel" "best" "[I", Cond.constant RX6 174 (1000000), Cond.fieldLink RX6 179 "TwoKeysModel" "leastOf" "I", Cond.fieldLink RX6 7 "TwoKeysModel" "keys" "I", Cond.fieldLink RX6 53 "TwoKeysModel" "cost" "[I", Cond.fieldLink RX6 59 "TwoKeysModel" "groups" "[I", Cond.methodLink RX6 175 yX6_look, Cond.instanceMethod yX6_look, Cond.selects RX6 yX6_look yX6_look, Cond.code yX6_look cX6_look 8 none, Cond.methodLink RX6 170 yX6_togetherOf, Cond.instanceMethod yX6_togetherOf]
def wsX6_fewest_r2 : List Cond := [Cond.selects RX6 yX6_togetherOf yX6_togetherOf, Cond.code yX6_togetherOf cX6_togetherOf 8 (some .int), Cond.fieldLink RX6 35 "TwoKeysModel" "notes" "[I", Cond.fieldLink RX6 167 "TwoKeysModel" "book" "I", Cond.fieldLink RX6 38 "TwoKeysModel" "noteKey" "[I", Cond.methodLink RX6 154 yX6_meet, Cond.instanceMethod yX6_meet, Cond.selects RX6 yX6_meet yX6_meet, Cond.code yX6_meet cX6_meet 3 (some .boolean), Cond.fieldLink RX6 41 "TwoKeysModel" "begin" "[I", Cond.fieldLink RX6 44 "TwoKeysModel" "lasts" "[I"]
def wsX6_fewest : List Cond := .code yX6_fewest cX6_fewest 2 (some .int) :: ((wsX6_fewest_r1 ++ wsX6_fewest_r2) ++ wsX60)
def wsX6_least_r1 : List Cond := [Cond.fieldLink RX6 63 "TwoKeysModel" "thrown" "I", Cond.constant RX6 78 (-100002), Cond.constant RX6 62 (-100009), Cond.fieldLink RX6 179 "TwoKeysModel" "leastOf" "I", Cond.methodLink RX6 187 yX6_badSharing, Cond.static yX6_badSharing, Cond.initialized RX6, Cond.code yX6_badSharing cX6_badSharing 2 (some .boolean), Cond.constantLong RX6 182 (6), Cond.constantLong RX6 76 (24), Cond.methodLink RX6 66 yX6_in, Cond.static yX6_in, Cond.code yX6_in cX6_in 6 (some .boolean), Cond.methodLink RX6 184 yX6_shareBest, Cond.instanceMethod yX6_shareBest, Cond.selects RX6 yX6_shareBest yX6_shareBest, Cond.code yX6_shareBest cX6_shareBest 9 (some .int), Cond.fieldLink RX6 56 "TwoKeysModel" "best" "[I", Cond.constant RX6 174 (1000000), Cond.fieldLink RX6 7 "TwoKeysModel" "keys" "I", Cond.fieldLink RX6 53 "TwoKeysModel" "cost" "[I", Cond.fieldLink RX6 59 "TwoKeysModel" "groups" "[I", Cond.methodLink RX6 175 yX6_look, Cond.instanceMethod yX6_look]
def wsX6_least_r2 : List Cond := [Cond.selects RX6 yX6_look yX6_look, Cond.code yX6_look cX6_look 8 none, Cond.methodLink RX6 170 yX6_togetherOf, Cond.instanceMethod yX6_togetherOf, Cond.selects RX6 yX6_togetherOf yX6_togetherOf, Cond.code yX6_togetherOf cX6_togetherOf 8 (some .int), Cond.fieldLink RX6 35 "TwoKeysModel" "notes" "[I", Cond.fieldLink RX6 167 "TwoKeysModel" "book" "I", Cond.fieldLink RX6 38 "TwoKeysModel" "noteKey" "[I", Cond.methodLink RX6 154 yX6_meet, Cond.instanceMethod yX6_meet, Cond.selects RX6 yX6_meet yX6_meet, Cond.code yX6_meet cX6_meet 3 (some .boolean), Cond.fieldLink RX6 41 "TwoKeysModel" "begin" "[I", Cond.fieldLink RX6 44 "TwoKeysModel" "lasts" "[I"]
def wsX6_least : List Cond := .code yX6_least cX6_least 3 (some .int) :: ((wsX6_least_r1 ++ wsX6_least_r2) ++ wsX60)
def wsX6_group_r1 : List Cond := [Cond.fieldLink RX6 63 "TwoKeysModel" "thrown" "I", Cond.constant RX6 86 (-100001), Cond.constant RX6 78 (-100002), Cond.constant RX6 62 (-100009), Cond.fieldLink RX6 59 "TwoKeysModel" "groups" "[I", Cond.methodLink RX6 79 yX6_noKey, Cond.instanceMethod yX6_noKey, Cond.selects RX6 yX6_noKey yX6_noKey, Cond.initialized RX6, Cond.code yX6_noKey cX6_noKey 2 (some .boolean), Cond.fieldLink RX6 7 "TwoKeysModel" "keys" "I", Cond.methodLink RX6 66 yX6_in, Cond.static yX6_in, Cond.code yX6_in cX6_in 6 (some .boolean), Cond.methodLink RX6 187 yX6_badSharing, Cond.static yX6_badSharing, Cond.code yX6_badSharing cX6_badSharing 2 (some .boolean), Cond.constantLong RX6 182 (6), Cond.constantLong RX6 76 (24), Cond.methodLink RX6 184 yX6_shareBest, Cond.instanceMethod yX6_shareBest, Cond.selects RX6 yX6_shareBest yX6_shareBest, Cond.code yX6_shareBest cX6_shareBest 9 (some .int), Cond.fieldLink RX6 56 "TwoKeysModel" "best" "[I"]
def wsX6_group_r2 : List Cond := [Cond.constant RX6 174 (1000000), Cond.fieldLink RX6 179 "TwoKeysModel" "leastOf" "I", Cond.fieldLink RX6 53 "TwoKeysModel" "cost" "[I", Cond.methodLink RX6 175 yX6_look, Cond.instanceMethod yX6_look, Cond.selects RX6 yX6_look yX6_look, Cond.code yX6_look cX6_look 8 none, Cond.methodLink RX6 170 yX6_togetherOf, Cond.instanceMethod yX6_togetherOf, Cond.selects RX6 yX6_togetherOf yX6_togetherOf, Cond.code yX6_togetherOf cX6_togetherOf 8 (some .int), Cond.fieldLink RX6 35 "TwoKeysModel" "notes" "[I", Cond.fieldLink RX6 167 "TwoKeysModel" "book" "I", Cond.fieldLink RX6 38 "TwoKeysModel" "noteKey" "[I", Cond.methodLink RX6 154 yX6_meet, Cond.instanceMethod yX6_meet, Cond.selects RX6 yX6_meet yX6_meet, Cond.code yX6_meet cX6_meet 3 (some .boolean), Cond.fieldLink RX6 41 "TwoKeysModel" "begin" "[I", Cond.fieldLink RX6 44 "TwoKeysModel" "lasts" "[I"]
def wsX6_group : List Cond := .code yX6_group cX6_group 4 (some .int) :: ((wsX6_group_r1 ++ wsX6_group_r2) ++ wsX60)
def wsX6_setUp_r1 : List Cond := [Cond.fieldLink RX6 63 "TwoKeysModel" "thrown" "I", Cond.constant RX6 78 (-100002), Cond.fieldLink RX6 7 "TwoKeysModel" "keys" "I", Cond.constant RX6 62 (-100009), Cond.fieldLink RX6 13 "TwoKeysModel" "string" "[I", Cond.fieldLink RX6 59 "TwoKeysModel" "groups" "[I", Cond.methodLink RX6 187 yX6_badSharing, Cond.static yX6_badSharing, Cond.initialized RX6, Cond.code yX6_badSharing cX6_badSharing 2 (some .boolean), Cond.constantLong RX6 182 (6), Cond.constantLong RX6 76 (24), Cond.methodLink RX6 66 yX6_in, Cond.static yX6_in, Cond.code yX6_in cX6_in 6 (some .boolean), Cond.methodLink RX6 184 yX6_shareBest, Cond.instanceMethod yX6_shareBest, Cond.selects RX6 yX6_shareBest yX6_shareBest, Cond.code yX6_shareBest cX6_shareBest 9 (some .int), Cond.fieldLink RX6 56 "TwoKeysModel" "best" "[I", Cond.constant RX6 174 (1000000), Cond.fieldLink RX6 179 "TwoKeysModel" "leastOf" "I", Cond.fieldLink RX6 53 "TwoKeysModel" "cost" "[I", Cond.methodLink RX6 175 yX6_look]
def wsX6_setUp_r2 : List Cond := [Cond.instanceMethod yX6_look, Cond.selects RX6 yX6_look yX6_look, Cond.code yX6_look cX6_look 8 none, Cond.methodLink RX6 170 yX6_togetherOf, Cond.instanceMethod yX6_togetherOf, Cond.selects RX6 yX6_togetherOf yX6_togetherOf, Cond.code yX6_togetherOf cX6_togetherOf 8 (some .int), Cond.fieldLink RX6 35 "TwoKeysModel" "notes" "[I", Cond.fieldLink RX6 167 "TwoKeysModel" "book" "I", Cond.fieldLink RX6 38 "TwoKeysModel" "noteKey" "[I", Cond.methodLink RX6 154 yX6_meet, Cond.instanceMethod yX6_meet, Cond.selects RX6 yX6_meet yX6_meet, Cond.code yX6_meet cX6_meet 3 (some .boolean), Cond.fieldLink RX6 41 "TwoKeysModel" "begin" "[I", Cond.fieldLink RX6 44 "TwoKeysModel" "lasts" "[I"]
def wsX6_setUp : List Cond := .code yX6_setUp cX6_setUp 5 (some .int) :: ((wsX6_setUp_r1 ++ wsX6_setUp_r2) ++ wsX60)
def wsX6_measure : List Cond := .code yX6_measure cX6_measure 4 (some .int) :: ([.fieldLink RX6 63 "TwoKeysModel" "thrown" "I", .constant RX6 86 (-100001), .constant RX6 62 (-100009), .constantLong RX6 91 (100), .constantLong RX6 190 (400000), .constant RX6 78 (-100002), .fieldLink RX6 50 "TwoKeysModel" "measured" "[I", .methodLink RX6 79 yX6_noKey, .instanceMethod yX6_noKey, .selects RX6 yX6_noKey yX6_noKey, .initialized RX6, .code yX6_noKey cX6_noKey 2 (some .boolean), .fieldLink RX6 7 "TwoKeysModel" "keys" "I", .methodLink RX6 66 yX6_in, .static yX6_in, .code yX6_in cX6_in 6 (some .boolean)] ++ wsX60)
def wsX6_measuredKeys : List Cond := .code yX6_measuredKeys cX6_measuredKeys 3 (some .int) :: ([.fieldLink RX6 7 "TwoKeysModel" "keys" "I", .fieldLink RX6 50 "TwoKeysModel" "measured" "[I", .constant RX6 62 (-100009)] ++ wsX60)
def wsX6_misfitOf : List Cond := .code yX6_misfitOf cX6_misfitOf 6 (some .int) :: ([.fieldLink RX6 7 "TwoKeysModel" "keys" "I", .fieldLink RX6 50 "TwoKeysModel" "measured" "[I", .constant RX6 62 (-100009), .methodLink RX6 109 yX6_goalOf, .instanceMethod yX6_goalOf, .selects RX6 yX6_goalOf yX6_goalOf, .initialized RX6, .code yX6_goalOf cX6_goalOf 4 (some .int), .fieldLink RX6 26 "TwoKeysModel" "above" "[I", .fieldLink RX6 29 "TwoKeysModel" "below" "[I", .methodLink RX6 132 yX6_size, .static yX6_size, .code yX6_size cX6_size 1 (some .int)] ++ wsX60)
def wsX6_misfit_r1 : List Cond := [Cond.fieldLink RX6 63 "TwoKeysModel" "thrown" "I", Cond.constant RX6 86 (-100001), Cond.constantLong RX6 128 (1000), Cond.constantLong RX6 130 (200000), Cond.constant RX6 62 (-100009), Cond.constant RX6 78 (-100002), Cond.methodLink RX6 121 yX6_noScale, Cond.static yX6_noScale, Cond.initialized RX6, Cond.code yX6_noScale cX6_noScale 1 (some .boolean), Cond.constantLong RX6 72 (4), Cond.methodLink RX6 66 yX6_in, Cond.static yX6_in, Cond.code yX6_in cX6_in 6 (some .boolean), Cond.methodLink RX6 192 yX6_misfitOf, Cond.instanceMethod yX6_misfitOf, Cond.selects RX6 yX6_misfitOf yX6_misfitOf, Cond.code yX6_misfitOf cX6_misfitOf 6 (some .int), Cond.fieldLink RX6 7 "TwoKeysModel" "keys" "I", Cond.fieldLink RX6 50 "TwoKeysModel" "measured" "[I", Cond.methodLink RX6 109 yX6_goalOf, Cond.instanceMethod yX6_goalOf, Cond.selects RX6 yX6_goalOf yX6_goalOf, Cond.code yX6_goalOf cX6_goalOf 4 (some .int)]
def wsX6_misfit_r2 : List Cond := [Cond.fieldLink RX6 26 "TwoKeysModel" "above" "[I", Cond.fieldLink RX6 29 "TwoKeysModel" "below" "[I", Cond.methodLink RX6 132 yX6_size, Cond.static yX6_size, Cond.code yX6_size cX6_size 1 (some .int)]
def wsX6_misfit : List Cond := .code yX6_misfit cX6_misfit 3 (some .int) :: ((wsX6_misfit_r1 ++ wsX6_misfit_r2) ++ wsX60)
def wsX6_pitchOf : List Cond := .code yX6_pitchOf cX6_pitchOf 7 (some .int) :: ([.constant RX6 195 (200000), .fieldLink RX6 179 "TwoKeysModel" "leastOf" "I", .methodLink RX6 192 yX6_misfitOf, .instanceMethod yX6_misfitOf, .selects RX6 yX6_misfitOf yX6_misfitOf, .initialized RX6, .code yX6_misfitOf cX6_misfitOf 6 (some .int), .fieldLink RX6 7 "TwoKeysModel" "keys" "I", .fieldLink RX6 50 "TwoKeysModel" "measured" "[I", .constant RX6 62 (-100009), .methodLink RX6 109 yX6_goalOf, .instanceMethod yX6_goalOf, .selects RX6 yX6_goalOf yX6_goalOf, .code yX6_goalOf cX6_goalOf 4 (some .int), .fieldLink RX6 26 "TwoKeysModel" "above" "[I", .fieldLink RX6 29 "TwoKeysModel" "below" "[I", .methodLink RX6 132 yX6_size, .static yX6_size, .code yX6_size cX6_size 1 (some .int)] ++ wsX60)
def wsX6_found_r1 : List Cond := [Cond.fieldLink RX6 63 "TwoKeysModel" "thrown" "I", Cond.constant RX6 86 (-100001), Cond.constant RX6 78 (-100002), Cond.constant RX6 148 (-100003), Cond.constant RX6 62 (-100009), Cond.fieldLink RX6 179 "TwoKeysModel" "leastOf" "I", Cond.methodLink RX6 121 yX6_noScale, Cond.static yX6_noScale, Cond.initialized RX6, Cond.code yX6_noScale cX6_noScale 1 (some .boolean), Cond.constantLong RX6 72 (4), Cond.methodLink RX6 66 yX6_in, Cond.static yX6_in, Cond.code yX6_in cX6_in 6 (some .boolean), Cond.methodLink RX6 196 yX6_measuredKeys, Cond.instanceMethod yX6_measuredKeys, Cond.selects RX6 yX6_measuredKeys yX6_measuredKeys, Cond.code yX6_measuredKeys cX6_measuredKeys 3 (some .int), Cond.fieldLink RX6 7 "TwoKeysModel" "keys" "I", Cond.fieldLink RX6 50 "TwoKeysModel" "measured" "[I", Cond.methodLink RX6 199 yX6_pitchOf, Cond.instanceMethod yX6_pitchOf, Cond.selects RX6 yX6_pitchOf yX6_pitchOf, Cond.code yX6_pitchOf cX6_pitchOf 7 (some .int)]
def wsX6_found_r2 : List Cond := [Cond.constant RX6 195 (200000), Cond.methodLink RX6 192 yX6_misfitOf, Cond.instanceMethod yX6_misfitOf, Cond.selects RX6 yX6_misfitOf yX6_misfitOf, Cond.code yX6_misfitOf cX6_misfitOf 6 (some .int), Cond.methodLink RX6 109 yX6_goalOf, Cond.instanceMethod yX6_goalOf, Cond.selects RX6 yX6_goalOf yX6_goalOf, Cond.code yX6_goalOf cX6_goalOf 4 (some .int), Cond.fieldLink RX6 26 "TwoKeysModel" "above" "[I", Cond.fieldLink RX6 29 "TwoKeysModel" "below" "[I", Cond.methodLink RX6 132 yX6_size, Cond.static yX6_size, Cond.code yX6_size cX6_size 1 (some .int)]
def wsX6_found : List Cond := .code yX6_found cX6_found 4 (some .int) :: ((wsX6_found_r1 ++ wsX6_found_r2) ++ wsX60)
def wsX6_meantOf : List Cond := .code yX6_meantOf cX6_meantOf 5 (some .int) :: ([.constant RX6 62 (-100009), .fieldLink RX6 179 "TwoKeysModel" "leastOf" "I", .methodLink RX6 199 yX6_pitchOf, .instanceMethod yX6_pitchOf, .selects RX6 yX6_pitchOf yX6_pitchOf, .initialized RX6, .code yX6_pitchOf cX6_pitchOf 7 (some .int), .constant RX6 195 (200000), .methodLink RX6 192 yX6_misfitOf, .instanceMethod yX6_misfitOf, .selects RX6 yX6_misfitOf yX6_misfitOf, .code yX6_misfitOf cX6_misfitOf 6 (some .int), .fieldLink RX6 7 "TwoKeysModel" "keys" "I", .fieldLink RX6 50 "TwoKeysModel" "measured" "[I", .methodLink RX6 109 yX6_goalOf, .instanceMethod yX6_goalOf, .selects RX6 yX6_goalOf yX6_goalOf, .code yX6_goalOf cX6_goalOf 4 (some .int), .fieldLink RX6 26 "TwoKeysModel" "above" "[I", .fieldLink RX6 29 "TwoKeysModel" "below" "[I", .methodLink RX6 132 yX6_size, .static yX6_size, .code yX6_size cX6_size 1 (some .int)] ++ wsX60)
def wsX6_meant_r1 : List Cond := [Cond.fieldLink RX6 63 "TwoKeysModel" "thrown" "I", Cond.constant RX6 148 (-100003), Cond.methodLink RX6 196 yX6_measuredKeys, Cond.instanceMethod yX6_measuredKeys, Cond.selects RX6 yX6_measuredKeys yX6_measuredKeys, Cond.initialized RX6, Cond.code yX6_measuredKeys cX6_measuredKeys 3 (some .int), Cond.fieldLink RX6 7 "TwoKeysModel" "keys" "I", Cond.fieldLink RX6 50 "TwoKeysModel" "measured" "[I", Cond.constant RX6 62 (-100009), Cond.methodLink RX6 202 yX6_meantOf, Cond.instanceMethod yX6_meantOf, Cond.selects RX6 yX6_meantOf yX6_meantOf, Cond.code yX6_meantOf cX6_meantOf 5 (some .int), Cond.fieldLink RX6 179 "TwoKeysModel" "leastOf" "I", Cond.methodLink RX6 199 yX6_pitchOf, Cond.instanceMethod yX6_pitchOf, Cond.selects RX6 yX6_pitchOf yX6_pitchOf, Cond.code yX6_pitchOf cX6_pitchOf 7 (some .int), Cond.constant RX6 195 (200000), Cond.methodLink RX6 192 yX6_misfitOf, Cond.instanceMethod yX6_misfitOf, Cond.selects RX6 yX6_misfitOf yX6_misfitOf, Cond.code yX6_misfitOf cX6_misfitOf 6 (some .int)]
def wsX6_meant_r2 : List Cond := [Cond.methodLink RX6 109 yX6_goalOf, Cond.instanceMethod yX6_goalOf, Cond.selects RX6 yX6_goalOf yX6_goalOf, Cond.code yX6_goalOf cX6_goalOf 4 (some .int), Cond.fieldLink RX6 26 "TwoKeysModel" "above" "[I", Cond.fieldLink RX6 29 "TwoKeysModel" "below" "[I", Cond.methodLink RX6 132 yX6_size, Cond.static yX6_size, Cond.code yX6_size cX6_size 1 (some .int)]
def wsX6_meant : List Cond := .code yX6_meant cX6_meant 1 (some .int) :: ((wsX6_meant_r1 ++ wsX6_meant_r2) ++ wsX60)
def wsX6_added_r1 : List Cond := [Cond.fieldLink RX6 63 "TwoKeysModel" "thrown" "I", Cond.constant RX6 78 (-100002), Cond.constant RX6 148 (-100003), Cond.constant RX6 62 (-100009), Cond.fieldLink RX6 7 "TwoKeysModel" "keys" "I", Cond.fieldLink RX6 50 "TwoKeysModel" "measured" "[I", Cond.fieldLink RX6 179 "TwoKeysModel" "leastOf" "I", Cond.methodLink RX6 66 yX6_in, Cond.static yX6_in, Cond.initialized RX6, Cond.code yX6_in cX6_in 6 (some .boolean), Cond.methodLink RX6 196 yX6_measuredKeys, Cond.instanceMethod yX6_measuredKeys, Cond.selects RX6 yX6_measuredKeys yX6_measuredKeys, Cond.code yX6_measuredKeys cX6_measuredKeys 3 (some .int), Cond.methodLink RX6 202 yX6_meantOf, Cond.instanceMethod yX6_meantOf, Cond.selects RX6 yX6_meantOf yX6_meantOf, Cond.code yX6_meantOf cX6_meantOf 5 (some .int), Cond.methodLink RX6 199 yX6_pitchOf, Cond.instanceMethod yX6_pitchOf, Cond.selects RX6 yX6_pitchOf yX6_pitchOf, Cond.code yX6_pitchOf cX6_pitchOf 7 (some .int), Cond.constant RX6 195 (200000)]
def wsX6_added_r2 : List Cond := [Cond.methodLink RX6 192 yX6_misfitOf, Cond.instanceMethod yX6_misfitOf, Cond.selects RX6 yX6_misfitOf yX6_misfitOf, Cond.code yX6_misfitOf cX6_misfitOf 6 (some .int), Cond.methodLink RX6 109 yX6_goalOf, Cond.instanceMethod yX6_goalOf, Cond.selects RX6 yX6_goalOf yX6_goalOf, Cond.code yX6_goalOf cX6_goalOf 4 (some .int), Cond.fieldLink RX6 26 "TwoKeysModel" "above" "[I", Cond.fieldLink RX6 29 "TwoKeysModel" "below" "[I", Cond.methodLink RX6 132 yX6_size, Cond.static yX6_size, Cond.code yX6_size cX6_size 1 (some .int)]
def wsX6_added : List Cond := .code yX6_added cX6_added 7 (some .int) :: ((wsX6_added_r1 ++ wsX6_added_r2) ++ wsX60)
def wsX6_bentLater_r1 : List Cond := [Cond.fieldLink RX6 63 "TwoKeysModel" "thrown" "I", Cond.constantLong RX6 190 (400000), Cond.constant RX6 78 (-100002), Cond.constant RX6 148 (-100003), Cond.constant RX6 62 (-100009), Cond.fieldLink RX6 7 "TwoKeysModel" "keys" "I", Cond.fieldLink RX6 50 "TwoKeysModel" "measured" "[I", Cond.methodLink RX6 66 yX6_in, Cond.static yX6_in, Cond.initialized RX6, Cond.code yX6_in cX6_in 6 (some .boolean), Cond.methodLink RX6 196 yX6_measuredKeys, Cond.instanceMethod yX6_measuredKeys, Cond.selects RX6 yX6_measuredKeys yX6_measuredKeys, Cond.code yX6_measuredKeys cX6_measuredKeys 3 (some .int), Cond.methodLink RX6 202 yX6_meantOf, Cond.instanceMethod yX6_meantOf, Cond.selects RX6 yX6_meantOf yX6_meantOf, Cond.code yX6_meantOf cX6_meantOf 5 (some .int), Cond.fieldLink RX6 179 "TwoKeysModel" "leastOf" "I", Cond.methodLink RX6 199 yX6_pitchOf, Cond.instanceMethod yX6_pitchOf, Cond.selects RX6 yX6_pitchOf yX6_pitchOf, Cond.code yX6_pitchOf cX6_pitchOf 7 (some .int)]
def wsX6_bentLater_r2 : List Cond := [Cond.constant RX6 195 (200000), Cond.methodLink RX6 192 yX6_misfitOf, Cond.instanceMethod yX6_misfitOf, Cond.selects RX6 yX6_misfitOf yX6_misfitOf, Cond.code yX6_misfitOf cX6_misfitOf 6 (some .int), Cond.methodLink RX6 109 yX6_goalOf, Cond.instanceMethod yX6_goalOf, Cond.selects RX6 yX6_goalOf yX6_goalOf, Cond.code yX6_goalOf cX6_goalOf 4 (some .int), Cond.fieldLink RX6 26 "TwoKeysModel" "above" "[I", Cond.fieldLink RX6 29 "TwoKeysModel" "below" "[I", Cond.methodLink RX6 132 yX6_size, Cond.static yX6_size, Cond.code yX6_size cX6_size 1 (some .int)]
def wsX6_bentLater : List Cond := .code yX6_bentLater cX6_bentLater 7 (some .int) :: ((wsX6_bentLater_r1 ++ wsX6_bentLater_r2) ++ wsX60)
def wsX6_count : List Cond := .code yX6_count cX6_count 7 (some .int) :: ([.fieldLink RX6 63 "TwoKeysModel" "thrown" "I", .fieldLink RX6 35 "TwoKeysModel" "notes" "[I", .fieldLink RX6 167 "TwoKeysModel" "book" "I", .fieldLink RX6 7 "TwoKeysModel" "keys" "I", .fieldLink RX6 20 "TwoKeysModel" "bent" "[I", .constant RX6 78 (-100002), .methodLink RX6 118 yX6_onString, .instanceMethod yX6_onString, .selects RX6 yX6_onString yX6_onString, .initialized RX6, .code yX6_onString cX6_onString 4 (some .int), .fieldLink RX6 13 "TwoKeysModel" "string" "[I", .methodLink RX6 196 yX6_measuredKeys, .instanceMethod yX6_measuredKeys, .selects RX6 yX6_measuredKeys yX6_measuredKeys, .code yX6_measuredKeys cX6_measuredKeys 3 (some .int), .fieldLink RX6 50 "TwoKeysModel" "measured" "[I", .constant RX6 62 (-100009)] ++ wsX60)
def wsJ9_abs_0f7a4 : List Cond := .code yJ9_abs_0f7a4 cJ9_abs_0f7a4 1 (some .int) :: ([])
def wsJ9_max_7cf53 : List Cond := .code yJ9_max_7cf53 cJ9_max_7cf53 2 (some .int) :: ([])
def wsJ9_min_7cf53 : List Cond := .code yJ9_min_7cf53 cJ9_min_7cf53 2 (some .int) :: ([])
def wsL_law_r1 : List Cond := [Cond.classLink RL 7 RX5, Cond.instantiable RX5 9, Cond.initialized RX5, Cond.classLink RL 10 RX6, Cond.instantiable RX6 21, Cond.initialized RX6, Cond.methodLink RL 9 yX5_init, Cond.instanceMethod yX5_init, Cond.code yX5_init cX5_init 1 none, Cond.methodLink RX5 1 objectInit, Cond.instanceMethod objectInit, Cond.code objectInit ⟨#[0xb1]⟩ 1 none, Cond.fieldLink RX5 7 "TwoKeys" "scaleInUse" "I", Cond.fieldLink RX5 13 "TwoKeys" "pitchNow" "I", Cond.fieldLink RX5 16 "TwoKeys" "restNow" "I", Cond.fieldLink RX5 19 "TwoKeys" "bookNow" "I", Cond.classLink RX5 22 RX0, Cond.instantiable RX0 5, Cond.initialized RX0, Cond.fieldLink RX5 25 "TwoKeys" "board" "LTwoKeys$Board;", Cond.classLink RX5 29 RX3, Cond.instantiable RX3 2, Cond.initialized RX3, Cond.fieldLink RX5 32 "TwoKeys" "scales" "LTwoKeys$Scales;"]
def wsL_law_r2 : List Cond := [Cond.classLink RX5 36 RX1, Cond.instantiable RX1 5, Cond.initialized RX1, Cond.fieldLink RX5 41 "TwoKeys" "music" "LTwoKeys$Music;", Cond.classLink RX5 45 RX4, Cond.instantiable RX4 5, Cond.initialized RX4, Cond.fieldLink RX5 48 "TwoKeys" "sharing" "LTwoKeys$Sharing;", Cond.classLink RX5 52 RX2, Cond.instantiable RX2 5, Cond.initialized RX2, Cond.fieldLink RX5 57 "TwoKeys" "oldOne" "LTwoKeys$OldOne;", Cond.methodLink RX5 24 yX0_init, Cond.instanceMethod yX0_init, Cond.code yX0_init cX0_init 2 none, Cond.methodLink RX0 3 objectInit, Cond.fieldLink RX0 9 "TwoKeys$Board" "size" "I", Cond.arrayClass .int, Cond.fieldLink RX0 15 "TwoKeys$Board" "struck" "[I", Cond.fieldLink RX0 19 "TwoKeys$Board" "lengths" "[I", Cond.fieldLink RX0 22 "TwoKeys$Board" "bends" "[I", Cond.fieldLink RX0 25 "TwoKeys$Board" "tensions" "[I", Cond.methodLink RX5 31 yX3_init, Cond.instanceMethod yX3_init]
def wsL_law_r3 : List Cond := [Cond.code yX3_init cX3_init 2 none, Cond.methodLink RX3 3 objectInit, Cond.fieldLink RX3 9 "TwoKeys$Scales" "aboves" "[I", Cond.fieldLink RX3 15 "TwoKeys$Scales" "belows" "[I", Cond.methodLink RX5 38 yX1_init, Cond.instanceMethod yX1_init, Cond.code yX1_init cX1_init 2 none, Cond.methodLink RX1 3 objectInit, Cond.fieldLink RX1 9 "TwoKeys$Music" "keyAt" "[I", Cond.fieldLink RX1 15 "TwoKeys$Music" "beginAt" "[I", Cond.fieldLink RX1 18 "TwoKeys$Music" "lengthAt" "[I", Cond.fieldLink RX1 21 "TwoKeys$Music" "sizes" "[I", Cond.fieldLink RX1 24 "TwoKeys$Music" "board" "LTwoKeys$Board;", Cond.instanceMethod yX4_init, Cond.code yX4_init cX4_init 1 none, Cond.methodLink RX4 3 objectInit, Cond.fieldLink RX4 9 "TwoKeys$Sharing" "pairs" "[I", Cond.fieldLink RX4 15 "TwoKeys$Sharing" "leasts" "[I", Cond.fieldLink RX4 18 "TwoKeys$Sharing" "groupOf" "[I", Cond.fieldLink RX4 21 "TwoKeys$Sharing" "size" "I", Cond.fieldLink RX4 25 "TwoKeys$Sharing" "most" "I", Cond.methodLink RX5 54 yX2_init, Cond.instanceMethod yX2_init, Cond.code yX2_init cX2_init 4 none]
def wsL_law_r4 : List Cond := [Cond.methodLink RX2 3 objectInit, Cond.fieldLink RX2 9 "TwoKeys$OldOne" "measured" "[I", Cond.fieldLink RX2 15 "TwoKeys$OldOne" "pitchFound" "I", Cond.fieldLink RX2 19 "TwoKeys$OldOne" "misfitFound" "I", Cond.fieldLink RX2 22 "TwoKeys$OldOne" "board" "LTwoKeys$Board;", Cond.fieldLink RX2 26 "TwoKeys$OldOne" "scales" "LTwoKeys$Scales;", Cond.constant RX2 30 (-100009), Cond.methodLink RL 12 yX6_init, Cond.instanceMethod yX6_init, Cond.code yX6_init cX6_init 2 none, Cond.methodLink RX6 1 objectInit, Cond.fieldLink RX6 7 "TwoKeysModel" "keys" "I", Cond.fieldLink RX6 13 "TwoKeysModel" "string" "[I", Cond.fieldLink RX6 17 "TwoKeysModel" "length" "[I", Cond.fieldLink RX6 20 "TwoKeysModel" "bent" "[I", Cond.fieldLink RX6 23 "TwoKeysModel" "tension" "[I", Cond.fieldLink RX6 26 "TwoKeysModel" "above" "[I", Cond.fieldLink RX6 29 "TwoKeysModel" "below" "[I", Cond.fieldLink RX6 32 "TwoKeysModel" "pitch" "I", Cond.fieldLink RX6 35 "TwoKeysModel" "notes" "[I", Cond.fieldLink RX6 38 "TwoKeysModel" "noteKey" "[I", Cond.fieldLink RX6 41 "TwoKeysModel" "begin" "[I", Cond.fieldLink RX6 44 "TwoKeysModel" "lasts" "[I", Cond.fieldLink RX6 47 "TwoKeysModel" "rest" "I"]
def wsL_law_r5 : List Cond := [Cond.fieldLink RX6 50 "TwoKeysModel" "measured" "[I", Cond.fieldLink RX6 53 "TwoKeysModel" "cost" "[I", Cond.fieldLink RX6 56 "TwoKeysModel" "best" "[I", Cond.fieldLink RX6 59 "TwoKeysModel" "groups" "[I", Cond.constant RX6 62 (-100009), Cond.methodLink RL 13 yX5_keys, Cond.instanceMethod yX5_keys, Cond.selects RX5 yX5_keys yX5_keys, Cond.code yX5_keys cX5_keys 3 (some .int), Cond.constant RX5 65 (-100002), Cond.fieldLink RX5 66 "TwoKeys$Board" "size" "I", Cond.methodLink RX5 61 yX5_within, Cond.static yX5_within, Cond.code yX5_within cX5_within 3 (some .boolean), Cond.methodLink RL 17 yX6_keys, Cond.instanceMethod yX6_keys, Cond.selects RX6 yX6_keys yX6_keys, Cond.code yX6_keys cX6_keys 3 (some .int), Cond.fieldLink RX6 63 "TwoKeysModel" "thrown" "I", Cond.constantLong RX6 76 (24), Cond.constant RX6 78 (-100002), Cond.methodLink RX6 66 yX6_in, Cond.static yX6_in, Cond.code yX6_in cX6_in 6 (some .boolean)]
def wsL_law_r6 : List Cond := [Cond.methodLink RL 18 yX5_strike, Cond.instanceMethod yX5_strike, Cond.selects RX5 yX5_strike yX5_strike, Cond.code yX5_strike cX5_strike 5 (some .int), Cond.constant RX5 76 (-100001), Cond.fieldLink RX5 77 "TwoKeys$Board" "struck" "[I", Cond.fieldLink RX5 81 "TwoKeys$Board" "lengths" "[I", Cond.fieldLink RX5 84 "TwoKeys$Board" "bends" "[I", Cond.methodLink RX5 69 yX0_has, Cond.instanceMethod yX0_has, Cond.selects RX0 yX0_has yX0_has, Cond.code yX0_has cX0_has 2 (some .boolean), Cond.methodLink RX5 73 yX5_isString, Cond.static yX5_isString, Cond.code yX5_isString cX5_isString 1 (some .boolean), Cond.methodLink RL 22 yX6_strike, Cond.instanceMethod yX6_strike, Cond.selects RX6 yX6_strike yX6_strike, Cond.code yX6_strike cX6_strike 5 (some .int), Cond.constant RX6 86 (-100001), Cond.constantLong RX6 87 (500), Cond.constantLong RX6 89 (9999), Cond.methodLink RX6 79 yX6_noKey, Cond.instanceMethod yX6_noKey]
def wsL_law_r7 : List Cond := [Cond.selects RX6 yX6_noKey yX6_noKey, Cond.code yX6_noKey cX6_noKey 2 (some .boolean), Cond.methodLink RX6 83 yX6_noString, Cond.static yX6_noString, Cond.code yX6_noString cX6_noString 1 (some .boolean), Cond.constantLong RX6 70 (23), Cond.methodLink RL 23 yX5_tension, Cond.instanceMethod yX5_tension, Cond.selects RX5 yX5_tension yX5_tension, Cond.code yX5_tension cX5_tension 4 (some .int), Cond.fieldLink RX5 87 "TwoKeys$Board" "tensions" "[I", Cond.methodLink RL 27 yX6_tension, Cond.instanceMethod yX6_tension, Cond.selects RX6 yX6_tension yX6_tension, Cond.code yX6_tension cX6_tension 4 (some .int), Cond.constantLong RX6 91 (100), Cond.constantLong RX6 93 (20000), Cond.methodLink RL 28 yX5_bend, Cond.instanceMethod yX5_bend, Cond.selects RX5 yX5_bend yX5_bend, Cond.code yX5_bend cX5_bend 4 (some .int), Cond.methodLink RL 31 yX6_bend, Cond.instanceMethod yX6_bend, Cond.selects RX6 yX6_bend yX6_bend]
def wsL_law_r8 : List Cond := [Cond.code yX6_bend cX6_bend 4 (some .int), Cond.constantLong RX6 95 (-40), Cond.constantLong RX6 97 (40), Cond.methodLink RL 32 yX5_about, Cond.instanceMethod yX5_about, Cond.selects RX5 yX5_about yX5_about, Cond.code yX5_about cX5_about 3 (some .int), Cond.methodLink RX5 90 yX0_toneOf, Cond.instanceMethod yX0_toneOf, Cond.selects RX0 yX0_toneOf yX0_toneOf, Cond.code yX0_toneOf cX0_toneOf 2 (some .int), Cond.methodLink RX0 28 yX0_toneBent, Cond.instanceMethod yX0_toneBent, Cond.selects RX0 yX0_toneBent yX0_toneBent, Cond.code yX0_toneBent cX0_toneBent 4 (some .int), Cond.methodLink RX5 94 yX5_goalOf, Cond.instanceMethod yX5_goalOf, Cond.selects RX5 yX5_goalOf yX5_goalOf, Cond.code yX5_goalOf cX5_goalOf 2 (some .int), Cond.methodLink RX5 249 yX3_goalAt, Cond.instanceMethod yX3_goalAt, Cond.selects RX3 yX3_goalAt yX3_goalAt, Cond.code yX3_goalAt cX3_goalAt 7 (some .int), Cond.methodLink RX5 97 yX5_errorOf]
def wsL_law_r9 : List Cond := [Cond.instanceMethod yX5_errorOf, Cond.selects RX5 yX5_errorOf yX5_errorOf, Cond.code yX5_errorOf cX5_errorOf 2 (some .int), Cond.methodLink RL 35 yX6_about, Cond.instanceMethod yX6_about, Cond.selects RX6 yX6_about yX6_about, Cond.code yX6_about cX6_about 3 (some .int), Cond.fieldLink RX6 106 "TwoKeysModel" "scale" "I", Cond.methodLink RX6 103 yX6_toneOf, Cond.instanceMethod yX6_toneOf, Cond.selects RX6 yX6_toneOf yX6_toneOf, Cond.code yX6_toneOf cX6_toneOf 2 (some .int), Cond.methodLink RX6 99 yX6_soundsOf, Cond.instanceMethod yX6_soundsOf, Cond.selects RX6 yX6_soundsOf yX6_soundsOf, Cond.code yX6_soundsOf cX6_soundsOf 2 (some .int), Cond.methodLink RX6 109 yX6_goalOf, Cond.instanceMethod yX6_goalOf, Cond.selects RX6 yX6_goalOf yX6_goalOf, Cond.code yX6_goalOf cX6_goalOf 4 (some .int), Cond.methodLink RX6 113 yX6_errorOf, Cond.instanceMethod yX6_errorOf, Cond.selects RX6 yX6_errorOf yX6_errorOf, Cond.code yX6_errorOf cX6_errorOf 2 (some .int)]
def wsL_law_r10 : List Cond := [Cond.methodLink RL 36 yX5_pressed, Cond.instanceMethod yX5_pressed, Cond.selects RX5 yX5_pressed yX5_pressed, Cond.code yX5_pressed cX5_pressed 4 (some .int), Cond.methodLink RL 39 yX6_pressed, Cond.instanceMethod yX6_pressed, Cond.selects RX6 yX6_pressed yX6_pressed, Cond.code yX6_pressed cX6_pressed 3 (some .int), Cond.constantLong RX6 116 (20), Cond.methodLink RL 40 yX5_sharers, Cond.instanceMethod yX5_sharers, Cond.selects RX5 yX5_sharers yX5_sharers, Cond.code yX5_sharers cX5_sharers 2 (some .int), Cond.methodLink RX5 100 yX0_strikersOf, Cond.instanceMethod yX0_strikersOf, Cond.selects RX0 yX0_strikersOf yX0_strikersOf, Cond.code yX0_strikersOf cX0_strikersOf 4 (some .int), Cond.methodLink RL 43 yX6_sharers, Cond.instanceMethod yX6_sharers, Cond.selects RX6 yX6_sharers yX6_sharers, Cond.code yX6_sharers cX6_sharers 2 (some .int), Cond.methodLink RX6 118 yX6_onString, Cond.instanceMethod yX6_onString, Cond.selects RX6 yX6_onString yX6_onString]
def wsL_law_r11 : List Cond := [Cond.code yX6_onString cX6_onString 4 (some .int), Cond.methodLink RL 44 yX5_order, Cond.instanceMethod yX5_order, Cond.selects RX5 yX5_order yX5_order, Cond.code yX5_order cX5_order 1 (some .int), Cond.methodLink RX5 103 yX0_isInOrder, Cond.instanceMethod yX0_isInOrder, Cond.selects RX0 yX0_isInOrder yX0_isInOrder, Cond.code yX0_isInOrder cX0_isInOrder 3 (some .boolean), Cond.methodLink RX0 36 yX0_doShare, Cond.instanceMethod yX0_doShare, Cond.selects RX0 yX0_doShare yX0_doShare, Cond.code yX0_doShare cX0_doShare 3 (some .boolean), Cond.methodLink RX0 32 yX0_has, Cond.methodLink RX0 40 yX0_soundingLength, Cond.instanceMethod yX0_soundingLength, Cond.selects RX0 yX0_soundingLength yX0_soundingLength, Cond.code yX0_soundingLength cX0_soundingLength 2 (some .int), Cond.methodLink RX5 107 yX5_asNumber, Cond.static yX5_asNumber, Cond.code yX5_asNumber cX5_asNumber 1 (some .int), Cond.methodLink RL 48 yX6_order, Cond.instanceMethod yX6_order, Cond.selects RX6 yX6_order yX6_order]
def wsL_law_r12 : List Cond := [Cond.code yX6_order cX6_order 4 (some .int), Cond.methodLink RL 49 yX5_step, Cond.instanceMethod yX5_step, Cond.selects RX5 yX5_step yX5_step, Cond.code yX5_step cX5_step 5 (some .int), Cond.methodLink RX5 111 yX5_isScale, Cond.static yX5_isScale, Cond.code yX5_isScale cX5_isScale 1 (some .boolean), Cond.methodLink RX5 114 yX5_isStep, Cond.static yX5_isStep, Cond.code yX5_isStep cX5_isStep 1 (some .boolean), Cond.methodLink RX5 117 yX3_put, Cond.instanceMethod yX3_put, Cond.selects RX3 yX3_put yX3_put, Cond.code yX3_put cX3_put 5 none, Cond.methodLink RL 53 yX6_step, Cond.instanceMethod yX6_step, Cond.selects RX6 yX6_step yX6_step, Cond.code yX6_step cX6_step 5 (some .int), Cond.constantLong RX6 124 (11), Cond.constantLong RX6 126 (999), Cond.methodLink RX6 121 yX6_noScale, Cond.static yX6_noScale, Cond.code yX6_noScale cX6_noScale 1 (some .boolean)]
def wsL_law_r13 : List Cond := [Cond.constantLong RX6 72 (4), Cond.methodLink RL 54 yX5_share, Cond.instanceMethod yX5_share, Cond.selects RX5 yX5_share yX5_share, Cond.code yX5_share cX5_share 4 (some .int), Cond.methodLink RX5 121 yX3_partOf, Cond.instanceMethod yX3_partOf, Cond.selects RX3 yX3_partOf yX3_partOf, Cond.code yX3_partOf cX3_partOf 5 (some .int), Cond.methodLink RL 58 yX6_share, Cond.instanceMethod yX6_share, Cond.selects RX6 yX6_share yX6_share, Cond.code yX6_share cX6_share 4 (some .int), Cond.methodLink RL 59 yX5_use, Cond.instanceMethod yX5_use, Cond.selects RX5 yX5_use yX5_use, Cond.code yX5_use cX5_use 3 (some .int), Cond.methodLink RL 62 yX6_use, Cond.instanceMethod yX6_use, Cond.selects RX6 yX6_use yX6_use, Cond.code yX6_use cX6_use 3 (some .int), Cond.methodLink RL 63 yX5_pitch, Cond.instanceMethod yX5_pitch, Cond.selects RX5 yX5_pitch yX5_pitch]
def wsL_law_r14 : List Cond := [Cond.code yX5_pitch cX5_pitch 3 (some .int), Cond.methodLink RX5 125 yX5_isPitch, Cond.static yX5_isPitch, Cond.code yX5_isPitch cX5_isPitch 1 (some .boolean), Cond.constant RX5 264 (200000), Cond.methodLink RL 66 yX6_pitch, Cond.instanceMethod yX6_pitch, Cond.selects RX6 yX6_pitch yX6_pitch, Cond.code yX6_pitch cX6_pitch 3 (some .int), Cond.constantLong RX6 128 (1000), Cond.constantLong RX6 130 (200000), Cond.methodLink RL 67 yX5_wrong, Cond.instanceMethod yX5_wrong, Cond.selects RX5 yX5_wrong yX5_wrong, Cond.code yX5_wrong cX5_wrong 1 (some .int), Cond.methodLink RX5 128 yX5_allErrors, Cond.instanceMethod yX5_allErrors, Cond.selects RX5 yX5_allErrors yX5_allErrors, Cond.code yX5_allErrors cX5_allErrors 3 (some .int), Cond.methodLink RX5 136 Lib.Math.abs.name, Cond.static Lib.Math.abs.name, Cond.initialized "java/lang/Math", Cond.code Lib.Math.abs.name Lib.Math.abs.code 1 (some .int), Cond.methodLink RL 70 yX6_wrong]
def wsL_law_r15 : List Cond := [Cond.instanceMethod yX6_wrong, Cond.selects RX6 yX6_wrong yX6_wrong, Cond.code yX6_wrong cX6_wrong 1 (some .int), Cond.methodLink RX6 135 yX6_allWrong, Cond.instanceMethod yX6_allWrong, Cond.selects RX6 yX6_allWrong yX6_allWrong, Cond.code yX6_allWrong cX6_allWrong 3 (some .int), Cond.methodLink RX6 132 yX6_size, Cond.static yX6_size, Cond.code yX6_size cX6_size 1 (some .int), Cond.methodLink RL 71 yX5_tune, Cond.instanceMethod yX5_tune, Cond.selects RX5 yX5_tune yX5_tune, Cond.code yX5_tune cX5_tune 2 (some .int), Cond.methodLink RX5 132 yX5_tuneOne, Cond.instanceMethod yX5_tuneOne, Cond.selects RX5 yX5_tuneOne yX5_tuneOne, Cond.code yX5_tuneOne cX5_tuneOne 8 none, Cond.methodLink RX5 252 yX0_toneBent, Cond.methodLink RL 74 yX6_tune, Cond.instanceMethod yX6_tune, Cond.selects RX6 yX6_tune yX6_tune, Cond.code yX6_tune cX6_tune 2 (some .int), Cond.methodLink RX6 139 yX6_bendBest]
def wsL_law_r16 : List Cond := [Cond.instanceMethod yX6_bendBest, Cond.selects RX6 yX6_bendBest yX6_bendBest, Cond.code yX6_bendBest cX6_bendBest 6 none, Cond.methodLink RL 75 yX5_tuneAll, Cond.instanceMethod yX5_tuneAll, Cond.selects RX5 yX5_tuneAll yX5_tuneAll, Cond.code yX5_tuneAll cX5_tuneAll 2 (some .int), Cond.methodLink RL 78 yX6_tuneAll, Cond.instanceMethod yX6_tuneAll, Cond.selects RX6 yX6_tuneAll yX6_tuneAll, Cond.code yX6_tuneAll cX6_tuneAll 2 (some .int), Cond.methodLink RL 79 yX5_worst, Cond.instanceMethod yX5_worst, Cond.selects RX5 yX5_worst yX5_worst, Cond.code yX5_worst cX5_worst 5 (some .int), Cond.methodLink RL 82 yX6_worst, Cond.instanceMethod yX6_worst, Cond.selects RX6 yX6_worst yX6_worst, Cond.code yX6_worst cX6_worst 3 (some .int), Cond.methodLink RL 83 yX5_note, Cond.instanceMethod yX5_note, Cond.selects RX5 yX5_note yX5_note, Cond.code yX5_note cX5_note 5 (some .int), Cond.constant RX5 147 (-100003)]
def wsL_law_r17 : List Cond := [Cond.constant RX5 151 (-100004), Cond.methodLink RX5 141 yX5_isPiece, Cond.static yX5_isPiece, Cond.code yX5_isPiece cX5_isPiece 1 (some .boolean), Cond.methodLink RX5 144 yX1_lastBegin, Cond.instanceMethod yX1_lastBegin, Cond.selects RX1 yX1_lastBegin yX1_lastBegin, Cond.code yX1_lastBegin cX1_lastBegin 2 (some .int), Cond.methodLink RX1 28 yX1_endOf, Cond.instanceMethod yX1_endOf, Cond.selects RX1 yX1_endOf yX1_endOf, Cond.code yX1_endOf cX1_endOf 2 (some .int), Cond.methodLink RX5 148 yX1_isFull, Cond.instanceMethod yX1_isFull, Cond.selects RX1 yX1_isFull yX1_isFull, Cond.code yX1_isFull cX1_isFull 2 (some .boolean), Cond.methodLink RX5 152 yX1_append, Cond.instanceMethod yX1_append, Cond.selects RX1 yX1_append yX1_append, Cond.code yX1_append cX1_append 6 (some .int), Cond.methodLink RL 86 yX6_note, Cond.instanceMethod yX6_note, Cond.selects RX6 yX6_note yX6_note, Cond.code yX6_note cX6_note 6 (some .int)]
def wsL_law_r18 : List Cond := [Cond.constantLong RX6 146 (99), Cond.constant RX6 148 (-100003), Cond.constant RX6 149 (-100004), Cond.methodLink RX6 143 yX6_noPiece, Cond.static yX6_noPiece, Cond.code yX6_noPiece cX6_noPiece 1 (some .boolean), Cond.constantLong RX6 74 (3), Cond.methodLink RL 87 yX5_wipe, Cond.instanceMethod yX5_wipe, Cond.selects RX5 yX5_wipe yX5_wipe, Cond.code yX5_wipe cX5_wipe 3 (some .int), Cond.fieldLink RX5 156 "TwoKeys$Music" "sizes" "[I", Cond.methodLink RL 90 yX6_wipe, Cond.instanceMethod yX6_wipe, Cond.selects RX6 yX6_wipe yX6_wipe, Cond.code yX6_wipe cX6_wipe 3 (some .int), Cond.methodLink RL 91 yX5_rest, Cond.instanceMethod yX5_rest, Cond.selects RX5 yX5_rest yX5_rest, Cond.code yX5_rest cX5_rest 3 (some .int), Cond.methodLink RL 94 yX6_rest, Cond.instanceMethod yX6_rest, Cond.selects RX6 yX6_rest yX6_rest, Cond.code yX6_rest cX6_rest 3 (some .int)]
def wsL_law_r19 : List Cond := [Cond.methodLink RL 95 yX5_clashes, Cond.instanceMethod yX5_clashes, Cond.selects RX5 yX5_clashes yX5_clashes, Cond.code yX5_clashes cX5_clashes 2 (some .int), Cond.methodLink RX5 159 yX1_countClashes, Cond.instanceMethod yX1_countClashes, Cond.selects RX1 yX1_countClashes yX1_countClashes, Cond.code yX1_countClashes cX1_countClashes 5 (some .int), Cond.methodLink RX1 44 yX1_startOf, Cond.instanceMethod yX1_startOf, Cond.selects RX1 yX1_startOf yX1_startOf, Cond.code yX1_startOf cX1_startOf 2 (some .int), Cond.methodLink RX1 47 yX1_doClash, Cond.instanceMethod yX1_doClash, Cond.selects RX1 yX1_doClash yX1_doClash, Cond.code yX1_doClash cX1_doClash 3 (some .boolean), Cond.methodLink RX1 35 yX0_doShare, Cond.methodLink RX1 41 yX1_soundAtOnce, Cond.instanceMethod yX1_soundAtOnce, Cond.selects RX1 yX1_soundAtOnce yX1_soundAtOnce, Cond.code yX1_soundAtOnce cX1_soundAtOnce 3 (some .boolean), Cond.methodLink RX1 32 yX1_tickBehind, Cond.instanceMethod yX1_tickBehind, Cond.selects RX1 yX1_tickBehind yX1_tickBehind]
def wsL_law_r20 : List Cond := [Cond.code yX1_tickBehind cX1_tickBehind 2 (some .int), Cond.methodLink RL 98 yX6_clashes, Cond.instanceMethod yX6_clashes, Cond.selects RX6 yX6_clashes yX6_clashes, Cond.code yX6_clashes cX6_clashes 2 (some .int), Cond.methodLink RX6 157 yX6_clashesOf, Cond.instanceMethod yX6_clashesOf, Cond.selects RX6 yX6_clashesOf yX6_clashesOf, Cond.code yX6_clashesOf cX6_clashesOf 5 (some .int), Cond.methodLink RX6 150 yX6_shares, Cond.instanceMethod yX6_shares, Cond.selects RX6 yX6_shares yX6_shares, Cond.code yX6_shares cX6_shares 5 (some .boolean), Cond.methodLink RX6 154 yX6_meet, Cond.instanceMethod yX6_meet, Cond.selects RX6 yX6_meet yX6_meet, Cond.code yX6_meet cX6_meet 3 (some .boolean), Cond.methodLink RL 99 yX5_clash, Cond.instanceMethod yX5_clash, Cond.selects RX5 yX5_clash yX5_clash, Cond.code yX5_clash cX5_clash 3 (some .int), Cond.methodLink RX5 162 yX1_clashNumbered, Cond.instanceMethod yX1_clashNumbered, Cond.selects RX1 yX1_clashNumbered yX1_clashNumbered]
def wsL_law_r21 : List Cond := [Cond.code yX1_clashNumbered cX1_clashNumbered 7 (some .int), Cond.constant RX1 50 (-100009), Cond.methodLink RL 102 yX6_clash, Cond.instanceMethod yX6_clash, Cond.selects RX6 yX6_clash yX6_clash, Cond.code yX6_clash cX6_clash 6 (some .int), Cond.methodLink RL 103 yX5_chokes, Cond.instanceMethod yX5_chokes, Cond.selects RX5 yX5_chokes yX5_chokes, Cond.code yX5_chokes cX5_chokes 2 (some .int), Cond.methodLink RX5 166 yX1_countChokes, Cond.instanceMethod yX1_countChokes, Cond.selects RX1 yX1_countChokes yX1_countChokes, Cond.code yX1_countChokes cX1_countChokes 7 (some .int), Cond.methodLink RL 106 yX6_chokes, Cond.instanceMethod yX6_chokes, Cond.selects RX6 yX6_chokes yX6_chokes, Cond.code yX6_chokes cX6_chokes 6 (some .int), Cond.methodLink RL 107 yX5_trills, Cond.instanceMethod yX5_trills, Cond.selects RX5 yX5_trills yX5_trills, Cond.code yX5_trills cX5_trills 3 (some .int), Cond.methodLink RX5 169 yX1_countTrills, Cond.instanceMethod yX1_countTrills]
def wsL_law_r22 : List Cond := [Cond.selects RX1 yX1_countTrills yX1_countTrills, Cond.code yX1_countTrills cX1_countTrills 6 (some .int), Cond.methodLink RX1 51 yX1_lastOfTrill, Cond.instanceMethod yX1_lastOfTrill, Cond.selects RX1 yX1_lastOfTrill yX1_lastOfTrill, Cond.code yX1_lastOfTrill cX1_lastOfTrill 5 (some .int), Cond.methodLink RX1 55 yX1_goesOn, Cond.instanceMethod yX1_goesOn, Cond.selects RX1 yX1_goesOn yX1_goesOn, Cond.code yX1_goesOn cX1_goesOn 3 (some .boolean), Cond.methodLink RL 111 yX6_trills, Cond.instanceMethod yX6_trills, Cond.selects RX6 yX6_trills yX6_trills, Cond.code yX6_trills cX6_trills 9 (some .int), Cond.methodLink RL 112 yX5_heard, Cond.instanceMethod yX5_heard, Cond.selects RX5 yX5_heard yX5_heard, Cond.code yX5_heard cX5_heard 4 (some .int), Cond.methodLink RX5 173 yX1_keyHeard, Cond.instanceMethod yX1_keyHeard, Cond.selects RX1 yX1_keyHeard yX1_keyHeard, Cond.code yX1_keyHeard cX1_keyHeard 7 (some .int), Cond.methodLink RX1 58 yX0_strikes, Cond.instanceMethod yX0_strikes]
def wsL_law_r23 : List Cond := [Cond.selects RX0 yX0_strikes yX0_strikes, Cond.code yX0_strikes cX0_strikes 3 (some .boolean), Cond.methodLink RX1 61 yX1_soundsAt, Cond.instanceMethod yX1_soundsAt, Cond.selects RX1 yX1_soundsAt yX1_soundsAt, Cond.code yX1_soundsAt cX1_soundsAt 3 (some .boolean), Cond.methodLink RX1 64 yX0_stopsNearer, Cond.instanceMethod yX0_stopsNearer, Cond.selects RX0 yX0_stopsNearer yX0_stopsNearer, Cond.code yX0_stopsNearer cX0_stopsNearer 5 (some .boolean), Cond.methodLink RL 115 yX6_heard, Cond.instanceMethod yX6_heard, Cond.selects RX6 yX6_heard yX6_heard, Cond.code yX6_heard cX6_heard 4 (some .int), Cond.constantLong RX6 160 (1100), Cond.methodLink RX6 162 yX6_heardOf, Cond.instanceMethod yX6_heardOf, Cond.selects RX6 yX6_heardOf yX6_heardOf, Cond.code yX6_heardOf cX6_heardOf 8 (some .int), Cond.methodLink RL 116 yX5_lost, Cond.instanceMethod yX5_lost, Cond.selects RX5 yX5_lost yX5_lost, Cond.code yX5_lost cX5_lost 3 (some .int), Cond.methodLink RX5 177 yX1_ticksLost]
def wsL_law_r24 : List Cond := [Cond.instanceMethod yX1_ticksLost, Cond.selects RX1 yX1_ticksLost yX1_ticksLost, Cond.code yX1_ticksLost cX1_ticksLost 8 (some .int), Cond.fieldLink RX1 67 "TwoKeys$Board" "struck" "[I", Cond.methodLink RX1 70 Lib.Math.max.name, Cond.static Lib.Math.max.name, Cond.code Lib.Math.max.name Lib.Math.max.code 2 (some .int), Cond.methodLink RX1 75 yX1_keyHeard, Cond.methodLink RL 119 yX6_lost, Cond.instanceMethod yX6_lost, Cond.selects RX6 yX6_lost yX6_lost, Cond.code yX6_lost cX6_lost 7 (some .int), Cond.methodLink RL 120 yX5_passes, Cond.instanceMethod yX5_passes, Cond.selects RX5 yX5_passes yX5_passes, Cond.code yX5_passes cX5_passes 2 (some .int), Cond.methodLink RX5 180 yX1_allKeysThere, Cond.instanceMethod yX1_allKeysThere, Cond.selects RX1 yX1_allKeysThere yX1_allKeysThere, Cond.code yX1_allKeysThere cX1_allKeysThere 3 (some .boolean), Cond.methodLink RX1 79 yX0_has, Cond.methodLink RL 123 yX6_passes, Cond.instanceMethod yX6_passes, Cond.selects RX6 yX6_passes yX6_passes]
def wsL_law_r25 : List Cond := [Cond.code yX6_passes cX6_passes 4 (some .int), Cond.methodLink RL 124 yX5_book, Cond.instanceMethod yX5_book, Cond.selects RX5 yX5_book yX5_book, Cond.code yX5_book cX5_book 3 (some .int), Cond.methodLink RL 127 yX6_book, Cond.instanceMethod yX6_book, Cond.selects RX6 yX6_book yX6_book, Cond.code yX6_book cX6_book 3 (some .int), Cond.constantLong RX6 165 (15), Cond.fieldLink RX6 167 "TwoKeysModel" "book" "I", Cond.methodLink RL 128 yX5_together, Cond.instanceMethod yX5_together, Cond.selects RX5 yX5_together yX5_together, Cond.code yX5_together cX5_together 3 (some .int), Cond.methodLink RX5 183 yX4_gather, Cond.instanceMethod yX4_gather, Cond.selects RX4 yX4_gather yX4_gather, Cond.code yX4_gather cX4_gather 4 none, Cond.methodLink RX4 28 yX4_gatherPiece, Cond.instanceMethod yX4_gatherPiece, Cond.selects RX4 yX4_gatherPiece yX4_gatherPiece, Cond.code yX4_gatherPiece cX4_gatherPiece 5 none, Cond.fieldLink RX4 45 "TwoKeys$Music" "keyAt" "[I"]
def wsL_law_r26 : List Cond := [Cond.methodLink RX4 32 yX1_startOf, Cond.methodLink RX4 38 yX1_endOf, Cond.methodLink RX4 41 yX1_soundAtOnce, Cond.methodLink RX4 48 yX4_addPair, Cond.instanceMethod yX4_addPair, Cond.selects RX4 yX4_addPair yX4_addPair, Cond.code yX4_addPair cX4_addPair 3 none, Cond.methodLink RX4 52 Lib.Math.min.name, Cond.static Lib.Math.min.name, Cond.code Lib.Math.min.name Lib.Math.min.code 2 (some .int), Cond.methodLink RX4 58 Lib.Math.max.name, Cond.methodLink RX5 187 yX4_clashesOf, Cond.instanceMethod yX4_clashesOf, Cond.selects RX4 yX4_clashesOf yX4_clashesOf, Cond.code yX4_clashesOf cX4_clashesOf 5 (some .int), Cond.methodLink RX4 61 yX4_clashesBelow, Cond.instanceMethod yX4_clashesBelow, Cond.selects RX4 yX4_clashesBelow yX4_clashesBelow, Cond.code yX4_clashesBelow cX4_clashesBelow 5 (some .int), Cond.methodLink RL 131 yX6_together, Cond.instanceMethod yX6_together, Cond.selects RX6 yX6_together yX6_together, Cond.code yX6_together cX6_together 3 (some .int), Cond.methodLink RX6 170 yX6_togetherOf]
def wsL_law_r27 : List Cond := [Cond.instanceMethod yX6_togetherOf, Cond.selects RX6 yX6_togetherOf yX6_togetherOf, Cond.code yX6_togetherOf cX6_togetherOf 8 (some .int), Cond.methodLink RL 132 yX5_fewest, Cond.instanceMethod yX5_fewest, Cond.selects RX5 yX5_fewest yX5_fewest, Cond.code yX5_fewest cX5_fewest 2 (some .int), Cond.methodLink RX5 190 yX5_isMost, Cond.static yX5_isMost, Cond.code yX5_isMost cX5_isMost 1 (some .boolean), Cond.methodLink RX5 193 yX5_findStrings, Cond.instanceMethod yX5_findStrings, Cond.selects RX5 yX5_findStrings yX5_findStrings, Cond.code yX5_findStrings cX5_findStrings 3 (some .int), Cond.methodLink RX5 255 yX4_solve, Cond.instanceMethod yX4_solve, Cond.selects RX4 yX4_solve yX4_solve, Cond.code yX4_solve cX4_solve 5 none, Cond.constant RX4 64 (1000000), Cond.methodLink RX4 65 yX4_leastFrom, Cond.instanceMethod yX4_leastFrom, Cond.selects RX4 yX4_leastFrom yX4_leastFrom, Cond.code yX4_leastFrom cX4_leastFrom 6 (some .int), Cond.methodLink RX5 258 yX4_fewestStrings]
def wsL_law_r28 : List Cond := [Cond.instanceMethod yX4_fewestStrings, Cond.selects RX4 yX4_fewestStrings yX4_fewestStrings, Cond.code yX4_fewestStrings cX4_fewestStrings 2 (some .int), Cond.methodLink RX4 68 yX4_leastWith, Cond.instanceMethod yX4_leastWith, Cond.selects RX4 yX4_leastWith yX4_leastWith, Cond.code yX4_leastWith cX4_leastWith 2 (some .int), Cond.methodLink RX5 261 yX4_bestStrings, Cond.instanceMethod yX4_bestStrings, Cond.selects RX4 yX4_bestStrings yX4_bestStrings, Cond.code yX4_bestStrings cX4_bestStrings 5 (some .int), Cond.constant RX4 71 (-100009), Cond.methodLink RL 135 yX6_fewest, Cond.instanceMethod yX6_fewest, Cond.selects RX6 yX6_fewest yX6_fewest, Cond.code yX6_fewest cX6_fewest 2 (some .int), Cond.constantLong RX6 182 (6), Cond.methodLink RX6 184 yX6_shareBest, Cond.instanceMethod yX6_shareBest, Cond.selects RX6 yX6_shareBest yX6_shareBest, Cond.code yX6_shareBest cX6_shareBest 9 (some .int), Cond.constant RX6 174 (1000000), Cond.fieldLink RX6 179 "TwoKeysModel" "leastOf" "I", Cond.methodLink RX6 175 yX6_look]
def wsL_law_r29 : List Cond := [Cond.instanceMethod yX6_look, Cond.selects RX6 yX6_look yX6_look, Cond.code yX6_look cX6_look 8 none, Cond.methodLink RL 136 yX5_least, Cond.instanceMethod yX5_least, Cond.selects RX5 yX5_least yX5_least, Cond.code yX5_least cX5_least 4 (some .int), Cond.constant RX5 196 (-100009), Cond.methodLink RX5 197 yX4_leastWith, Cond.methodLink RL 139 yX6_least, Cond.instanceMethod yX6_least, Cond.selects RX6 yX6_least yX6_least, Cond.code yX6_least cX6_least 3 (some .int), Cond.methodLink RX6 187 yX6_badSharing, Cond.static yX6_badSharing, Cond.code yX6_badSharing cX6_badSharing 2 (some .boolean), Cond.methodLink RL 140 yX5_group, Cond.instanceMethod yX5_group, Cond.selects RX5 yX5_group yX5_group, Cond.code yX5_group cX5_group 5 (some .int), Cond.fieldLink RX5 203 "TwoKeys$Sharing" "groupOf" "[I", Cond.methodLink RX5 200 yX4_layOut, Cond.instanceMethod yX4_layOut, Cond.selects RX4 yX4_layOut yX4_layOut]
def wsL_law_r30 : List Cond := [Cond.code yX4_layOut cX4_layOut 6 none, Cond.methodLink RX4 72 yX4_greatestGroupEnd, Cond.instanceMethod yX4_greatestGroupEnd, Cond.selects RX4 yX4_greatestGroupEnd yX4_greatestGroupEnd, Cond.code yX4_greatestGroupEnd cX4_greatestGroupEnd 7 (some .int), Cond.methodLink RL 143 yX6_group, Cond.instanceMethod yX6_group, Cond.selects RX6 yX6_group yX6_group, Cond.code yX6_group cX6_group 4 (some .int), Cond.methodLink RL 144 yX5_setUp, Cond.instanceMethod yX5_setUp, Cond.selects RX5 yX5_setUp yX5_setUp, Cond.code yX5_setUp cX5_setUp 5 (some .int), Cond.methodLink RL 147 yX6_setUp, Cond.instanceMethod yX6_setUp, Cond.selects RX6 yX6_setUp yX6_setUp, Cond.code yX6_setUp cX6_setUp 5 (some .int), Cond.methodLink RL 148 yX5_measure, Cond.instanceMethod yX5_measure, Cond.selects RX5 yX5_measure yX5_measure, Cond.code yX5_measure cX5_measure 4 (some .int), Cond.constant RX5 206 (400000), Cond.fieldLink RX5 207 "TwoKeys$OldOne" "measured" "[I", Cond.methodLink RL 151 yX6_measure]
def wsL_law_r31 : List Cond := [Cond.instanceMethod yX6_measure, Cond.selects RX6 yX6_measure yX6_measure, Cond.code yX6_measure cX6_measure 4 (some .int), Cond.constantLong RX6 190 (400000), Cond.methodLink RL 152 yX5_misfit, Cond.instanceMethod yX5_misfit, Cond.selects RX5 yX5_misfit yX5_misfit, Cond.code yX5_misfit cX5_misfit 3 (some .int), Cond.methodLink RX5 210 yX2_misfitAt, Cond.instanceMethod yX2_misfitAt, Cond.selects RX2 yX2_misfitAt yX2_misfitAt, Cond.code yX2_misfitAt cX2_misfitAt 6 (some .int), Cond.fieldLink RX2 31 "TwoKeys$Board" "size" "I", Cond.methodLink RX2 42 Lib.Math.abs.name, Cond.methodLink RX2 36 yX3_goalAt, Cond.methodLink RL 155 yX6_misfit, Cond.instanceMethod yX6_misfit, Cond.selects RX6 yX6_misfit yX6_misfit, Cond.code yX6_misfit cX6_misfit 3 (some .int), Cond.methodLink RX6 192 yX6_misfitOf, Cond.instanceMethod yX6_misfitOf, Cond.selects RX6 yX6_misfitOf yX6_misfitOf, Cond.code yX6_misfitOf cX6_misfitOf 6 (some .int), Cond.methodLink RL 156 yX5_found]
def wsL_law_r32 : List Cond := [Cond.instanceMethod yX5_found, Cond.selects RX5 yX5_found yX5_found, Cond.code yX5_found cX5_found 3 (some .int), Cond.fieldLink RX5 220 "TwoKeys$OldOne" "pitchFound" "I", Cond.fieldLink RX5 223 "TwoKeys$OldOne" "misfitFound" "I", Cond.methodLink RX5 213 yX2_countMeasured, Cond.instanceMethod yX2_countMeasured, Cond.selects RX2 yX2_countMeasured yX2_countMeasured, Cond.code yX2_countMeasured cX2_countMeasured 3 (some .int), Cond.methodLink RX5 216 yX2_seek, Cond.instanceMethod yX2_seek, Cond.selects RX2 yX2_seek yX2_seek, Cond.code yX2_seek cX2_seek 8 none, Cond.constant RX2 55 (200000), Cond.methodLink RX2 48 yX2_likelyPitch, Cond.instanceMethod yX2_likelyPitch, Cond.selects RX2 yX2_likelyPitch yX2_likelyPitch, Cond.code yX2_likelyPitch cX2_likelyPitch 9 (some .int), Cond.methodLink RX2 52 yX2_misfitAt, Cond.methodLink RL 159 yX6_found, Cond.instanceMethod yX6_found, Cond.selects RX6 yX6_found yX6_found, Cond.code yX6_found cX6_found 4 (some .int), Cond.methodLink RX6 196 yX6_measuredKeys]
def wsL_law_r33 : List Cond := [Cond.instanceMethod yX6_measuredKeys, Cond.selects RX6 yX6_measuredKeys yX6_measuredKeys, Cond.code yX6_measuredKeys cX6_measuredKeys 3 (some .int), Cond.methodLink RX6 199 yX6_pitchOf, Cond.instanceMethod yX6_pitchOf, Cond.selects RX6 yX6_pitchOf yX6_pitchOf, Cond.code yX6_pitchOf cX6_pitchOf 7 (some .int), Cond.constant RX6 195 (200000), Cond.methodLink RL 160 yX5_meant, Cond.instanceMethod yX5_meant, Cond.selects RX5 yX5_meant yX5_meant, Cond.code yX5_meant cX5_meant 1 (some .int), Cond.methodLink RX5 226 yX2_scaleMeant, Cond.instanceMethod yX2_scaleMeant, Cond.selects RX2 yX2_scaleMeant yX2_scaleMeant, Cond.code yX2_scaleMeant cX2_scaleMeant 5 (some .int), Cond.methodLink RX2 56 yX2_seek, Cond.methodLink RL 163 yX6_meant, Cond.instanceMethod yX6_meant, Cond.selects RX6 yX6_meant yX6_meant, Cond.code yX6_meant cX6_meant 1 (some .int), Cond.methodLink RX6 202 yX6_meantOf, Cond.instanceMethod yX6_meantOf, Cond.selects RX6 yX6_meantOf yX6_meantOf]
def wsL_law_r34 : List Cond := [Cond.code yX6_meantOf cX6_meantOf 5 (some .int), Cond.methodLink RL 164 yX5_added, Cond.instanceMethod yX5_added, Cond.selects RX5 yX5_added yX5_added, Cond.code yX5_added cX5_added 3 (some .int), Cond.methodLink RX5 229 yX2_keyAdded, Cond.instanceMethod yX2_keyAdded, Cond.selects RX2 yX2_keyAdded yX2_keyAdded, Cond.code yX2_keyAdded cX2_keyAdded 5 (some .int), Cond.methodLink RX2 60 yX2_scaleMeant, Cond.methodLink RL 167 yX6_added, Cond.instanceMethod yX6_added, Cond.selects RX6 yX6_added yX6_added, Cond.code yX6_added cX6_added 7 (some .int), Cond.methodLink RL 168 yX5_bentLater, Cond.instanceMethod yX5_bentLater, Cond.selects RX5 yX5_bentLater yX5_bentLater, Cond.code yX5_bentLater cX5_bentLater 3 (some .int), Cond.methodLink RX5 232 yX2_keyBentLater, Cond.instanceMethod yX2_keyBentLater, Cond.selects RX2 yX2_keyBentLater yX2_keyBentLater, Cond.code yX2_keyBentLater cX2_keyBentLater 6 (some .int), Cond.methodLink RL 171 yX6_bentLater, Cond.instanceMethod yX6_bentLater]
def wsL_law_r35 : List Cond := [Cond.selects RX6 yX6_bentLater yX6_bentLater, Cond.code yX6_bentLater cX6_bentLater 7 (some .int), Cond.methodLink RL 172 yX5_count, Cond.instanceMethod yX5_count, Cond.selects RX5 yX5_count yX5_count, Cond.code yX5_count cX5_count 2 (some .int), Cond.methodLink RX5 235 yX0_countStruck, Cond.instanceMethod yX0_countStruck, Cond.selects RX0 yX0_countStruck yX0_countStruck, Cond.code yX0_countStruck cX0_countStruck 3 (some .int), Cond.methodLink RX0 44 yX0_strikersOf, Cond.methodLink RX5 238 yX1_countNotes, Cond.instanceMethod yX1_countNotes, Cond.selects RX1 yX1_countNotes yX1_countNotes, Cond.code yX1_countNotes cX1_countNotes 3 (some .int), Cond.methodLink RX5 241 yJ6_bitCount_0f7a4, Cond.static yJ6_bitCount_0f7a4, Cond.initialized RJ6, Cond.code yJ6_bitCount_0f7a4 cJ6_bitCount_0f7a4 1 (some .int), Cond.constant RJ6 265 (1431655765), Cond.constant RJ6 266 (858993459), Cond.constant RJ6 267 (252645135), Cond.methodLink RX5 246 yX0_countBent, Cond.instanceMethod yX0_countBent]
def wsL_law_r36 : List Cond := [Cond.selects RX0 yX0_countBent yX0_countBent, Cond.code yX0_countBent cX0_countBent 3 (some .int), Cond.methodLink RL 175 yX6_count, Cond.instanceMethod yX6_count, Cond.selects RX6 yX6_count yX6_count, Cond.code yX6_count cX6_count 7 (some .int)]
def wsL_law : List Cond := (wsL_law_r1 ++ (wsL_law_r2 ++ (wsL_law_r3 ++ (wsL_law_r4 ++ (wsL_law_r5 ++ (wsL_law_r6 ++ (wsL_law_r7 ++ (wsL_law_r8 ++ (wsL_law_r9 ++ (wsL_law_r10 ++ (wsL_law_r11 ++ (wsL_law_r12 ++ (wsL_law_r13 ++ (wsL_law_r14 ++ (wsL_law_r15 ++ (wsL_law_r16 ++ (wsL_law_r17 ++ (wsL_law_r18 ++ (wsL_law_r19 ++ (wsL_law_r20 ++ (wsL_law_r21 ++ (wsL_law_r22 ++ (wsL_law_r23 ++ (wsL_law_r24 ++ (wsL_law_r25 ++ (wsL_law_r26 ++ (wsL_law_r27 ++ (wsL_law_r28 ++ (wsL_law_r29 ++ (wsL_law_r30 ++ (wsL_law_r31 ++ (wsL_law_r32 ++ (wsL_law_r33 ++ (wsL_law_r34 ++ (wsL_law_r35 ++ wsL_law_r36))))))))))))))))))))))))))))))))))) ++ wsX50 ++ wsX60 ++ wsX00 ++ wsX30 ++ wsX10 ++ wsX40 ++ wsX20 ++ ([] : List Cond)
theorem mem_r {big : List Cond} (ws : List Cond) (ps : List Nat) (hp : ws = ps.filterMap (fun i => big[i]?)) : ∀ w ∈ ws, w ∈ big := by
  intro w hw
  rw [hp] at hw
  obtain ⟨i, -, hi⟩ := List.mem_filterMap.mp hw
  first | exact List.mem_of_getElem? hi | exact List.getElem?_mem hi
theorem wsL_law_r1_in : ∀ w ∈ wsL_law_r1, w ∈ lw_tbl := mem_r _ [34, 35, 25, 636, 637, 31, 36, 37, 38, 39, 40, 41, 163, 164, 165, 166, 42, 43, 26, 158, 72, 73, 27, 159] (by decide +kernel)
theorem wsL_law_r2_in : ∀ w ∈ wsL_law_r2, w ∈ lw_tbl := mem_r _ [85, 86, 28, 160, 109, 110, 29, 161, 132, 133, 30, 162, 44, 45, 46, 47, 48, 71, 51, 54, 56, 58, 74, 75] (by decide +kernel)
theorem wsL_law_r3_in : ∀ w ∈ wsL_law_r3, w ∈ lw_tbl := mem_r _ [76, 77, 78, 79, 87, 88, 89, 90, 92, 94, 95, 96, 91, 112, 113, 114, 115, 116, 117, 119, 120, 134, 135, 136] (by decide +kernel)
theorem wsL_law_r4_in : ∀ w ∈ wsL_law_r4, w ∈ lw_tbl := mem_r _ [137, 141, 143, 145, 139, 140, 138, 638, 639, 640, 641, 644, 645, 646, 647, 648, 649, 650, 652, 653, 654, 655, 656, 657] (by decide +kernel)
theorem wsL_law_r5_in : ∀ w ∈ wsL_law_r5, w ∈ lw_tbl := mem_r _ [659, 660, 661, 662, 642, 186, 187, 188, 189, 193, 50, 190, 191, 192, 707, 708, 709, 710, 643, 711, 715, 712, 713, 714] (by decide +kernel)
theorem wsL_law_r6_in : ∀ w ∈ wsL_law_r6, w ∈ lw_tbl := mem_r _ [194, 195, 196, 197, 205, 52, 55, 57, 198, 199, 200, 201, 202, 203, 204, 716, 717, 718, 719, 728, 729, 730, 720, 722] (by decide +kernel)
theorem wsL_law_r7_in : ∀ w ∈ wsL_law_r7, w ∈ lw_tbl := mem_r _ [5, 723, 724, 725, 726, 727, 206, 207, 208, 209, 59, 731, 732, 733, 734, 735, 736, 210, 211, 212, 213, 737, 738, 739] (by decide +kernel)
theorem wsL_law_r8_in : ∀ w ∈ wsL_law_r8, w ∈ lw_tbl := mem_r _ [740, 741, 742, 214, 215, 216, 217, 218, 219, 220, 221, 222, 223, 224, 225, 226, 228, 0, 229, 230, 231, 232, 233, 234] (by decide +kernel)
theorem wsL_law_r9_in : ∀ w ∈ wsL_law_r9, w ∈ lw_tbl := mem_r _ [236, 1, 237, 743, 744, 745, 746, 651, 747, 749, 6, 750, 751, 753, 7, 754, 755, 757, 8, 758, 759, 761, 9, 762] (by decide +kernel)
theorem wsL_law_r10_in : ∀ w ∈ wsL_law_r10, w ∈ lw_tbl := mem_r _ [238, 239, 240, 241, 763, 764, 765, 766, 767, 242, 243, 244, 245, 246, 247, 248, 249, 768, 769, 770, 771, 772, 774, 10] (by decide +kernel)
theorem wsL_law_r11_in : ∀ w ∈ wsL_law_r11, w ∈ lw_tbl := mem_r _ [775, 250, 251, 252, 253, 254, 255, 256, 257, 258, 259, 260, 261, 262, 263, 264, 265, 266, 267, 268, 269, 776, 777, 778] (by decide +kernel)
theorem wsL_law_r12_in : ∀ w ∈ wsL_law_r12, w ∈ lw_tbl := mem_r _ [779, 270, 271, 272, 273, 274, 275, 276, 277, 278, 279, 280, 281, 282, 283, 780, 781, 782, 783, 788, 789, 784, 785, 786] (by decide +kernel)
theorem wsL_law_r13_in : ∀ w ∈ wsL_law_r13, w ∈ lw_tbl := mem_r _ [787, 284, 285, 286, 287, 288, 289, 290, 291, 790, 791, 792, 793, 292, 293, 294, 295, 794, 795, 796, 797, 296, 297, 298] (by decide +kernel)
theorem wsL_law_r14_in : ∀ w ∈ wsL_law_r14, w ∈ lw_tbl := mem_r _ [299, 300, 301, 302, 303, 798, 799, 800, 801, 802, 803, 304, 305, 306, 307, 308, 310, 2, 311, 312, 313, 32, 314, 804] (by decide +kernel)
theorem wsL_law_r15_in : ∀ w ∈ wsL_law_r15, w ∈ lw_tbl := mem_r _ [805, 806, 807, 808, 810, 11, 811, 812, 813, 814, 315, 316, 317, 318, 319, 321, 3, 322, 323, 815, 816, 817, 818, 819] (by decide +kernel)
theorem wsL_law_r16_in : ∀ w ∈ wsL_law_r16, w ∈ lw_tbl := mem_r _ [821, 12, 822, 324, 325, 326, 327, 823, 824, 825, 826, 328, 329, 330, 331, 827, 828, 829, 830, 332, 333, 334, 335, 347] (by decide +kernel)
theorem wsL_law_r17_in : ∀ w ∈ wsL_law_r17, w ∈ lw_tbl := mem_r _ [352, 336, 337, 338, 339, 340, 341, 342, 343, 344, 345, 346, 348, 349, 350, 351, 353, 354, 355, 356, 831, 832, 833, 834] (by decide +kernel)
theorem wsL_law_r18_in : ∀ w ∈ wsL_law_r18, w ∈ lw_tbl := mem_r _ [839, 840, 841, 835, 836, 837, 838, 357, 358, 359, 360, 97, 842, 843, 844, 845, 361, 362, 363, 364, 846, 847, 848, 849] (by decide +kernel)
theorem wsL_law_r19_in : ∀ w ∈ wsL_law_r19, w ∈ lw_tbl := mem_r _ [365, 366, 367, 368, 369, 370, 371, 372, 373, 374, 375, 376, 377, 378, 379, 380, 381, 382, 383, 384, 385, 386, 387, 388] (by decide +kernel)
theorem wsL_law_r20_in : ∀ w ∈ wsL_law_r20, w ∈ lw_tbl := mem_r _ [389, 850, 851, 852, 853, 854, 856, 13, 857, 858, 860, 14, 861, 862, 864, 15, 865, 390, 391, 392, 393, 394, 395, 396] (by decide +kernel)
theorem wsL_law_r21_in : ∀ w ∈ wsL_law_r21, w ∈ lw_tbl := mem_r _ [397, 398, 866, 867, 868, 869, 399, 400, 401, 402, 403, 404, 405, 406, 870, 871, 872, 873, 407, 408, 409, 410, 411, 412] (by decide +kernel)
theorem wsL_law_r22_in : ∀ w ∈ wsL_law_r22, w ∈ lw_tbl := mem_r _ [413, 414, 415, 416, 417, 418, 419, 420, 421, 422, 874, 875, 876, 877, 423, 424, 425, 426, 427, 428, 429, 430, 431, 432] (by decide +kernel)
theorem wsL_law_r23_in : ∀ w ∈ wsL_law_r23, w ∈ lw_tbl := mem_r _ [433, 434, 435, 436, 437, 438, 439, 440, 441, 442, 878, 879, 880, 881, 882, 883, 885, 16, 886, 443, 444, 445, 446, 447] (by decide +kernel)
theorem wsL_law_r24_in : ∀ w ∈ wsL_law_r24, w ∈ lw_tbl := mem_r _ [448, 449, 450, 53, 451, 452, 453, 454, 887, 888, 889, 890, 455, 456, 457, 458, 459, 460, 461, 462, 463, 891, 892, 893] (by decide +kernel)
theorem wsL_law_r25_in : ∀ w ∈ wsL_law_r25, w ∈ lw_tbl := mem_r _ [894, 464, 465, 466, 467, 895, 896, 897, 898, 899, 658, 468, 469, 470, 471, 472, 473, 474, 475, 476, 477, 478, 479, 93] (by decide +kernel)
theorem wsL_law_r26_in : ∀ w ∈ wsL_law_r26, w ∈ lw_tbl := mem_r _ [480, 481, 482, 483, 484, 485, 486, 487, 488, 489, 490, 491, 492, 493, 494, 495, 496, 497, 498, 900, 901, 902, 903, 904] (by decide +kernel)
theorem wsL_law_r27_in : ∀ w ∈ wsL_law_r27, w ∈ lw_tbl := mem_r _ [906, 17, 907, 499, 500, 501, 502, 503, 504, 505, 506, 508, 4, 509, 510, 511, 512, 513, 514, 515, 516, 517, 518, 519] (by decide +kernel)
theorem wsL_law_r28_in : ∀ w ∈ wsL_law_r28, w ∈ lw_tbl := mem_r _ [520, 521, 522, 523, 524, 525, 526, 527, 528, 529, 530, 531, 908, 909, 910, 911, 912, 913, 915, 18, 916, 921, 663, 917] (by decide +kernel)
theorem wsL_law_r29_in : ∀ w ∈ wsL_law_r29, w ∈ lw_tbl := mem_r _ [919, 19, 920, 532, 533, 534, 535, 536, 537, 922, 923, 924, 925, 926, 927, 928, 538, 539, 540, 541, 118, 542, 543, 544] (by decide +kernel)
theorem wsL_law_r30_in : ∀ w ∈ wsL_law_r30, w ∈ lw_tbl := mem_r _ [545, 546, 547, 548, 549, 929, 930, 931, 932, 550, 551, 552, 553, 933, 934, 935, 936, 554, 555, 556, 557, 558, 142, 937] (by decide +kernel)
theorem wsL_law_r31_in : ∀ w ∈ wsL_law_r31, w ∈ lw_tbl := mem_r _ [938, 939, 940, 941, 559, 560, 561, 562, 563, 564, 565, 566, 49, 568, 567, 942, 943, 944, 945, 946, 948, 20, 949, 569] (by decide +kernel)
theorem wsL_law_r32_in : ∀ w ∈ wsL_law_r32, w ∈ lw_tbl := mem_r _ [570, 571, 572, 144, 146, 573, 574, 575, 576, 577, 578, 579, 580, 586, 581, 582, 583, 584, 585, 950, 951, 952, 953, 954] (by decide +kernel)
theorem wsL_law_r33_in : ∀ w ∈ wsL_law_r33, w ∈ lw_tbl := mem_r _ [956, 21, 957, 958, 960, 22, 961, 962, 587, 588, 589, 590, 591, 592, 593, 594, 595, 963, 964, 965, 966, 967, 969, 23] (by decide +kernel)
theorem wsL_law_r34_in : ∀ w ∈ wsL_law_r34, w ∈ lw_tbl := mem_r _ [970, 596, 597, 598, 599, 600, 601, 602, 603, 604, 971, 972, 973, 974, 605, 606, 607, 608, 609, 610, 611, 612, 975, 976] (by decide +kernel)
theorem wsL_law_r35_in : ∀ w ∈ wsL_law_r35, w ∈ lw_tbl := mem_r _ [977, 978, 613, 614, 615, 616, 617, 618, 619, 620, 621, 622, 623, 624, 625, 626, 627, 33, 628, 629, 630, 631, 632, 633] (by decide +kernel)
theorem wsL_law_r36_in : ∀ w ∈ wsL_law_r36, w ∈ lw_tbl := mem_r _ [634, 635, 979, 980, 981, 982] (by decide +kernel)
theorem wsX00_in : ∀ w ∈ wsX00, w ∈ lw_tbl := mem_r _ [60, 62, 64, 66, 68] (by decide +kernel)
theorem wsX10_in : ∀ w ∈ wsX10, w ∈ lw_tbl := mem_r _ [98, 100, 102, 104, 106] (by decide +kernel)
theorem wsX20_in : ∀ w ∈ wsX20, w ∈ lw_tbl := mem_r _ [147, 149, 151, 153, 155] (by decide +kernel)
theorem wsX30_in : ∀ w ∈ wsX30, w ∈ lw_tbl := mem_r _ [80, 82] (by decide +kernel)
theorem wsX40_in : ∀ w ∈ wsX40, w ∈ lw_tbl := mem_r _ [121, 123, 125, 127, 129] (by decide +kernel)
theorem wsX50_in : ∀ w ∈ wsX50, w ∈ lw_tbl := mem_r _ [167, 169, 171, 173, 175, 177, 179, 181, 183] (by decide +kernel)
theorem wsX60_in : ∀ w ∈ wsX60, w ∈ lw_tbl := mem_r _ [664, 666, 668, 670, 672, 674, 676, 678, 680, 682, 684, 686, 688, 690, 692, 694, 696, 698, 700, 702, 704] (by decide +kernel)
theorem wsL_law_in : ∀ w ∈ wsL_law, w ∈ lw_tbl := List.forall_mem_append.mpr ⟨List.forall_mem_append.mpr ⟨List.forall_mem_append.mpr ⟨List.forall_mem_append.mpr ⟨List.forall_mem_append.mpr ⟨List.forall_mem_append.mpr ⟨List.forall_mem_append.mpr ⟨List.forall_mem_append.mpr ⟨List.forall_mem_append.mpr ⟨wsL_law_r1_in, List.forall_mem_append.mpr ⟨wsL_law_r2_in, List.forall_mem_append.mpr ⟨wsL_law_r3_in, List.forall_mem_append.mpr ⟨wsL_law_r4_in, List.forall_mem_append.mpr ⟨wsL_law_r5_in, List.forall_mem_append.mpr ⟨wsL_law_r6_in, List.forall_mem_append.mpr ⟨wsL_law_r7_in, List.forall_mem_append.mpr ⟨wsL_law_r8_in, List.forall_mem_append.mpr ⟨wsL_law_r9_in, List.forall_mem_append.mpr ⟨wsL_law_r10_in, List.forall_mem_append.mpr ⟨wsL_law_r11_in, List.forall_mem_append.mpr ⟨wsL_law_r12_in, List.forall_mem_append.mpr ⟨wsL_law_r13_in, List.forall_mem_append.mpr ⟨wsL_law_r14_in, List.forall_mem_append.mpr ⟨wsL_law_r15_in, List.forall_mem_append.mpr ⟨wsL_law_r16_in, List.forall_mem_append.mpr ⟨wsL_law_r17_in, List.forall_mem_append.mpr ⟨wsL_law_r18_in, List.forall_mem_append.mpr ⟨wsL_law_r19_in, List.forall_mem_append.mpr ⟨wsL_law_r20_in, List.forall_mem_append.mpr ⟨wsL_law_r21_in, List.forall_mem_append.mpr ⟨wsL_law_r22_in, List.forall_mem_append.mpr ⟨wsL_law_r23_in, List.forall_mem_append.mpr ⟨wsL_law_r24_in, List.forall_mem_append.mpr ⟨wsL_law_r25_in, List.forall_mem_append.mpr ⟨wsL_law_r26_in, List.forall_mem_append.mpr ⟨wsL_law_r27_in, List.forall_mem_append.mpr ⟨wsL_law_r28_in, List.forall_mem_append.mpr ⟨wsL_law_r29_in, List.forall_mem_append.mpr ⟨wsL_law_r30_in, List.forall_mem_append.mpr ⟨wsL_law_r31_in, List.forall_mem_append.mpr ⟨wsL_law_r32_in, List.forall_mem_append.mpr ⟨wsL_law_r33_in, List.forall_mem_append.mpr ⟨wsL_law_r34_in, List.forall_mem_append.mpr ⟨wsL_law_r35_in, wsL_law_r36_in⟩⟩⟩⟩⟩⟩⟩⟩⟩⟩⟩⟩⟩⟩⟩⟩⟩⟩⟩⟩⟩⟩⟩⟩⟩⟩⟩⟩⟩⟩⟩⟩⟩⟩⟩, wsX50_in⟩, wsX60_in⟩, wsX00_in⟩, wsX30_in⟩, wsX10_in⟩, wsX40_in⟩, wsX20_in⟩, (fun _ h => absurd h List.not_mem_nil)⟩
theorem inlX0 : ∀ w ∈ wsX00, w ∈ wsL_law := fun _ h => List.mem_append_left _ (List.mem_append_left _ (List.mem_append_left _ (List.mem_append_left _ (List.mem_append_left _ (List.mem_append_right _ h)))))
theorem inX0 : ∀ w ∈ wsX00, w ∈ lw_tbl := fun w h => wsL_law_in w (inlX0 w h)
theorem inlX1 : ∀ w ∈ wsX10, w ∈ wsL_law := fun _ h => List.mem_append_left _ (List.mem_append_left _ (List.mem_append_left _ (List.mem_append_right _ h)))
theorem inX1 : ∀ w ∈ wsX10, w ∈ lw_tbl := fun w h => wsL_law_in w (inlX1 w h)
theorem inlX2 : ∀ w ∈ wsX20, w ∈ wsL_law := fun _ h => List.mem_append_left _ (List.mem_append_right _ h)
theorem inX2 : ∀ w ∈ wsX20, w ∈ lw_tbl := fun w h => wsL_law_in w (inlX2 w h)
theorem inlX3 : ∀ w ∈ wsX30, w ∈ wsL_law := fun _ h => List.mem_append_left _ (List.mem_append_left _ (List.mem_append_left _ (List.mem_append_left _ (List.mem_append_right _ h))))
theorem inX3 : ∀ w ∈ wsX30, w ∈ lw_tbl := fun w h => wsL_law_in w (inlX3 w h)
theorem inlX4 : ∀ w ∈ wsX40, w ∈ wsL_law := fun _ h => List.mem_append_left _ (List.mem_append_left _ (List.mem_append_right _ h))
theorem inX4 : ∀ w ∈ wsX40, w ∈ lw_tbl := fun w h => wsL_law_in w (inlX4 w h)
theorem inlX5 : ∀ w ∈ wsX50, w ∈ wsL_law := fun _ h => List.mem_append_left _ (List.mem_append_left _ (List.mem_append_left _ (List.mem_append_left _ (List.mem_append_left _ (List.mem_append_left _ (List.mem_append_left _ (List.mem_append_right _ h)))))))
theorem inX5 : ∀ w ∈ wsX50, w ∈ lw_tbl := fun w h => wsL_law_in w (inlX5 w h)
theorem inlX6 : ∀ w ∈ wsX60, w ∈ wsL_law := fun _ h => List.mem_append_left _ (List.mem_append_left _ (List.mem_append_left _ (List.mem_append_left _ (List.mem_append_left _ (List.mem_append_left _ (List.mem_append_right _ h))))))
theorem inX6 : ∀ w ∈ wsX60, w ∈ lw_tbl := fun w h => wsL_law_in w (inlX6 w h)
theorem inJ6 : ∀ w ∈ wsJ60, w ∈ lw_tbl := by decide +kernel
theorem inJ9 : ∀ w ∈ wsJ90, w ∈ lw_tbl := by decide +kernel
abbrev vwCl : List vw_C := [(RX0, TX0, 5), (RX1, TX1, 5), (RX2, TX2, 5), (RX3, TX3, 2), (RX4, TX4, 5), (RX5, TX5, 9), (RX6, TX6, 21)]
end
section
theorem dX0_init_0 : decode cX0_init 0 = .ok (.aload_n 0, 1) := by decide +kernel
theorem dX0_init_1 : decode cX0_init 1 = .ok (.invokespecial 3, 3) := by decide +kernel
theorem dX0_init_4 : decode cX0_init 4 = .ok (.aload_n 0, 1) := by decide +kernel
theorem dX0_init_5 : decode cX0_init 5 = .ok (.bipush 12, 2) := by decide +kernel
theorem dX0_init_7 : decode cX0_init 7 = .ok (.putfield 9, 3) := by decide +kernel
theorem dX0_init_10 : decode cX0_init 10 = .ok (.aload_n 0, 1) := by decide +kernel
theorem dX0_init_11 : decode cX0_init 11 = .ok (.bipush 24, 2) := by decide +kernel
theorem dX0_init_13 : decode cX0_init 13 = .ok (.newarray .int, 2) := by decide +kernel
theorem dX0_init_15 : decode cX0_init 15 = .ok (.putfield 15, 3) := by decide +kernel
theorem dX0_init_18 : decode cX0_init 18 = .ok (.aload_n 0, 1) := by decide +kernel
theorem dX0_init_19 : decode cX0_init 19 = .ok (.bipush 24, 2) := by decide +kernel
theorem dX0_init_21 : decode cX0_init 21 = .ok (.newarray .int, 2) := by decide +kernel
theorem dX0_init_23 : decode cX0_init 23 = .ok (.putfield 19, 3) := by decide +kernel
theorem dX0_init_26 : decode cX0_init 26 = .ok (.aload_n 0, 1) := by decide +kernel
theorem dX0_init_27 : decode cX0_init 27 = .ok (.bipush 24, 2) := by decide +kernel
theorem dX0_init_29 : decode cX0_init 29 = .ok (.newarray .int, 2) := by decide +kernel
theorem dX0_init_31 : decode cX0_init 31 = .ok (.putfield 22, 3) := by decide +kernel
theorem dX0_init_34 : decode cX0_init 34 = .ok (.aload_n 0, 1) := by decide +kernel
theorem dX0_init_35 : decode cX0_init 35 = .ok (.bipush 24, 2) := by decide +kernel
theorem dX0_init_37 : decode cX0_init 37 = .ok (.newarray .int, 2) := by decide +kernel
theorem dX0_init_39 : decode cX0_init 39 = .ok (.putfield 25, 3) := by decide +kernel
theorem dX0_init_42 : decode cX0_init 42 = .ok (.iconst 0, 1) := by decide +kernel
theorem dX0_init_43 : decode cX0_init 43 = .ok (.istore_n 1, 1) := by decide +kernel
theorem dX0_init_44 : decode cX0_init 44 = .ok (.iload_n 1, 1) := by decide +kernel
theorem dX0_init_45 : decode cX0_init 45 = .ok (.bipush 24, 2) := by decide +kernel
theorem dX0_init_47 : decode cX0_init 47 = .ok (.if_icmp .ge 25, 3) := by decide +kernel
theorem dX0_init_50 : decode cX0_init 50 = .ok (.aload_n 0, 1) := by decide +kernel
theorem dX0_init_51 : decode cX0_init 51 = .ok (.getfield 15, 3) := by decide +kernel
theorem dX0_init_54 : decode cX0_init 54 = .ok (.iload_n 1, 1) := by decide +kernel
theorem dX0_init_55 : decode cX0_init 55 = .ok (.iload_n 1, 1) := by decide +kernel
theorem dX0_init_56 : decode cX0_init 56 = .ok (.iastore, 1) := by decide +kernel
theorem dX0_init_57 : decode cX0_init 57 = .ok (.aload_n 0, 1) := by decide +kernel
theorem dX0_init_58 : decode cX0_init 58 = .ok (.getfield 19, 3) := by decide +kernel
theorem dX0_init_61 : decode cX0_init 61 = .ok (.iload_n 1, 1) := by decide +kernel
theorem dX0_init_62 : decode cX0_init 62 = .ok (.sipush 5000, 3) := by decide +kernel
theorem dX0_init_65 : decode cX0_init 65 = .ok (.iastore, 1) := by decide +kernel
theorem dX0_init_66 : decode cX0_init 66 = .ok (.iinc 1 1, 3) := by decide +kernel
theorem dX0_init_69 : decode cX0_init 69 = .ok (.goto (-25), 3) := by decide +kernel
theorem dX0_init_72 : decode cX0_init 72 = .ok (.iconst 0, 1) := by decide +kernel
theorem dX0_init_73 : decode cX0_init 73 = .ok (.istore_n 1, 1) := by decide +kernel
theorem dX0_init_74 : decode cX0_init 74 = .ok (.iload_n 1, 1) := by decide +kernel
theorem dX0_init_75 : decode cX0_init 75 = .ok (.bipush 24, 2) := by decide +kernel
theorem dX0_init_77 : decode cX0_init 77 = .ok (.if_icmp .ge 18, 3) := by decide +kernel
theorem dX0_init_80 : decode cX0_init 80 = .ok (.aload_n 0, 1) := by decide +kernel
theorem dX0_init_81 : decode cX0_init 81 = .ok (.getfield 25, 3) := by decide +kernel
theorem dX0_init_84 : decode cX0_init 84 = .ok (.iload_n 1, 1) := by decide +kernel
theorem dX0_init_85 : decode cX0_init 85 = .ok (.sipush 4000, 3) := by decide +kernel
theorem dX0_init_88 : decode cX0_init 88 = .ok (.iastore, 1) := by decide +kernel
theorem dX0_init_89 : decode cX0_init 89 = .ok (.iinc 1 1, 3) := by decide +kernel
theorem dX0_init_92 : decode cX0_init 92 = .ok (.goto (-18), 3) := by decide +kernel
theorem dX0_init_95 : decode cX0_init 95 = .ok (.return_, 1) := by decide +kernel
theorem dX0_has_0 : decode cX0_has 0 = .ok (.iconst 0, 1) := by decide +kernel
theorem dX0_has_1 : decode cX0_has 1 = .ok (.iload_n 1, 1) := by decide +kernel
theorem dX0_has_2 : decode cX0_has 2 = .ok (.if_icmp .gt 15, 3) := by decide +kernel
theorem dX0_has_5 : decode cX0_has 5 = .ok (.iload_n 1, 1) := by decide +kernel
theorem dX0_has_6 : decode cX0_has 6 = .ok (.aload_n 0, 1) := by decide +kernel
theorem dX0_has_7 : decode cX0_has 7 = .ok (.getfield 9, 3) := by decide +kernel
theorem dX0_has_10 : decode cX0_has 10 = .ok (.if_icmp .ge 7, 3) := by decide +kernel
theorem dX0_has_13 : decode cX0_has 13 = .ok (.iconst 1, 1) := by decide +kernel
theorem dX0_has_14 : decode cX0_has 14 = .ok (.goto 4, 3) := by decide +kernel
theorem dX0_has_17 : decode cX0_has 17 = .ok (.iconst 0, 1) := by decide +kernel
theorem dX0_has_18 : decode cX0_has 18 = .ok (.ireturn, 1) := by decide +kernel
theorem dX0_soundingLength_0 : decode cX0_soundingLength 0 = .ok (.aload_n 0, 1) := by decide +kernel
theorem dX0_soundingLength_1 : decode cX0_soundingLength 1 = .ok (.getfield 19, 3) := by decide +kernel
theorem dX0_soundingLength_4 : decode cX0_soundingLength 4 = .ok (.iload_n 1, 1) := by decide +kernel
theorem dX0_soundingLength_5 : decode cX0_soundingLength 5 = .ok (.iaload, 1) := by decide +kernel
theorem dX0_soundingLength_6 : decode cX0_soundingLength 6 = .ok (.aload_n 0, 1) := by decide +kernel
theorem dX0_soundingLength_7 : decode cX0_soundingLength 7 = .ok (.getfield 22, 3) := by decide +kernel
theorem dX0_soundingLength_10 : decode cX0_soundingLength 10 = .ok (.iload_n 1, 1) := by decide +kernel
theorem dX0_soundingLength_11 : decode cX0_soundingLength 11 = .ok (.iaload, 1) := by decide +kernel
theorem dX0_soundingLength_12 : decode cX0_soundingLength 12 = .ok (.iadd, 1) := by decide +kernel
theorem dX0_soundingLength_13 : decode cX0_soundingLength 13 = .ok (.ireturn, 1) := by decide +kernel
set_option maxRecDepth 20000 in
theorem ggX0_toneOf_X0_toneBent : GoodIn wsX0_toneOf wsX0_toneBent := goodIn_r _ [6, 7, 8, 9, 10, 11, 12, 13, 14] (by decide +kernel) (by decide +kernel)
set_option maxRecDepth 20000 in
theorem gX0_toneOf_X0_toneBent : GoodIn wsX0_toneOf (wsV RX0 28 RX0 yX0_toneBent wsX0_toneBent) := goodIn_app (goodIn_of _ (by decide +kernel)) ggX0_toneOf_X0_toneBent
theorem dX0_toneOf_0 : decode cX0_toneOf 0 = .ok (.aload_n 0, 1) := by decide +kernel
theorem dX0_toneOf_1 : decode cX0_toneOf 1 = .ok (.iload_n 1, 1) := by decide +kernel
theorem dX0_toneOf_2 : decode cX0_toneOf 2 = .ok (.aload_n 0, 1) := by decide +kernel
theorem dX0_toneOf_3 : decode cX0_toneOf 3 = .ok (.getfield 22, 3) := by decide +kernel
theorem dX0_toneOf_6 : decode cX0_toneOf 6 = .ok (.iload_n 1, 1) := by decide +kernel
theorem dX0_toneOf_7 : decode cX0_toneOf 7 = .ok (.iaload, 1) := by decide +kernel
theorem dX0_toneOf_8 : decode cX0_toneOf 8 = .ok (.invokevirtual 28, 3) := by decide +kernel
theorem dX0_toneOf_11 : decode cX0_toneOf 11 = .ok (.ireturn, 1) := by decide +kernel
theorem dX0_toneBent_0 : decode cX0_toneBent 0 = .ok (.aload_n 0, 1) := by decide +kernel
theorem dX0_toneBent_1 : decode cX0_toneBent 1 = .ok (.getfield 19, 3) := by decide +kernel
theorem dX0_toneBent_4 : decode cX0_toneBent 4 = .ok (.iload_n 1, 1) := by decide +kernel
theorem dX0_toneBent_5 : decode cX0_toneBent 5 = .ok (.iaload, 1) := by decide +kernel
theorem dX0_toneBent_6 : decode cX0_toneBent 6 = .ok (.iload_n 2, 1) := by decide +kernel
theorem dX0_toneBent_7 : decode cX0_toneBent 7 = .ok (.iadd, 1) := by decide +kernel
theorem dX0_toneBent_8 : decode cX0_toneBent 8 = .ok (.istore_n 3, 1) := by decide +kernel
theorem dX0_toneBent_9 : decode cX0_toneBent 9 = .ok (.iload_n 3, 1) := by decide +kernel
theorem dX0_toneBent_10 : decode cX0_toneBent 10 = .ok (.iconst 1, 1) := by decide +kernel
theorem dX0_toneBent_11 : decode cX0_toneBent 11 = .ok (.if_icmp .ge 7, 3) := by decide +kernel
theorem dX0_toneBent_14 : decode cX0_toneBent 14 = .ok (.iconst 0, 1) := by decide +kernel
theorem dX0_toneBent_15 : decode cX0_toneBent 15 = .ok (.goto 20, 3) := by decide +kernel
theorem dX0_toneBent_18 : decode cX0_toneBent 18 = .ok (.aload_n 0, 1) := by decide +kernel
theorem dX0_toneBent_19 : decode cX0_toneBent 19 = .ok (.getfield 25, 3) := by decide +kernel
theorem dX0_toneBent_22 : decode cX0_toneBent 22 = .ok (.aload_n 0, 1) := by decide +kernel
theorem dX0_toneBent_23 : decode cX0_toneBent 23 = .ok (.getfield 15, 3) := by decide +kernel
theorem dX0_toneBent_26 : decode cX0_toneBent 26 = .ok (.iload_n 1, 1) := by decide +kernel
theorem dX0_toneBent_27 : decode cX0_toneBent 27 = .ok (.iaload, 1) := by decide +kernel
theorem dX0_toneBent_28 : decode cX0_toneBent 28 = .ok (.iaload, 1) := by decide +kernel
theorem dX0_toneBent_29 : decode cX0_toneBent 29 = .ok (.sipush 10000, 3) := by decide +kernel
theorem dX0_toneBent_32 : decode cX0_toneBent 32 = .ok (.imul, 1) := by decide +kernel
theorem dX0_toneBent_33 : decode cX0_toneBent 33 = .ok (.iload_n 3, 1) := by decide +kernel
theorem dX0_toneBent_34 : decode cX0_toneBent 34 = .ok (.idiv, 1) := by decide +kernel
theorem dX0_toneBent_35 : decode cX0_toneBent 35 = .ok (.ireturn, 1) := by decide +kernel
set_option maxRecDepth 20000 in
theorem ggX0_strikes_X0_has : GoodIn wsX0_strikes wsX0_has := goodIn_r _ [6, 7, 8, 9, 10, 11, 12] (by decide +kernel) (by decide +kernel)
set_option maxRecDepth 20000 in
theorem gX0_strikes_X0_has : GoodIn wsX0_strikes (wsV RX0 32 RX0 yX0_has wsX0_has) := goodIn_app (goodIn_of _ (by decide +kernel)) ggX0_strikes_X0_has
theorem dX0_strikes_0 : decode cX0_strikes 0 = .ok (.aload_n 0, 1) := by decide +kernel
theorem dX0_strikes_1 : decode cX0_strikes 1 = .ok (.iload_n 1, 1) := by decide +kernel
theorem dX0_strikes_2 : decode cX0_strikes 2 = .ok (.invokevirtual 32, 3) := by decide +kernel
theorem dX0_strikes_5 : decode cX0_strikes 5 = .ok (.ifCond .eq 17, 3) := by decide +kernel
theorem dX0_strikes_8 : decode cX0_strikes 8 = .ok (.aload_n 0, 1) := by decide +kernel
theorem dX0_strikes_9 : decode cX0_strikes 9 = .ok (.getfield 15, 3) := by decide +kernel
theorem dX0_strikes_12 : decode cX0_strikes 12 = .ok (.iload_n 1, 1) := by decide +kernel
theorem dX0_strikes_13 : decode cX0_strikes 13 = .ok (.iaload, 1) := by decide +kernel
theorem dX0_strikes_14 : decode cX0_strikes 14 = .ok (.iload_n 2, 1) := by decide +kernel
theorem dX0_strikes_15 : decode cX0_strikes 15 = .ok (.if_icmp .ne 7, 3) := by decide +kernel
theorem dX0_strikes_18 : decode cX0_strikes 18 = .ok (.iconst 1, 1) := by decide +kernel
theorem dX0_strikes_19 : decode cX0_strikes 19 = .ok (.goto 4, 3) := by decide +kernel
theorem dX0_strikes_22 : decode cX0_strikes 22 = .ok (.iconst 0, 1) := by decide +kernel
theorem dX0_strikes_23 : decode cX0_strikes 23 = .ok (.ireturn, 1) := by decide +kernel
set_option maxRecDepth 20000 in
theorem ggX0_doShare_X0_has : GoodIn wsX0_doShare wsX0_has := goodIn_r _ [6, 7, 8, 9, 10, 11, 12] (by decide +kernel) (by decide +kernel)
set_option maxRecDepth 20000 in
theorem gX0_doShare_X0_has : GoodIn wsX0_doShare (wsV RX0 32 RX0 yX0_has wsX0_has) := goodIn_app (goodIn_of _ (by decide +kernel)) ggX0_doShare_X0_has
theorem dX0_doShare_0 : decode cX0_doShare 0 = .ok (.iload_n 1, 1) := by decide +kernel
theorem dX0_doShare_1 : decode cX0_doShare 1 = .ok (.iload_n 2, 1) := by decide +kernel
theorem dX0_doShare_2 : decode cX0_doShare 2 = .ok (.if_icmp .eq 38, 3) := by decide +kernel
theorem dX0_doShare_5 : decode cX0_doShare 5 = .ok (.aload_n 0, 1) := by decide +kernel
theorem dX0_doShare_6 : decode cX0_doShare 6 = .ok (.iload_n 1, 1) := by decide +kernel
theorem dX0_doShare_7 : decode cX0_doShare 7 = .ok (.invokevirtual 32, 3) := by decide +kernel
theorem dX0_doShare_10 : decode cX0_doShare 10 = .ok (.ifCond .eq 30, 3) := by decide +kernel
theorem dX0_doShare_13 : decode cX0_doShare 13 = .ok (.aload_n 0, 1) := by decide +kernel
theorem dX0_doShare_14 : decode cX0_doShare 14 = .ok (.iload_n 2, 1) := by decide +kernel
theorem dX0_doShare_15 : decode cX0_doShare 15 = .ok (.invokevirtual 32, 3) := by decide +kernel
theorem dX0_doShare_18 : decode cX0_doShare 18 = .ok (.ifCond .eq 22, 3) := by decide +kernel
theorem dX0_doShare_21 : decode cX0_doShare 21 = .ok (.aload_n 0, 1) := by decide +kernel
theorem dX0_doShare_22 : decode cX0_doShare 22 = .ok (.getfield 15, 3) := by decide +kernel
theorem dX0_doShare_25 : decode cX0_doShare 25 = .ok (.iload_n 1, 1) := by decide +kernel
theorem dX0_doShare_26 : decode cX0_doShare 26 = .ok (.iaload, 1) := by decide +kernel
theorem dX0_doShare_27 : decode cX0_doShare 27 = .ok (.aload_n 0, 1) := by decide +kernel
theorem dX0_doShare_28 : decode cX0_doShare 28 = .ok (.getfield 15, 3) := by decide +kernel
theorem dX0_doShare_31 : decode cX0_doShare 31 = .ok (.iload_n 2, 1) := by decide +kernel
theorem dX0_doShare_32 : decode cX0_doShare 32 = .ok (.iaload, 1) := by decide +kernel
theorem dX0_doShare_33 : decode cX0_doShare 33 = .ok (.if_icmp .ne 7, 3) := by decide +kernel
theorem dX0_doShare_36 : decode cX0_doShare 36 = .ok (.iconst 1, 1) := by decide +kernel
theorem dX0_doShare_37 : decode cX0_doShare 37 = .ok (.goto 4, 3) := by decide +kernel
theorem dX0_doShare_40 : decode cX0_doShare 40 = .ok (.iconst 0, 1) := by decide +kernel
theorem dX0_doShare_41 : decode cX0_doShare 41 = .ok (.ireturn, 1) := by decide +kernel
theorem dX0_strikersOf_0 : decode cX0_strikersOf 0 = .ok (.iconst 0, 1) := by decide +kernel
theorem dX0_strikersOf_1 : decode cX0_strikersOf 1 = .ok (.istore_n 2, 1) := by decide +kernel
theorem dX0_strikersOf_2 : decode cX0_strikersOf 2 = .ok (.iconst 0, 1) := by decide +kernel
theorem dX0_strikersOf_3 : decode cX0_strikersOf 3 = .ok (.istore_n 3, 1) := by decide +kernel
theorem dX0_strikersOf_4 : decode cX0_strikersOf 4 = .ok (.iload_n 3, 1) := by decide +kernel
theorem dX0_strikersOf_5 : decode cX0_strikersOf 5 = .ok (.aload_n 0, 1) := by decide +kernel
theorem dX0_strikersOf_6 : decode cX0_strikersOf 6 = .ok (.getfield 9, 3) := by decide +kernel
theorem dX0_strikersOf_9 : decode cX0_strikersOf 9 = .ok (.if_icmp .ge 22, 3) := by decide +kernel
theorem dX0_strikersOf_12 : decode cX0_strikersOf 12 = .ok (.aload_n 0, 1) := by decide +kernel
theorem dX0_strikersOf_13 : decode cX0_strikersOf 13 = .ok (.getfield 15, 3) := by decide +kernel
theorem dX0_strikersOf_16 : decode cX0_strikersOf 16 = .ok (.iload_n 3, 1) := by decide +kernel
theorem dX0_strikersOf_17 : decode cX0_strikersOf 17 = .ok (.iaload, 1) := by decide +kernel
theorem dX0_strikersOf_18 : decode cX0_strikersOf 18 = .ok (.iload_n 1, 1) := by decide +kernel
theorem dX0_strikersOf_19 : decode cX0_strikersOf 19 = .ok (.if_icmp .ne 6, 3) := by decide +kernel
theorem dX0_strikersOf_22 : decode cX0_strikersOf 22 = .ok (.iinc 2 1, 3) := by decide +kernel
theorem dX0_strikersOf_25 : decode cX0_strikersOf 25 = .ok (.iinc 3 1, 3) := by decide +kernel
theorem dX0_strikersOf_28 : decode cX0_strikersOf 28 = .ok (.goto (-24), 3) := by decide +kernel
theorem dX0_strikersOf_31 : decode cX0_strikersOf 31 = .ok (.iload_n 2, 1) := by decide +kernel
theorem dX0_strikersOf_32 : decode cX0_strikersOf 32 = .ok (.ireturn, 1) := by decide +kernel
set_option maxRecDepth 20000 in
theorem ggX0_isInOrder_X0_doShare : GoodIn wsX0_isInOrder wsX0_doShare := goodIn_r _ [6, 7, 8, 9, 10, 5, 11, 1, 18, 19, 20, 21, 22] (by decide +kernel) (by decide +kernel)
set_option maxRecDepth 20000 in
theorem gX0_isInOrder_X0_doShare : GoodIn wsX0_isInOrder (wsV RX0 36 RX0 yX0_doShare wsX0_doShare) := goodIn_app (goodIn_of _ (by decide +kernel)) ggX0_isInOrder_X0_doShare
set_option maxRecDepth 20000 in
theorem ggX0_isInOrder_X0_soundingLength : GoodIn wsX0_isInOrder wsX0_soundingLength := goodIn_r _ [15, 16, 17, 18, 19, 20, 21, 22] (by decide +kernel) (by decide +kernel)
set_option maxRecDepth 20000 in
theorem gX0_isInOrder_X0_soundingLength : GoodIn wsX0_isInOrder (wsV RX0 40 RX0 yX0_soundingLength wsX0_soundingLength) := goodIn_app (goodIn_of _ (by decide +kernel)) ggX0_isInOrder_X0_soundingLength
theorem dX0_isInOrder_0 : decode cX0_isInOrder 0 = .ok (.iconst 1, 1) := by decide +kernel
theorem dX0_isInOrder_1 : decode cX0_isInOrder 1 = .ok (.istore_n 1, 1) := by decide +kernel
theorem dX0_isInOrder_2 : decode cX0_isInOrder 2 = .ok (.iload_n 1, 1) := by decide +kernel
theorem dX0_isInOrder_3 : decode cX0_isInOrder 3 = .ok (.aload_n 0, 1) := by decide +kernel
theorem dX0_isInOrder_4 : decode cX0_isInOrder 4 = .ok (.getfield 9, 3) := by decide +kernel
theorem dX0_isInOrder_7 : decode cX0_isInOrder 7 = .ok (.if_icmp .ge 46, 3) := by decide +kernel
theorem dX0_isInOrder_10 : decode cX0_isInOrder 10 = .ok (.iconst 0, 1) := by decide +kernel
theorem dX0_isInOrder_11 : decode cX0_isInOrder 11 = .ok (.istore_n 2, 1) := by decide +kernel
theorem dX0_isInOrder_12 : decode cX0_isInOrder 12 = .ok (.iload_n 2, 1) := by decide +kernel
theorem dX0_isInOrder_13 : decode cX0_isInOrder 13 = .ok (.iload_n 1, 1) := by decide +kernel
theorem dX0_isInOrder_14 : decode cX0_isInOrder 14 = .ok (.if_icmp .ge 33, 3) := by decide +kernel
theorem dX0_isInOrder_17 : decode cX0_isInOrder 17 = .ok (.aload_n 0, 1) := by decide +kernel
theorem dX0_isInOrder_18 : decode cX0_isInOrder 18 = .ok (.iload_n 2, 1) := by decide +kernel
theorem dX0_isInOrder_19 : decode cX0_isInOrder 19 = .ok (.iload_n 1, 1) := by decide +kernel
theorem dX0_isInOrder_20 : decode cX0_isInOrder 20 = .ok (.invokevirtual 36, 3) := by decide +kernel
theorem dX0_isInOrder_23 : decode cX0_isInOrder 23 = .ok (.ifCond .eq 18, 3) := by decide +kernel
theorem dX0_isInOrder_26 : decode cX0_isInOrder 26 = .ok (.aload_n 0, 1) := by decide +kernel
theorem dX0_isInOrder_27 : decode cX0_isInOrder 27 = .ok (.iload_n 2, 1) := by decide +kernel
theorem dX0_isInOrder_28 : decode cX0_isInOrder 28 = .ok (.invokevirtual 40, 3) := by decide +kernel
theorem dX0_isInOrder_31 : decode cX0_isInOrder 31 = .ok (.aload_n 0, 1) := by decide +kernel
theorem dX0_isInOrder_32 : decode cX0_isInOrder 32 = .ok (.iload_n 1, 1) := by decide +kernel
theorem dX0_isInOrder_33 : decode cX0_isInOrder 33 = .ok (.invokevirtual 40, 3) := by decide +kernel
theorem dX0_isInOrder_36 : decode cX0_isInOrder 36 = .ok (.if_icmp .gt 5, 3) := by decide +kernel
theorem dX0_isInOrder_39 : decode cX0_isInOrder 39 = .ok (.iconst 0, 1) := by decide +kernel
theorem dX0_isInOrder_40 : decode cX0_isInOrder 40 = .ok (.ireturn, 1) := by decide +kernel
theorem dX0_isInOrder_41 : decode cX0_isInOrder 41 = .ok (.iinc 2 1, 3) := by decide +kernel
theorem dX0_isInOrder_44 : decode cX0_isInOrder 44 = .ok (.goto (-32), 3) := by decide +kernel
theorem dX0_isInOrder_47 : decode cX0_isInOrder 47 = .ok (.iinc 1 1, 3) := by decide +kernel
theorem dX0_isInOrder_50 : decode cX0_isInOrder 50 = .ok (.goto (-48), 3) := by decide +kernel
theorem dX0_isInOrder_53 : decode cX0_isInOrder 53 = .ok (.iconst 1, 1) := by decide +kernel
theorem dX0_isInOrder_54 : decode cX0_isInOrder 54 = .ok (.ireturn, 1) := by decide +kernel
set_option maxRecDepth 20000 in
theorem ggX0_stopsNearer_X0_soundingLength : GoodIn wsX0_stopsNearer wsX0_soundingLength := goodIn_r _ [5, 6, 7, 8, 9, 10, 11, 12] (by decide +kernel) (by decide +kernel)
set_option maxRecDepth 20000 in
theorem gX0_stopsNearer_X0_soundingLength : GoodIn wsX0_stopsNearer (wsV RX0 40 RX0 yX0_soundingLength wsX0_soundingLength) := goodIn_app (goodIn_of _ (by decide +kernel)) ggX0_stopsNearer_X0_soundingLength
theorem dX0_stopsNearer_0 : decode cX0_stopsNearer 0 = .ok (.aload_n 0, 1) := by decide +kernel
theorem dX0_stopsNearer_1 : decode cX0_stopsNearer 1 = .ok (.iload_n 1, 1) := by decide +kernel
theorem dX0_stopsNearer_2 : decode cX0_stopsNearer 2 = .ok (.invokevirtual 40, 3) := by decide +kernel
theorem dX0_stopsNearer_5 : decode cX0_stopsNearer 5 = .ok (.istore_n 3, 1) := by decide +kernel
theorem dX0_stopsNearer_6 : decode cX0_stopsNearer 6 = .ok (.aload_n 0, 1) := by decide +kernel
theorem dX0_stopsNearer_7 : decode cX0_stopsNearer 7 = .ok (.iload_n 2, 1) := by decide +kernel
theorem dX0_stopsNearer_8 : decode cX0_stopsNearer 8 = .ok (.invokevirtual 40, 3) := by decide +kernel
theorem dX0_stopsNearer_11 : decode cX0_stopsNearer 11 = .ok (.istore 4, 2) := by decide +kernel
theorem dX0_stopsNearer_13 : decode cX0_stopsNearer 13 = .ok (.iload_n 3, 1) := by decide +kernel
theorem dX0_stopsNearer_14 : decode cX0_stopsNearer 14 = .ok (.iload 4, 2) := by decide +kernel
theorem dX0_stopsNearer_16 : decode cX0_stopsNearer 16 = .ok (.if_icmp .lt 14, 3) := by decide +kernel
theorem dX0_stopsNearer_19 : decode cX0_stopsNearer 19 = .ok (.iload_n 3, 1) := by decide +kernel
theorem dX0_stopsNearer_20 : decode cX0_stopsNearer 20 = .ok (.iload 4, 2) := by decide +kernel
theorem dX0_stopsNearer_22 : decode cX0_stopsNearer 22 = .ok (.if_icmp .ne 12, 3) := by decide +kernel
theorem dX0_stopsNearer_25 : decode cX0_stopsNearer 25 = .ok (.iload_n 1, 1) := by decide +kernel
theorem dX0_stopsNearer_26 : decode cX0_stopsNearer 26 = .ok (.iload_n 2, 1) := by decide +kernel
theorem dX0_stopsNearer_27 : decode cX0_stopsNearer 27 = .ok (.if_icmp .ge 7, 3) := by decide +kernel
theorem dX0_stopsNearer_30 : decode cX0_stopsNearer 30 = .ok (.iconst 1, 1) := by decide +kernel
theorem dX0_stopsNearer_31 : decode cX0_stopsNearer 31 = .ok (.goto 4, 3) := by decide +kernel
theorem dX0_stopsNearer_34 : decode cX0_stopsNearer 34 = .ok (.iconst 0, 1) := by decide +kernel
theorem dX0_stopsNearer_35 : decode cX0_stopsNearer 35 = .ok (.ireturn, 1) := by decide +kernel
set_option maxRecDepth 20000 in
theorem ggX0_countStruck_X0_strikersOf : GoodIn wsX0_countStruck wsX0_strikersOf := goodIn_r _ [5, 6, 7, 8, 9, 10, 11, 12] (by decide +kernel) (by decide +kernel)
set_option maxRecDepth 20000 in
theorem gX0_countStruck_X0_strikersOf : GoodIn wsX0_countStruck (wsV RX0 44 RX0 yX0_strikersOf wsX0_strikersOf) := goodIn_app (goodIn_of _ (by decide +kernel)) ggX0_countStruck_X0_strikersOf
theorem dX0_countStruck_0 : decode cX0_countStruck 0 = .ok (.iconst 0, 1) := by decide +kernel
theorem dX0_countStruck_1 : decode cX0_countStruck 1 = .ok (.istore_n 1, 1) := by decide +kernel
theorem dX0_countStruck_2 : decode cX0_countStruck 2 = .ok (.iconst 0, 1) := by decide +kernel
theorem dX0_countStruck_3 : decode cX0_countStruck 3 = .ok (.istore_n 2, 1) := by decide +kernel
theorem dX0_countStruck_4 : decode cX0_countStruck 4 = .ok (.iload_n 2, 1) := by decide +kernel
theorem dX0_countStruck_5 : decode cX0_countStruck 5 = .ok (.bipush 24, 2) := by decide +kernel
theorem dX0_countStruck_7 : decode cX0_countStruck 7 = .ok (.if_icmp .ge 20, 3) := by decide +kernel
theorem dX0_countStruck_10 : decode cX0_countStruck 10 = .ok (.aload_n 0, 1) := by decide +kernel
theorem dX0_countStruck_11 : decode cX0_countStruck 11 = .ok (.iload_n 2, 1) := by decide +kernel
theorem dX0_countStruck_12 : decode cX0_countStruck 12 = .ok (.invokevirtual 44, 3) := by decide +kernel
theorem dX0_countStruck_15 : decode cX0_countStruck 15 = .ok (.ifCond .le 6, 3) := by decide +kernel
theorem dX0_countStruck_18 : decode cX0_countStruck 18 = .ok (.iinc 1 1, 3) := by decide +kernel
theorem dX0_countStruck_21 : decode cX0_countStruck 21 = .ok (.iinc 2 1, 3) := by decide +kernel
theorem dX0_countStruck_24 : decode cX0_countStruck 24 = .ok (.goto (-20), 3) := by decide +kernel
theorem dX0_countStruck_27 : decode cX0_countStruck 27 = .ok (.iload_n 1, 1) := by decide +kernel
theorem dX0_countStruck_28 : decode cX0_countStruck 28 = .ok (.ireturn, 1) := by decide +kernel
theorem dX0_countBent_0 : decode cX0_countBent 0 = .ok (.iconst 0, 1) := by decide +kernel
theorem dX0_countBent_1 : decode cX0_countBent 1 = .ok (.istore_n 1, 1) := by decide +kernel
theorem dX0_countBent_2 : decode cX0_countBent 2 = .ok (.iconst 0, 1) := by decide +kernel
theorem dX0_countBent_3 : decode cX0_countBent 3 = .ok (.istore_n 2, 1) := by decide +kernel
theorem dX0_countBent_4 : decode cX0_countBent 4 = .ok (.iload_n 2, 1) := by decide +kernel
theorem dX0_countBent_5 : decode cX0_countBent 5 = .ok (.aload_n 0, 1) := by decide +kernel
theorem dX0_countBent_6 : decode cX0_countBent 6 = .ok (.getfield 9, 3) := by decide +kernel
theorem dX0_countBent_9 : decode cX0_countBent 9 = .ok (.if_icmp .ge 21, 3) := by decide +kernel
theorem dX0_countBent_12 : decode cX0_countBent 12 = .ok (.aload_n 0, 1) := by decide +kernel
theorem dX0_countBent_13 : decode cX0_countBent 13 = .ok (.getfield 22, 3) := by decide +kernel
theorem dX0_countBent_16 : decode cX0_countBent 16 = .ok (.iload_n 2, 1) := by decide +kernel
theorem dX0_countBent_17 : decode cX0_countBent 17 = .ok (.iaload, 1) := by decide +kernel
theorem dX0_countBent_18 : decode cX0_countBent 18 = .ok (.ifCond .eq 6, 3) := by decide +kernel
theorem dX0_countBent_21 : decode cX0_countBent 21 = .ok (.iinc 1 1, 3) := by decide +kernel
theorem dX0_countBent_24 : decode cX0_countBent 24 = .ok (.iinc 2 1, 3) := by decide +kernel
theorem dX0_countBent_27 : decode cX0_countBent 27 = .ok (.goto (-23), 3) := by decide +kernel
theorem dX0_countBent_30 : decode cX0_countBent 30 = .ok (.iload_n 1, 1) := by decide +kernel
theorem dX0_countBent_31 : decode cX0_countBent 31 = .ok (.ireturn, 1) := by decide +kernel
theorem dX1_init_0 : decode cX1_init 0 = .ok (.aload_n 0, 1) := by decide +kernel
theorem dX1_init_1 : decode cX1_init 1 = .ok (.invokespecial 3, 3) := by decide +kernel
theorem dX1_init_4 : decode cX1_init 4 = .ok (.aload_n 0, 1) := by decide +kernel
theorem dX1_init_5 : decode cX1_init 5 = .ok (.sipush 160, 3) := by decide +kernel
theorem dX1_init_8 : decode cX1_init 8 = .ok (.newarray .int, 2) := by decide +kernel
theorem dX1_init_10 : decode cX1_init 10 = .ok (.putfield 9, 3) := by decide +kernel
theorem dX1_init_13 : decode cX1_init 13 = .ok (.aload_n 0, 1) := by decide +kernel
theorem dX1_init_14 : decode cX1_init 14 = .ok (.sipush 160, 3) := by decide +kernel
theorem dX1_init_17 : decode cX1_init 17 = .ok (.newarray .int, 2) := by decide +kernel
theorem dX1_init_19 : decode cX1_init 19 = .ok (.putfield 15, 3) := by decide +kernel
theorem dX1_init_22 : decode cX1_init 22 = .ok (.aload_n 0, 1) := by decide +kernel
theorem dX1_init_23 : decode cX1_init 23 = .ok (.sipush 160, 3) := by decide +kernel
theorem dX1_init_26 : decode cX1_init 26 = .ok (.newarray .int, 2) := by decide +kernel
theorem dX1_init_28 : decode cX1_init 28 = .ok (.putfield 18, 3) := by decide +kernel
theorem dX1_init_31 : decode cX1_init 31 = .ok (.aload_n 0, 1) := by decide +kernel
theorem dX1_init_32 : decode cX1_init 32 = .ok (.iconst 4, 1) := by decide +kernel
theorem dX1_init_33 : decode cX1_init 33 = .ok (.newarray .int, 2) := by decide +kernel
theorem dX1_init_35 : decode cX1_init 35 = .ok (.putfield 21, 3) := by decide +kernel
theorem dX1_init_38 : decode cX1_init 38 = .ok (.aload_n 0, 1) := by decide +kernel
theorem dX1_init_39 : decode cX1_init 39 = .ok (.aload_n 1, 1) := by decide +kernel
theorem dX1_init_40 : decode cX1_init 40 = .ok (.putfield 24, 3) := by decide +kernel
theorem dX1_init_43 : decode cX1_init 43 = .ok (.return_, 1) := by decide +kernel
theorem dX1_startOf_0 : decode cX1_startOf 0 = .ok (.iload_n 1, 1) := by decide +kernel
theorem dX1_startOf_1 : decode cX1_startOf 1 = .ok (.bipush 40, 2) := by decide +kernel
theorem dX1_startOf_3 : decode cX1_startOf 3 = .ok (.imul, 1) := by decide +kernel
theorem dX1_startOf_4 : decode cX1_startOf 4 = .ok (.ireturn, 1) := by decide +kernel
theorem dX1_endOf_0 : decode cX1_endOf 0 = .ok (.iload_n 1, 1) := by decide +kernel
theorem dX1_endOf_1 : decode cX1_endOf 1 = .ok (.bipush 40, 2) := by decide +kernel
theorem dX1_endOf_3 : decode cX1_endOf 3 = .ok (.imul, 1) := by decide +kernel
theorem dX1_endOf_4 : decode cX1_endOf 4 = .ok (.aload_n 0, 1) := by decide +kernel
theorem dX1_endOf_5 : decode cX1_endOf 5 = .ok (.getfield 21, 3) := by decide +kernel
theorem dX1_endOf_8 : decode cX1_endOf 8 = .ok (.iload_n 1, 1) := by decide +kernel
theorem dX1_endOf_9 : decode cX1_endOf 9 = .ok (.iaload, 1) := by decide +kernel
theorem dX1_endOf_10 : decode cX1_endOf 10 = .ok (.iadd, 1) := by decide +kernel
theorem dX1_endOf_11 : decode cX1_endOf 11 = .ok (.ireturn, 1) := by decide +kernel
theorem dX1_isFull_0 : decode cX1_isFull 0 = .ok (.aload_n 0, 1) := by decide +kernel
theorem dX1_isFull_1 : decode cX1_isFull 1 = .ok (.getfield 21, 3) := by decide +kernel
theorem dX1_isFull_4 : decode cX1_isFull 4 = .ok (.iload_n 1, 1) := by decide +kernel
theorem dX1_isFull_5 : decode cX1_isFull 5 = .ok (.iaload, 1) := by decide +kernel
theorem dX1_isFull_6 : decode cX1_isFull 6 = .ok (.bipush 40, 2) := by decide +kernel
theorem dX1_isFull_8 : decode cX1_isFull 8 = .ok (.if_icmp .lt 7, 3) := by decide +kernel
theorem dX1_isFull_11 : decode cX1_isFull 11 = .ok (.iconst 1, 1) := by decide +kernel
theorem dX1_isFull_12 : decode cX1_isFull 12 = .ok (.goto 4, 3) := by decide +kernel
theorem dX1_isFull_15 : decode cX1_isFull 15 = .ok (.iconst 0, 1) := by decide +kernel
theorem dX1_isFull_16 : decode cX1_isFull 16 = .ok (.ireturn, 1) := by decide +kernel
set_option maxRecDepth 20000 in
theorem ggX1_lastBegin_X1_endOf : GoodIn wsX1_lastBegin wsX1_endOf := goodIn_r _ [7, 1, 8, 9, 10, 11, 12] (by decide +kernel) (by decide +kernel)
set_option maxRecDepth 20000 in
theorem gX1_lastBegin_X1_endOf : GoodIn wsX1_lastBegin (wsV RX1 28 RX1 yX1_endOf wsX1_endOf) := goodIn_app (goodIn_of _ (by decide +kernel)) ggX1_lastBegin_X1_endOf
theorem dX1_lastBegin_0 : decode cX1_lastBegin 0 = .ok (.aload_n 0, 1) := by decide +kernel
theorem dX1_lastBegin_1 : decode cX1_lastBegin 1 = .ok (.getfield 21, 3) := by decide +kernel
theorem dX1_lastBegin_4 : decode cX1_lastBegin 4 = .ok (.iload_n 1, 1) := by decide +kernel
theorem dX1_lastBegin_5 : decode cX1_lastBegin 5 = .ok (.iaload, 1) := by decide +kernel
theorem dX1_lastBegin_6 : decode cX1_lastBegin 6 = .ok (.ifCond .ne 7, 3) := by decide +kernel
theorem dX1_lastBegin_9 : decode cX1_lastBegin 9 = .ok (.iconst 0, 1) := by decide +kernel
theorem dX1_lastBegin_10 : decode cX1_lastBegin 10 = .ok (.goto 15, 3) := by decide +kernel
theorem dX1_lastBegin_13 : decode cX1_lastBegin 13 = .ok (.aload_n 0, 1) := by decide +kernel
theorem dX1_lastBegin_14 : decode cX1_lastBegin 14 = .ok (.getfield 15, 3) := by decide +kernel
theorem dX1_lastBegin_17 : decode cX1_lastBegin 17 = .ok (.aload_n 0, 1) := by decide +kernel
theorem dX1_lastBegin_18 : decode cX1_lastBegin 18 = .ok (.iload_n 1, 1) := by decide +kernel
theorem dX1_lastBegin_19 : decode cX1_lastBegin 19 = .ok (.invokevirtual 28, 3) := by decide +kernel
theorem dX1_lastBegin_22 : decode cX1_lastBegin 22 = .ok (.iconst 1, 1) := by decide +kernel
theorem dX1_lastBegin_23 : decode cX1_lastBegin 23 = .ok (.isub, 1) := by decide +kernel
theorem dX1_lastBegin_24 : decode cX1_lastBegin 24 = .ok (.iaload, 1) := by decide +kernel
theorem dX1_lastBegin_25 : decode cX1_lastBegin 25 = .ok (.ireturn, 1) := by decide +kernel
set_option maxRecDepth 20000 in
theorem ggX1_append_X1_endOf : GoodIn wsX1_append wsX1_endOf := goodIn_r _ [9, 4, 10, 11, 12, 13, 14] (by decide +kernel) (by decide +kernel)
set_option maxRecDepth 20000 in
theorem gX1_append_X1_endOf : GoodIn wsX1_append (wsV RX1 28 RX1 yX1_endOf wsX1_endOf) := goodIn_app (goodIn_of _ (by decide +kernel)) ggX1_append_X1_endOf
theorem dX1_append_0 : decode cX1_append 0 = .ok (.aload_n 0, 1) := by decide +kernel
theorem dX1_append_1 : decode cX1_append 1 = .ok (.iload_n 1, 1) := by decide +kernel
theorem dX1_append_2 : decode cX1_append 2 = .ok (.invokevirtual 28, 3) := by decide +kernel
theorem dX1_append_5 : decode cX1_append 5 = .ok (.istore 5, 2) := by decide +kernel
theorem dX1_append_7 : decode cX1_append 7 = .ok (.aload_n 0, 1) := by decide +kernel
theorem dX1_append_8 : decode cX1_append 8 = .ok (.getfield 9, 3) := by decide +kernel
theorem dX1_append_11 : decode cX1_append 11 = .ok (.iload 5, 2) := by decide +kernel
theorem dX1_append_13 : decode cX1_append 13 = .ok (.iload_n 2, 1) := by decide +kernel
theorem dX1_append_14 : decode cX1_append 14 = .ok (.iastore, 1) := by decide +kernel
theorem dX1_append_15 : decode cX1_append 15 = .ok (.aload_n 0, 1) := by decide +kernel
theorem dX1_append_16 : decode cX1_append 16 = .ok (.getfield 15, 3) := by decide +kernel
theorem dX1_append_19 : decode cX1_append 19 = .ok (.iload 5, 2) := by decide +kernel
theorem dX1_append_21 : decode cX1_append 21 = .ok (.iload_n 3, 1) := by decide +kernel
theorem dX1_append_22 : decode cX1_append 22 = .ok (.iastore, 1) := by decide +kernel
theorem dX1_append_23 : decode cX1_append 23 = .ok (.aload_n 0, 1) := by decide +kernel
theorem dX1_append_24 : decode cX1_append 24 = .ok (.getfield 18, 3) := by decide +kernel
theorem dX1_append_27 : decode cX1_append 27 = .ok (.iload 5, 2) := by decide +kernel
theorem dX1_append_29 : decode cX1_append 29 = .ok (.iload 4, 2) := by decide +kernel
theorem dX1_append_31 : decode cX1_append 31 = .ok (.iastore, 1) := by decide +kernel
theorem dX1_append_32 : decode cX1_append 32 = .ok (.aload_n 0, 1) := by decide +kernel
theorem dX1_append_33 : decode cX1_append 33 = .ok (.getfield 21, 3) := by decide +kernel
theorem dX1_append_36 : decode cX1_append 36 = .ok (.iload_n 1, 1) := by decide +kernel
theorem dX1_append_37 : decode cX1_append 37 = .ok (.dup2, 1) := by decide +kernel
theorem dX1_append_38 : decode cX1_append 38 = .ok (.iaload, 1) := by decide +kernel
theorem dX1_append_39 : decode cX1_append 39 = .ok (.iconst 1, 1) := by decide +kernel
theorem dX1_append_40 : decode cX1_append 40 = .ok (.iadd, 1) := by decide +kernel
theorem dX1_append_41 : decode cX1_append 41 = .ok (.iastore, 1) := by decide +kernel
theorem dX1_append_42 : decode cX1_append 42 = .ok (.aload_n 0, 1) := by decide +kernel
theorem dX1_append_43 : decode cX1_append 43 = .ok (.getfield 21, 3) := by decide +kernel
theorem dX1_append_46 : decode cX1_append 46 = .ok (.iload_n 1, 1) := by decide +kernel
theorem dX1_append_47 : decode cX1_append 47 = .ok (.iaload, 1) := by decide +kernel
theorem dX1_append_48 : decode cX1_append 48 = .ok (.iconst 1, 1) := by decide +kernel
theorem dX1_append_49 : decode cX1_append 49 = .ok (.isub, 1) := by decide +kernel
theorem dX1_append_50 : decode cX1_append 50 = .ok (.ireturn, 1) := by decide +kernel
theorem dX1_countNotes_0 : decode cX1_countNotes 0 = .ok (.iconst 0, 1) := by decide +kernel
theorem dX1_countNotes_1 : decode cX1_countNotes 1 = .ok (.istore_n 1, 1) := by decide +kernel
theorem dX1_countNotes_2 : decode cX1_countNotes 2 = .ok (.iconst 0, 1) := by decide +kernel
theorem dX1_countNotes_3 : decode cX1_countNotes 3 = .ok (.istore_n 2, 1) := by decide +kernel
theorem dX1_countNotes_4 : decode cX1_countNotes 4 = .ok (.iload_n 2, 1) := by decide +kernel
theorem dX1_countNotes_5 : decode cX1_countNotes 5 = .ok (.iconst 4, 1) := by decide +kernel
theorem dX1_countNotes_6 : decode cX1_countNotes 6 = .ok (.if_icmp .ge 18, 3) := by decide +kernel
theorem dX1_countNotes_9 : decode cX1_countNotes 9 = .ok (.iload_n 1, 1) := by decide +kernel
theorem dX1_countNotes_10 : decode cX1_countNotes 10 = .ok (.aload_n 0, 1) := by decide +kernel
theorem dX1_countNotes_11 : decode cX1_countNotes 11 = .ok (.getfield 21, 3) := by decide +kernel
theorem dX1_countNotes_14 : decode cX1_countNotes 14 = .ok (.iload_n 2, 1) := by decide +kernel
theorem dX1_countNotes_15 : decode cX1_countNotes 15 = .ok (.iaload, 1) := by decide +kernel
theorem dX1_countNotes_16 : decode cX1_countNotes 16 = .ok (.iadd, 1) := by decide +kernel
theorem dX1_countNotes_17 : decode cX1_countNotes 17 = .ok (.istore_n 1, 1) := by decide +kernel
theorem dX1_countNotes_18 : decode cX1_countNotes 18 = .ok (.iinc 2 1, 3) := by decide +kernel
theorem dX1_countNotes_21 : decode cX1_countNotes 21 = .ok (.goto (-17), 3) := by decide +kernel
theorem dX1_countNotes_24 : decode cX1_countNotes 24 = .ok (.iload_n 1, 1) := by decide +kernel
theorem dX1_countNotes_25 : decode cX1_countNotes 25 = .ok (.ireturn, 1) := by decide +kernel
theorem dX1_tickBehind_0 : decode cX1_tickBehind 0 = .ok (.aload_n 0, 1) := by decide +kernel
theorem dX1_tickBehind_1 : decode cX1_tickBehind 1 = .ok (.getfield 15, 3) := by decide +kernel
theorem dX1_tickBehind_4 : decode cX1_tickBehind 4 = .ok (.iload_n 1, 1) := by decide +kernel
theorem dX1_tickBehind_5 : decode cX1_tickBehind 5 = .ok (.iaload, 1) := by decide +kernel
theorem dX1_tickBehind_6 : decode cX1_tickBehind 6 = .ok (.aload_n 0, 1) := by decide +kernel
theorem dX1_tickBehind_7 : decode cX1_tickBehind 7 = .ok (.getfield 18, 3) := by decide +kernel
theorem dX1_tickBehind_10 : decode cX1_tickBehind 10 = .ok (.iload_n 1, 1) := by decide +kernel
theorem dX1_tickBehind_11 : decode cX1_tickBehind 11 = .ok (.iaload, 1) := by decide +kernel
theorem dX1_tickBehind_12 : decode cX1_tickBehind 12 = .ok (.iadd, 1) := by decide +kernel
theorem dX1_tickBehind_13 : decode cX1_tickBehind 13 = .ok (.ireturn, 1) := by decide +kernel
set_option maxRecDepth 20000 in
theorem ggX1_soundsAt_X1_tickBehind : GoodIn wsX1_soundsAt wsX1_tickBehind := goodIn_r _ [6, 1, 7, 8, 9, 10, 11, 12] (by decide +kernel) (by decide +kernel)
set_option maxRecDepth 20000 in
theorem gX1_soundsAt_X1_tickBehind : GoodIn wsX1_soundsAt (wsV RX1 32 RX1 yX1_tickBehind wsX1_tickBehind) := goodIn_app (goodIn_of _ (by decide +kernel)) ggX1_soundsAt_X1_tickBehind
theorem dX1_soundsAt_0 : decode cX1_soundsAt 0 = .ok (.aload_n 0, 1) := by decide +kernel
theorem dX1_soundsAt_1 : decode cX1_soundsAt 1 = .ok (.getfield 15, 3) := by decide +kernel
theorem dX1_soundsAt_4 : decode cX1_soundsAt 4 = .ok (.iload_n 1, 1) := by decide +kernel
theorem dX1_soundsAt_5 : decode cX1_soundsAt 5 = .ok (.iaload, 1) := by decide +kernel
theorem dX1_soundsAt_6 : decode cX1_soundsAt 6 = .ok (.iload_n 2, 1) := by decide +kernel
theorem dX1_soundsAt_7 : decode cX1_soundsAt 7 = .ok (.if_icmp .gt 16, 3) := by decide +kernel
theorem dX1_soundsAt_10 : decode cX1_soundsAt 10 = .ok (.iload_n 2, 1) := by decide +kernel
theorem dX1_soundsAt_11 : decode cX1_soundsAt 11 = .ok (.aload_n 0, 1) := by decide +kernel
theorem dX1_soundsAt_12 : decode cX1_soundsAt 12 = .ok (.iload_n 1, 1) := by decide +kernel
theorem dX1_soundsAt_13 : decode cX1_soundsAt 13 = .ok (.invokevirtual 32, 3) := by decide +kernel
theorem dX1_soundsAt_16 : decode cX1_soundsAt 16 = .ok (.if_icmp .ge 7, 3) := by decide +kernel
theorem dX1_soundsAt_19 : decode cX1_soundsAt 19 = .ok (.iconst 1, 1) := by decide +kernel
theorem dX1_soundsAt_20 : decode cX1_soundsAt 20 = .ok (.goto 4, 3) := by decide +kernel
theorem dX1_soundsAt_23 : decode cX1_soundsAt 23 = .ok (.iconst 0, 1) := by decide +kernel
theorem dX1_soundsAt_24 : decode cX1_soundsAt 24 = .ok (.ireturn, 1) := by decide +kernel
set_option maxRecDepth 20000 in
theorem ggX1_soundAtOnce_X1_tickBehind : GoodIn wsX1_soundAtOnce wsX1_tickBehind := goodIn_r _ [6, 1, 7, 8, 9, 10, 11, 12] (by decide +kernel) (by decide +kernel)
set_option maxRecDepth 20000 in
theorem gX1_soundAtOnce_X1_tickBehind : GoodIn wsX1_soundAtOnce (wsV RX1 32 RX1 yX1_tickBehind wsX1_tickBehind) := goodIn_app (goodIn_of _ (by decide +kernel)) ggX1_soundAtOnce_X1_tickBehind
theorem dX1_soundAtOnce_0 : decode cX1_soundAtOnce 0 = .ok (.aload_n 0, 1) := by decide +kernel
theorem dX1_soundAtOnce_1 : decode cX1_soundAtOnce 1 = .ok (.getfield 15, 3) := by decide +kernel
theorem dX1_soundAtOnce_4 : decode cX1_soundAtOnce 4 = .ok (.iload_n 1, 1) := by decide +kernel
theorem dX1_soundAtOnce_5 : decode cX1_soundAtOnce 5 = .ok (.iaload, 1) := by decide +kernel
theorem dX1_soundAtOnce_6 : decode cX1_soundAtOnce 6 = .ok (.aload_n 0, 1) := by decide +kernel
theorem dX1_soundAtOnce_7 : decode cX1_soundAtOnce 7 = .ok (.iload_n 2, 1) := by decide +kernel
theorem dX1_soundAtOnce_8 : decode cX1_soundAtOnce 8 = .ok (.invokevirtual 32, 3) := by decide +kernel
theorem dX1_soundAtOnce_11 : decode cX1_soundAtOnce 11 = .ok (.if_icmp .ge 21, 3) := by decide +kernel
theorem dX1_soundAtOnce_14 : decode cX1_soundAtOnce 14 = .ok (.aload_n 0, 1) := by decide +kernel
theorem dX1_soundAtOnce_15 : decode cX1_soundAtOnce 15 = .ok (.getfield 15, 3) := by decide +kernel
theorem dX1_soundAtOnce_18 : decode cX1_soundAtOnce 18 = .ok (.iload_n 2, 1) := by decide +kernel
theorem dX1_soundAtOnce_19 : decode cX1_soundAtOnce 19 = .ok (.iaload, 1) := by decide +kernel
theorem dX1_soundAtOnce_20 : decode cX1_soundAtOnce 20 = .ok (.aload_n 0, 1) := by decide +kernel
theorem dX1_soundAtOnce_21 : decode cX1_soundAtOnce 21 = .ok (.iload_n 1, 1) := by decide +kernel
theorem dX1_soundAtOnce_22 : decode cX1_soundAtOnce 22 = .ok (.invokevirtual 32, 3) := by decide +kernel
theorem dX1_soundAtOnce_25 : decode cX1_soundAtOnce 25 = .ok (.if_icmp .ge 7, 3) := by decide +kernel
theorem dX1_soundAtOnce_28 : decode cX1_soundAtOnce 28 = .ok (.iconst 1, 1) := by decide +kernel
theorem dX1_soundAtOnce_29 : decode cX1_soundAtOnce 29 = .ok (.goto 4, 3) := by decide +kernel
theorem dX1_soundAtOnce_32 : decode cX1_soundAtOnce 32 = .ok (.iconst 0, 1) := by decide +kernel
theorem dX1_soundAtOnce_33 : decode cX1_soundAtOnce 33 = .ok (.ireturn, 1) := by decide +kernel
set_option maxRecDepth 20000 in
theorem ggX1_doClash_X0_doShare : GoodIn wsX1_doClash wsX0_doShare := goodIn_r _ [7, 8, 9, 10, 11, 6, 12, 13, 30, 31, 32, 33, 34] (by decide +kernel) (by decide +kernel)
set_option maxRecDepth 20000 in
theorem gX1_doClash_X0_doShare : GoodIn wsX1_doClash (wsV RX1 35 RX0 yX0_doShare wsX0_doShare) := goodIn_app (goodIn_of _ (by decide +kernel)) ggX1_doClash_X0_doShare
set_option maxRecDepth 20000 in
theorem ggX1_doClash_X1_soundAtOnce : GoodIn wsX1_doClash wsX1_soundAtOnce := goodIn_r _ [18, 19, 20, 21, 22, 17, 23, 24, 25, 26, 27, 28, 29] (by decide +kernel) (by decide +kernel)
set_option maxRecDepth 20000 in
theorem gX1_doClash_X1_soundAtOnce : GoodIn wsX1_doClash (wsV RX1 41 RX1 yX1_soundAtOnce wsX1_soundAtOnce) := goodIn_app (goodIn_of _ (by decide +kernel)) ggX1_doClash_X1_soundAtOnce
theorem dX1_doClash_0 : decode cX1_doClash 0 = .ok (.aload_n 0, 1) := by decide +kernel
theorem dX1_doClash_1 : decode cX1_doClash 1 = .ok (.getfield 24, 3) := by decide +kernel
theorem dX1_doClash_4 : decode cX1_doClash 4 = .ok (.aload_n 0, 1) := by decide +kernel
theorem dX1_doClash_5 : decode cX1_doClash 5 = .ok (.getfield 9, 3) := by decide +kernel
theorem dX1_doClash_8 : decode cX1_doClash 8 = .ok (.iload_n 1, 1) := by decide +kernel
theorem dX1_doClash_9 : decode cX1_doClash 9 = .ok (.iaload, 1) := by decide +kernel
theorem dX1_doClash_10 : decode cX1_doClash 10 = .ok (.aload_n 0, 1) := by decide +kernel
theorem dX1_doClash_11 : decode cX1_doClash 11 = .ok (.getfield 9, 3) := by decide +kernel
theorem dX1_doClash_14 : decode cX1_doClash 14 = .ok (.iload_n 2, 1) := by decide +kernel
theorem dX1_doClash_15 : decode cX1_doClash 15 = .ok (.iaload, 1) := by decide +kernel
theorem dX1_doClash_16 : decode cX1_doClash 16 = .ok (.invokevirtual 35, 3) := by decide +kernel
theorem dX1_doClash_19 : decode cX1_doClash 19 = .ok (.ifCond .eq 16, 3) := by decide +kernel
theorem dX1_doClash_22 : decode cX1_doClash 22 = .ok (.aload_n 0, 1) := by decide +kernel
theorem dX1_doClash_23 : decode cX1_doClash 23 = .ok (.iload_n 1, 1) := by decide +kernel
theorem dX1_doClash_24 : decode cX1_doClash 24 = .ok (.iload_n 2, 1) := by decide +kernel
theorem dX1_doClash_25 : decode cX1_doClash 25 = .ok (.invokevirtual 41, 3) := by decide +kernel
theorem dX1_doClash_28 : decode cX1_doClash 28 = .ok (.ifCond .eq 7, 3) := by decide +kernel
theorem dX1_doClash_31 : decode cX1_doClash 31 = .ok (.iconst 1, 1) := by decide +kernel
theorem dX1_doClash_32 : decode cX1_doClash 32 = .ok (.goto 4, 3) := by decide +kernel
theorem dX1_doClash_35 : decode cX1_doClash 35 = .ok (.iconst 0, 1) := by decide +kernel
theorem dX1_doClash_36 : decode cX1_doClash 36 = .ok (.ireturn, 1) := by decide +kernel
set_option maxRecDepth 20000 in
theorem ggX1_countClashes_X1_startOf : GoodIn wsX1_countClashes wsX1_startOf := goodIn_r _ [5] (by decide +kernel) (by decide +kernel)
set_option maxRecDepth 20000 in
theorem gX1_countClashes_X1_startOf : GoodIn wsX1_countClashes (wsV RX1 44 RX1 yX1_startOf wsX1_startOf) := goodIn_app (goodIn_of _ (by decide +kernel)) ggX1_countClashes_X1_startOf
set_option maxRecDepth 20000 in
theorem ggX1_countClashes_X1_endOf : GoodIn wsX1_countClashes wsX1_endOf := goodIn_r _ [9, 10, 38, 39, 40, 41, 42] (by decide +kernel) (by decide +kernel)
set_option maxRecDepth 20000 in
theorem gX1_countClashes_X1_endOf : GoodIn wsX1_countClashes (wsV RX1 28 RX1 yX1_endOf wsX1_endOf) := goodIn_app (goodIn_of _ (by decide +kernel)) ggX1_countClashes_X1_endOf
set_option maxRecDepth 20000 in
theorem ggX1_countClashes_X1_doClash : GoodIn wsX1_countClashes wsX1_doClash := goodIn_r _ [14, 15, 16, 17, 18, 19, 20, 21, 22, 23, 24, 25, 26, 27, 28, 29, 30, 4, 31, 32, 33, 34, 35, 36, 37, 38, 39, 40, 41, 42, 43, 44, 45, 46, 47] (by decide +kernel) (by decide +kernel)
set_option maxRecDepth 20000 in
theorem gX1_countClashes_X1_doClash : GoodIn wsX1_countClashes (wsV RX1 47 RX1 yX1_doClash wsX1_doClash) := goodIn_app (goodIn_of _ (by decide +kernel)) ggX1_countClashes_X1_doClash
theorem dX1_countClashes_0 : decode cX1_countClashes 0 = .ok (.iconst 0, 1) := by decide +kernel
theorem dX1_countClashes_1 : decode cX1_countClashes 1 = .ok (.istore_n 2, 1) := by decide +kernel
theorem dX1_countClashes_2 : decode cX1_countClashes 2 = .ok (.aload_n 0, 1) := by decide +kernel
theorem dX1_countClashes_3 : decode cX1_countClashes 3 = .ok (.iload_n 1, 1) := by decide +kernel
theorem dX1_countClashes_4 : decode cX1_countClashes 4 = .ok (.invokevirtual 44, 3) := by decide +kernel
theorem dX1_countClashes_7 : decode cX1_countClashes 7 = .ok (.istore_n 3, 1) := by decide +kernel
theorem dX1_countClashes_8 : decode cX1_countClashes 8 = .ok (.iload_n 3, 1) := by decide +kernel
theorem dX1_countClashes_9 : decode cX1_countClashes 9 = .ok (.aload_n 0, 1) := by decide +kernel
theorem dX1_countClashes_10 : decode cX1_countClashes 10 = .ok (.iload_n 1, 1) := by decide +kernel
theorem dX1_countClashes_11 : decode cX1_countClashes 11 = .ok (.invokevirtual 28, 3) := by decide +kernel
theorem dX1_countClashes_14 : decode cX1_countClashes 14 = .ok (.if_icmp .ge 41, 3) := by decide +kernel
theorem dX1_countClashes_17 : decode cX1_countClashes 17 = .ok (.aload_n 0, 1) := by decide +kernel
theorem dX1_countClashes_18 : decode cX1_countClashes 18 = .ok (.iload_n 1, 1) := by decide +kernel
theorem dX1_countClashes_19 : decode cX1_countClashes 19 = .ok (.invokevirtual 44, 3) := by decide +kernel
theorem dX1_countClashes_22 : decode cX1_countClashes 22 = .ok (.istore 4, 2) := by decide +kernel
theorem dX1_countClashes_24 : decode cX1_countClashes 24 = .ok (.iload 4, 2) := by decide +kernel
theorem dX1_countClashes_26 : decode cX1_countClashes 26 = .ok (.iload_n 3, 1) := by decide +kernel
theorem dX1_countClashes_27 : decode cX1_countClashes 27 = .ok (.if_icmp .ge 22, 3) := by decide +kernel
theorem dX1_countClashes_30 : decode cX1_countClashes 30 = .ok (.aload_n 0, 1) := by decide +kernel
theorem dX1_countClashes_31 : decode cX1_countClashes 31 = .ok (.iload 4, 2) := by decide +kernel
theorem dX1_countClashes_33 : decode cX1_countClashes 33 = .ok (.iload_n 3, 1) := by decide +kernel
theorem dX1_countClashes_34 : decode cX1_countClashes 34 = .ok (.invokevirtual 47, 3) := by decide +kernel
theorem dX1_countClashes_37 : decode cX1_countClashes 37 = .ok (.ifCond .eq 6, 3) := by decide +kernel
theorem dX1_countClashes_40 : decode cX1_countClashes 40 = .ok (.iinc 2 1, 3) := by decide +kernel
theorem dX1_countClashes_43 : decode cX1_countClashes 43 = .ok (.iinc 4 1, 3) := by decide +kernel
theorem dX1_countClashes_46 : decode cX1_countClashes 46 = .ok (.goto (-22), 3) := by decide +kernel
theorem dX1_countClashes_49 : decode cX1_countClashes 49 = .ok (.iinc 3 1, 3) := by decide +kernel
theorem dX1_countClashes_52 : decode cX1_countClashes 52 = .ok (.goto (-44), 3) := by decide +kernel
theorem dX1_countClashes_55 : decode cX1_countClashes 55 = .ok (.iload_n 2, 1) := by decide +kernel
theorem dX1_countClashes_56 : decode cX1_countClashes 56 = .ok (.ireturn, 1) := by decide +kernel
set_option maxRecDepth 20000 in
theorem ggX1_clashNumbered_X1_startOf : GoodIn wsX1_clashNumbered wsX1_startOf := goodIn_r _ [6] (by decide +kernel) (by decide +kernel)
set_option maxRecDepth 20000 in
theorem gX1_clashNumbered_X1_startOf : GoodIn wsX1_clashNumbered (wsV RX1 44 RX1 yX1_startOf wsX1_startOf) := goodIn_app (goodIn_of _ (by decide +kernel)) ggX1_clashNumbered_X1_startOf
set_option maxRecDepth 20000 in
theorem ggX1_clashNumbered_X1_endOf : GoodIn wsX1_clashNumbered wsX1_endOf := goodIn_r _ [10, 11, 39, 40, 41, 42, 43] (by decide +kernel) (by decide +kernel)
set_option maxRecDepth 20000 in
theorem gX1_clashNumbered_X1_endOf : GoodIn wsX1_clashNumbered (wsV RX1 28 RX1 yX1_endOf wsX1_endOf) := goodIn_app (goodIn_of _ (by decide +kernel)) ggX1_clashNumbered_X1_endOf
set_option maxRecDepth 20000 in
theorem ggX1_clashNumbered_X1_doClash : GoodIn wsX1_clashNumbered wsX1_doClash := goodIn_r _ [15, 16, 17, 18, 19, 20, 21, 22, 23, 24, 25, 26, 27, 28, 29, 30, 31, 5, 32, 33, 34, 35, 36, 37, 38, 39, 40, 41, 42, 43, 44, 45, 46, 47, 48] (by decide +kernel) (by decide +kernel)
set_option maxRecDepth 20000 in
theorem gX1_clashNumbered_X1_doClash : GoodIn wsX1_clashNumbered (wsV RX1 47 RX1 yX1_doClash wsX1_doClash) := goodIn_app (goodIn_of _ (by decide +kernel)) ggX1_clashNumbered_X1_doClash
theorem dX1_clashNumbered_0 : decode cX1_clashNumbered 0 = .ok (.aload_n 0, 1) := by decide +kernel
theorem dX1_clashNumbered_1 : decode cX1_clashNumbered 1 = .ok (.iload_n 1, 1) := by decide +kernel
theorem dX1_clashNumbered_2 : decode cX1_clashNumbered 2 = .ok (.invokevirtual 44, 3) := by decide +kernel
theorem dX1_clashNumbered_5 : decode cX1_clashNumbered 5 = .ok (.istore_n 3, 1) := by decide +kernel
theorem dX1_clashNumbered_6 : decode cX1_clashNumbered 6 = .ok (.iconst 0, 1) := by decide +kernel
theorem dX1_clashNumbered_7 : decode cX1_clashNumbered 7 = .ok (.istore 4, 2) := by decide +kernel
theorem dX1_clashNumbered_9 : decode cX1_clashNumbered 9 = .ok (.iload_n 3, 1) := by decide +kernel
theorem dX1_clashNumbered_10 : decode cX1_clashNumbered 10 = .ok (.istore 5, 2) := by decide +kernel
theorem dX1_clashNumbered_12 : decode cX1_clashNumbered 12 = .ok (.iload 5, 2) := by decide +kernel
theorem dX1_clashNumbered_14 : decode cX1_clashNumbered 14 = .ok (.aload_n 0, 1) := by decide +kernel
theorem dX1_clashNumbered_15 : decode cX1_clashNumbered 15 = .ok (.iload_n 1, 1) := by decide +kernel
theorem dX1_clashNumbered_16 : decode cX1_clashNumbered 16 = .ok (.invokevirtual 28, 3) := by decide +kernel
theorem dX1_clashNumbered_19 : decode cX1_clashNumbered 19 = .ok (.if_icmp .ge 61, 3) := by decide +kernel
theorem dX1_clashNumbered_22 : decode cX1_clashNumbered 22 = .ok (.iload_n 3, 1) := by decide +kernel
theorem dX1_clashNumbered_23 : decode cX1_clashNumbered 23 = .ok (.istore 6, 2) := by decide +kernel
theorem dX1_clashNumbered_25 : decode cX1_clashNumbered 25 = .ok (.iload 6, 2) := by decide +kernel
theorem dX1_clashNumbered_27 : decode cX1_clashNumbered 27 = .ok (.iload 5, 2) := by decide +kernel
theorem dX1_clashNumbered_29 : decode cX1_clashNumbered 29 = .ok (.if_icmp .ge 45, 3) := by decide +kernel
theorem dX1_clashNumbered_32 : decode cX1_clashNumbered 32 = .ok (.aload_n 0, 1) := by decide +kernel
theorem dX1_clashNumbered_33 : decode cX1_clashNumbered 33 = .ok (.iload 6, 2) := by decide +kernel
theorem dX1_clashNumbered_35 : decode cX1_clashNumbered 35 = .ok (.iload 5, 2) := by decide +kernel
theorem dX1_clashNumbered_37 : decode cX1_clashNumbered 37 = .ok (.invokevirtual 47, 3) := by decide +kernel
theorem dX1_clashNumbered_40 : decode cX1_clashNumbered 40 = .ok (.ifCond .ne 6, 3) := by decide +kernel
theorem dX1_clashNumbered_43 : decode cX1_clashNumbered 43 = .ok (.goto 25, 3) := by decide +kernel
theorem dX1_clashNumbered_46 : decode cX1_clashNumbered 46 = .ok (.iload 4, 2) := by decide +kernel
theorem dX1_clashNumbered_48 : decode cX1_clashNumbered 48 = .ok (.iload_n 2, 1) := by decide +kernel
theorem dX1_clashNumbered_49 : decode cX1_clashNumbered 49 = .ok (.if_icmp .ne 16, 3) := by decide +kernel
theorem dX1_clashNumbered_52 : decode cX1_clashNumbered 52 = .ok (.bipush 40, 2) := by decide +kernel
theorem dX1_clashNumbered_54 : decode cX1_clashNumbered 54 = .ok (.iload 6, 2) := by decide +kernel
theorem dX1_clashNumbered_56 : decode cX1_clashNumbered 56 = .ok (.iload_n 3, 1) := by decide +kernel
theorem dX1_clashNumbered_57 : decode cX1_clashNumbered 57 = .ok (.isub, 1) := by decide +kernel
theorem dX1_clashNumbered_58 : decode cX1_clashNumbered 58 = .ok (.imul, 1) := by decide +kernel
theorem dX1_clashNumbered_59 : decode cX1_clashNumbered 59 = .ok (.iload 5, 2) := by decide +kernel
theorem dX1_clashNumbered_61 : decode cX1_clashNumbered 61 = .ok (.iadd, 1) := by decide +kernel
theorem dX1_clashNumbered_62 : decode cX1_clashNumbered 62 = .ok (.iload_n 3, 1) := by decide +kernel
theorem dX1_clashNumbered_63 : decode cX1_clashNumbered 63 = .ok (.isub, 1) := by decide +kernel
theorem dX1_clashNumbered_64 : decode cX1_clashNumbered 64 = .ok (.ireturn, 1) := by decide +kernel
theorem dX1_clashNumbered_65 : decode cX1_clashNumbered 65 = .ok (.iinc 4 1, 3) := by decide +kernel
theorem dX1_clashNumbered_68 : decode cX1_clashNumbered 68 = .ok (.iinc 6 1, 3) := by decide +kernel
theorem dX1_clashNumbered_71 : decode cX1_clashNumbered 71 = .ok (.goto (-46), 3) := by decide +kernel
theorem dX1_clashNumbered_74 : decode cX1_clashNumbered 74 = .ok (.iinc 5 1, 3) := by decide +kernel
theorem dX1_clashNumbered_77 : decode cX1_clashNumbered 77 = .ok (.goto (-65), 3) := by decide +kernel
theorem dX1_clashNumbered_80 : decode cX1_clashNumbered 80 = .ok (.ldc 50, 2) := by decide +kernel
theorem dX1_clashNumbered_82 : decode cX1_clashNumbered 82 = .ok (.ireturn, 1) := by decide +kernel
set_option maxRecDepth 20000 in
theorem ggX1_countChokes_X1_startOf : GoodIn wsX1_countChokes wsX1_startOf := goodIn_r _ [8] (by decide +kernel) (by decide +kernel)
set_option maxRecDepth 20000 in
theorem gX1_countChokes_X1_startOf : GoodIn wsX1_countChokes (wsV RX1 44 RX1 yX1_startOf wsX1_startOf) := goodIn_app (goodIn_of _ (by decide +kernel)) ggX1_countChokes_X1_startOf
set_option maxRecDepth 20000 in
theorem ggX1_countChokes_X1_endOf : GoodIn wsX1_countChokes wsX1_endOf := goodIn_r _ [12, 13, 30, 31, 32, 33, 34] (by decide +kernel) (by decide +kernel)
set_option maxRecDepth 20000 in
theorem gX1_countChokes_X1_endOf : GoodIn wsX1_countChokes (wsV RX1 28 RX1 yX1_endOf wsX1_endOf) := goodIn_app (goodIn_of _ (by decide +kernel)) ggX1_countChokes_X1_endOf
set_option maxRecDepth 20000 in
theorem ggX1_countChokes_X1_tickBehind : GoodIn wsX1_countChokes wsX1_tickBehind := goodIn_r _ [17, 1, 18, 30, 31, 32, 33, 34] (by decide +kernel) (by decide +kernel)
set_option maxRecDepth 20000 in
theorem gX1_countChokes_X1_tickBehind : GoodIn wsX1_countChokes (wsV RX1 32 RX1 yX1_tickBehind wsX1_tickBehind) := goodIn_app (goodIn_of _ (by decide +kernel)) ggX1_countChokes_X1_tickBehind
set_option maxRecDepth 20000 in
theorem ggX1_countChokes_X0_doShare : GoodIn wsX1_countChokes wsX0_doShare := goodIn_r _ [23, 24, 25, 26, 27, 22, 28, 29, 35, 36, 37, 38, 39] (by decide +kernel) (by decide +kernel)
set_option maxRecDepth 20000 in
theorem gX1_countChokes_X0_doShare : GoodIn wsX1_countChokes (wsV RX1 35 RX0 yX0_doShare wsX0_doShare) := goodIn_app (goodIn_of _ (by decide +kernel)) ggX1_countChokes_X0_doShare
theorem dX1_countChokes_0 : decode cX1_countChokes 0 = .ok (.iconst 0, 1) := by decide +kernel
theorem dX1_countChokes_1 : decode cX1_countChokes 1 = .ok (.istore_n 3, 1) := by decide +kernel
theorem dX1_countChokes_2 : decode cX1_countChokes 2 = .ok (.aload_n 0, 1) := by decide +kernel
theorem dX1_countChokes_3 : decode cX1_countChokes 3 = .ok (.iload_n 1, 1) := by decide +kernel
theorem dX1_countChokes_4 : decode cX1_countChokes 4 = .ok (.invokevirtual 44, 3) := by decide +kernel
theorem dX1_countChokes_7 : decode cX1_countChokes 7 = .ok (.istore 4, 2) := by decide +kernel
theorem dX1_countChokes_9 : decode cX1_countChokes 9 = .ok (.iload 4, 2) := by decide +kernel
theorem dX1_countChokes_11 : decode cX1_countChokes 11 = .ok (.aload_n 0, 1) := by decide +kernel
theorem dX1_countChokes_12 : decode cX1_countChokes 12 = .ok (.iload_n 1, 1) := by decide +kernel
theorem dX1_countChokes_13 : decode cX1_countChokes 13 = .ok (.invokevirtual 28, 3) := by decide +kernel
theorem dX1_countChokes_16 : decode cX1_countChokes 16 = .ok (.if_icmp .ge 84, 3) := by decide +kernel
theorem dX1_countChokes_19 : decode cX1_countChokes 19 = .ok (.aload_n 0, 1) := by decide +kernel
theorem dX1_countChokes_20 : decode cX1_countChokes 20 = .ok (.iload_n 1, 1) := by decide +kernel
theorem dX1_countChokes_21 : decode cX1_countChokes 21 = .ok (.invokevirtual 44, 3) := by decide +kernel
theorem dX1_countChokes_24 : decode cX1_countChokes 24 = .ok (.istore 5, 2) := by decide +kernel
theorem dX1_countChokes_26 : decode cX1_countChokes 26 = .ok (.iload 5, 2) := by decide +kernel
theorem dX1_countChokes_28 : decode cX1_countChokes 28 = .ok (.iload 4, 2) := by decide +kernel
theorem dX1_countChokes_30 : decode cX1_countChokes 30 = .ok (.if_icmp .ge 64, 3) := by decide +kernel
theorem dX1_countChokes_33 : decode cX1_countChokes 33 = .ok (.aload_n 0, 1) := by decide +kernel
theorem dX1_countChokes_34 : decode cX1_countChokes 34 = .ok (.getfield 15, 3) := by decide +kernel
theorem dX1_countChokes_37 : decode cX1_countChokes 37 = .ok (.iload 4, 2) := by decide +kernel
theorem dX1_countChokes_39 : decode cX1_countChokes 39 = .ok (.iaload, 1) := by decide +kernel
theorem dX1_countChokes_40 : decode cX1_countChokes 40 = .ok (.aload_n 0, 1) := by decide +kernel
theorem dX1_countChokes_41 : decode cX1_countChokes 41 = .ok (.iload 5, 2) := by decide +kernel
theorem dX1_countChokes_43 : decode cX1_countChokes 43 = .ok (.invokevirtual 32, 3) := by decide +kernel
theorem dX1_countChokes_46 : decode cX1_countChokes 46 = .ok (.isub, 1) := by decide +kernel
theorem dX1_countChokes_47 : decode cX1_countChokes 47 = .ok (.istore 6, 2) := by decide +kernel
theorem dX1_countChokes_49 : decode cX1_countChokes 49 = .ok (.iconst 0, 1) := by decide +kernel
theorem dX1_countChokes_50 : decode cX1_countChokes 50 = .ok (.iload 6, 2) := by decide +kernel
theorem dX1_countChokes_52 : decode cX1_countChokes 52 = .ok (.if_icmp .gt 36, 3) := by decide +kernel
theorem dX1_countChokes_55 : decode cX1_countChokes 55 = .ok (.iload 6, 2) := by decide +kernel
theorem dX1_countChokes_57 : decode cX1_countChokes 57 = .ok (.iload_n 2, 1) := by decide +kernel
theorem dX1_countChokes_58 : decode cX1_countChokes 58 = .ok (.if_icmp .ge 30, 3) := by decide +kernel
theorem dX1_countChokes_61 : decode cX1_countChokes 61 = .ok (.aload_n 0, 1) := by decide +kernel
theorem dX1_countChokes_62 : decode cX1_countChokes 62 = .ok (.getfield 24, 3) := by decide +kernel
theorem dX1_countChokes_65 : decode cX1_countChokes 65 = .ok (.aload_n 0, 1) := by decide +kernel
theorem dX1_countChokes_66 : decode cX1_countChokes 66 = .ok (.getfield 9, 3) := by decide +kernel
theorem dX1_countChokes_69 : decode cX1_countChokes 69 = .ok (.iload 5, 2) := by decide +kernel
theorem dX1_countChokes_71 : decode cX1_countChokes 71 = .ok (.iaload, 1) := by decide +kernel
theorem dX1_countChokes_72 : decode cX1_countChokes 72 = .ok (.aload_n 0, 1) := by decide +kernel
theorem dX1_countChokes_73 : decode cX1_countChokes 73 = .ok (.getfield 9, 3) := by decide +kernel
theorem dX1_countChokes_76 : decode cX1_countChokes 76 = .ok (.iload 4, 2) := by decide +kernel
theorem dX1_countChokes_78 : decode cX1_countChokes 78 = .ok (.iaload, 1) := by decide +kernel
theorem dX1_countChokes_79 : decode cX1_countChokes 79 = .ok (.invokevirtual 35, 3) := by decide +kernel
theorem dX1_countChokes_82 : decode cX1_countChokes 82 = .ok (.ifCond .eq 6, 3) := by decide +kernel
theorem dX1_countChokes_85 : decode cX1_countChokes 85 = .ok (.iinc 3 1, 3) := by decide +kernel
theorem dX1_countChokes_88 : decode cX1_countChokes 88 = .ok (.iinc 5 1, 3) := by decide +kernel
theorem dX1_countChokes_91 : decode cX1_countChokes 91 = .ok (.goto (-65), 3) := by decide +kernel
theorem dX1_countChokes_94 : decode cX1_countChokes 94 = .ok (.iinc 4 1, 3) := by decide +kernel
theorem dX1_countChokes_97 : decode cX1_countChokes 97 = .ok (.goto (-88), 3) := by decide +kernel
theorem dX1_countChokes_100 : decode cX1_countChokes 100 = .ok (.iload_n 3, 1) := by decide +kernel
theorem dX1_countChokes_101 : decode cX1_countChokes 101 = .ok (.ireturn, 1) := by decide +kernel
set_option maxRecDepth 20000 in
theorem ggX1_countTrills_X1_startOf : GoodIn wsX1_countTrills wsX1_startOf := goodIn_r _ [7] (by decide +kernel) (by decide +kernel)
set_option maxRecDepth 20000 in
theorem gX1_countTrills_X1_startOf : GoodIn wsX1_countTrills (wsV RX1 44 RX1 yX1_startOf wsX1_startOf) := goodIn_app (goodIn_of _ (by decide +kernel)) ggX1_countTrills_X1_startOf
set_option maxRecDepth 20000 in
theorem ggX1_countTrills_X1_endOf : GoodIn wsX1_countTrills wsX1_endOf := goodIn_r _ [11, 12, 38, 39, 40, 41, 42] (by decide +kernel) (by decide +kernel)
set_option maxRecDepth 20000 in
theorem gX1_countTrills_X1_endOf : GoodIn wsX1_countTrills (wsV RX1 28 RX1 yX1_endOf wsX1_endOf) := goodIn_app (goodIn_of _ (by decide +kernel)) ggX1_countTrills_X1_endOf
set_option maxRecDepth 20000 in
theorem ggX1_countTrills_X1_lastOfTrill : GoodIn wsX1_countTrills wsX1_lastOfTrill := goodIn_r _ [16, 17, 18, 19, 6, 20, 21, 2, 22, 23, 24, 25, 26, 38, 39, 40, 41, 42] (by decide +kernel) (by decide +kernel)
set_option maxRecDepth 20000 in
theorem gX1_countTrills_X1_lastOfTrill : GoodIn wsX1_countTrills (wsV RX1 51 RX1 yX1_lastOfTrill wsX1_lastOfTrill) := goodIn_app (goodIn_of _ (by decide +kernel)) ggX1_countTrills_X1_lastOfTrill
set_option maxRecDepth 20000 in
theorem ggX1_countTrills_X0_doShare : GoodIn wsX1_countTrills wsX0_doShare := goodIn_r _ [31, 32, 33, 34, 35, 30, 36, 37, 43, 44, 45, 46, 47] (by decide +kernel) (by decide +kernel)
set_option maxRecDepth 20000 in
theorem gX1_countTrills_X0_doShare : GoodIn wsX1_countTrills (wsV RX1 35 RX0 yX0_doShare wsX0_doShare) := goodIn_app (goodIn_of _ (by decide +kernel)) ggX1_countTrills_X0_doShare
theorem dX1_countTrills_0 : decode cX1_countTrills 0 = .ok (.iconst 0, 1) := by decide +kernel
theorem dX1_countTrills_1 : decode cX1_countTrills 1 = .ok (.istore_n 3, 1) := by decide +kernel
theorem dX1_countTrills_2 : decode cX1_countTrills 2 = .ok (.aload_n 0, 1) := by decide +kernel
theorem dX1_countTrills_3 : decode cX1_countTrills 3 = .ok (.iload_n 1, 1) := by decide +kernel
theorem dX1_countTrills_4 : decode cX1_countTrills 4 = .ok (.invokevirtual 44, 3) := by decide +kernel
theorem dX1_countTrills_7 : decode cX1_countTrills 7 = .ok (.istore 4, 2) := by decide +kernel
theorem dX1_countTrills_9 : decode cX1_countTrills 9 = .ok (.iload 4, 2) := by decide +kernel
theorem dX1_countTrills_11 : decode cX1_countTrills 11 = .ok (.aload_n 0, 1) := by decide +kernel
theorem dX1_countTrills_12 : decode cX1_countTrills 12 = .ok (.iload_n 1, 1) := by decide +kernel
theorem dX1_countTrills_13 : decode cX1_countTrills 13 = .ok (.invokevirtual 28, 3) := by decide +kernel
theorem dX1_countTrills_16 : decode cX1_countTrills 16 = .ok (.if_icmp .ge 75, 3) := by decide +kernel
theorem dX1_countTrills_19 : decode cX1_countTrills 19 = .ok (.aload_n 0, 1) := by decide +kernel
theorem dX1_countTrills_20 : decode cX1_countTrills 20 = .ok (.iload 4, 2) := by decide +kernel
theorem dX1_countTrills_22 : decode cX1_countTrills 22 = .ok (.aload_n 0, 1) := by decide +kernel
theorem dX1_countTrills_23 : decode cX1_countTrills 23 = .ok (.iload_n 1, 1) := by decide +kernel
theorem dX1_countTrills_24 : decode cX1_countTrills 24 = .ok (.invokevirtual 28, 3) := by decide +kernel
theorem dX1_countTrills_27 : decode cX1_countTrills 27 = .ok (.invokevirtual 51, 3) := by decide +kernel
theorem dX1_countTrills_30 : decode cX1_countTrills 30 = .ok (.istore 5, 2) := by decide +kernel
theorem dX1_countTrills_32 : decode cX1_countTrills 32 = .ok (.iload 5, 2) := by decide +kernel
theorem dX1_countTrills_34 : decode cX1_countTrills 34 = .ok (.iload 4, 2) := by decide +kernel
theorem dX1_countTrills_36 : decode cX1_countTrills 36 = .ok (.isub, 1) := by decide +kernel
theorem dX1_countTrills_37 : decode cX1_countTrills 37 = .ok (.iconst 1, 1) := by decide +kernel
theorem dX1_countTrills_38 : decode cX1_countTrills 38 = .ok (.iadd, 1) := by decide +kernel
theorem dX1_countTrills_39 : decode cX1_countTrills 39 = .ok (.iconst 4, 1) := by decide +kernel
theorem dX1_countTrills_40 : decode cX1_countTrills 40 = .ok (.if_icmp .ge 6, 3) := by decide +kernel
theorem dX1_countTrills_43 : decode cX1_countTrills 43 = .ok (.goto 42, 3) := by decide +kernel
theorem dX1_countTrills_46 : decode cX1_countTrills 46 = .ok (.iload_n 2, 1) := by decide +kernel
theorem dX1_countTrills_47 : decode cX1_countTrills 47 = .ok (.ifCond .eq 29, 3) := by decide +kernel
theorem dX1_countTrills_50 : decode cX1_countTrills 50 = .ok (.aload_n 0, 1) := by decide +kernel
theorem dX1_countTrills_51 : decode cX1_countTrills 51 = .ok (.getfield 24, 3) := by decide +kernel
theorem dX1_countTrills_54 : decode cX1_countTrills 54 = .ok (.aload_n 0, 1) := by decide +kernel
theorem dX1_countTrills_55 : decode cX1_countTrills 55 = .ok (.getfield 9, 3) := by decide +kernel
theorem dX1_countTrills_58 : decode cX1_countTrills 58 = .ok (.iload 4, 2) := by decide +kernel
theorem dX1_countTrills_60 : decode cX1_countTrills 60 = .ok (.iaload, 1) := by decide +kernel
theorem dX1_countTrills_61 : decode cX1_countTrills 61 = .ok (.aload_n 0, 1) := by decide +kernel
theorem dX1_countTrills_62 : decode cX1_countTrills 62 = .ok (.getfield 9, 3) := by decide +kernel
theorem dX1_countTrills_65 : decode cX1_countTrills 65 = .ok (.iload 4, 2) := by decide +kernel
theorem dX1_countTrills_67 : decode cX1_countTrills 67 = .ok (.iconst 1, 1) := by decide +kernel
theorem dX1_countTrills_68 : decode cX1_countTrills 68 = .ok (.iadd, 1) := by decide +kernel
theorem dX1_countTrills_69 : decode cX1_countTrills 69 = .ok (.iaload, 1) := by decide +kernel
theorem dX1_countTrills_70 : decode cX1_countTrills 70 = .ok (.invokevirtual 35, 3) := by decide +kernel
theorem dX1_countTrills_73 : decode cX1_countTrills 73 = .ok (.ifCond .eq 6, 3) := by decide +kernel
theorem dX1_countTrills_76 : decode cX1_countTrills 76 = .ok (.iinc 3 1, 3) := by decide +kernel
theorem dX1_countTrills_79 : decode cX1_countTrills 79 = .ok (.iload 5, 2) := by decide +kernel
theorem dX1_countTrills_81 : decode cX1_countTrills 81 = .ok (.iconst 1, 1) := by decide +kernel
theorem dX1_countTrills_82 : decode cX1_countTrills 82 = .ok (.isub, 1) := by decide +kernel
theorem dX1_countTrills_83 : decode cX1_countTrills 83 = .ok (.istore 4, 2) := by decide +kernel
theorem dX1_countTrills_85 : decode cX1_countTrills 85 = .ok (.iinc 4 1, 3) := by decide +kernel
theorem dX1_countTrills_88 : decode cX1_countTrills 88 = .ok (.goto (-79), 3) := by decide +kernel
theorem dX1_countTrills_91 : decode cX1_countTrills 91 = .ok (.iload_n 3, 1) := by decide +kernel
theorem dX1_countTrills_92 : decode cX1_countTrills 92 = .ok (.ireturn, 1) := by decide +kernel
set_option maxRecDepth 20000 in
theorem ggX1_lastOfTrill_X1_goesOn : GoodIn wsX1_lastOfTrill wsX1_goesOn := goodIn_r _ [5, 6, 7, 8, 9, 10, 4, 11, 12, 13, 14, 15, 16, 17] (by decide +kernel) (by decide +kernel)
set_option maxRecDepth 20000 in
theorem gX1_lastOfTrill_X1_goesOn : GoodIn wsX1_lastOfTrill (wsV RX1 55 RX1 yX1_goesOn wsX1_goesOn) := goodIn_app (goodIn_of _ (by decide +kernel)) ggX1_lastOfTrill_X1_goesOn
theorem dX1_lastOfTrill_0 : decode cX1_lastOfTrill 0 = .ok (.iload_n 1, 1) := by decide +kernel
theorem dX1_lastOfTrill_1 : decode cX1_lastOfTrill 1 = .ok (.istore_n 3, 1) := by decide +kernel
theorem dX1_lastOfTrill_2 : decode cX1_lastOfTrill 2 = .ok (.iload_n 1, 1) := by decide +kernel
theorem dX1_lastOfTrill_3 : decode cX1_lastOfTrill 3 = .ok (.iconst 1, 1) := by decide +kernel
theorem dX1_lastOfTrill_4 : decode cX1_lastOfTrill 4 = .ok (.iadd, 1) := by decide +kernel
theorem dX1_lastOfTrill_5 : decode cX1_lastOfTrill 5 = .ok (.istore 4, 2) := by decide +kernel
theorem dX1_lastOfTrill_7 : decode cX1_lastOfTrill 7 = .ok (.iload 4, 2) := by decide +kernel
theorem dX1_lastOfTrill_9 : decode cX1_lastOfTrill 9 = .ok (.iload_n 2, 1) := by decide +kernel
theorem dX1_lastOfTrill_10 : decode cX1_lastOfTrill 10 = .ok (.if_icmp .ge 25, 3) := by decide +kernel
theorem dX1_lastOfTrill_13 : decode cX1_lastOfTrill 13 = .ok (.aload_n 0, 1) := by decide +kernel
theorem dX1_lastOfTrill_14 : decode cX1_lastOfTrill 14 = .ok (.iload_n 1, 1) := by decide +kernel
theorem dX1_lastOfTrill_15 : decode cX1_lastOfTrill 15 = .ok (.iload 4, 2) := by decide +kernel
theorem dX1_lastOfTrill_17 : decode cX1_lastOfTrill 17 = .ok (.invokevirtual 55, 3) := by decide +kernel
theorem dX1_lastOfTrill_20 : decode cX1_lastOfTrill 20 = .ok (.ifCond .ne 6, 3) := by decide +kernel
theorem dX1_lastOfTrill_23 : decode cX1_lastOfTrill 23 = .ok (.goto 12, 3) := by decide +kernel
theorem dX1_lastOfTrill_26 : decode cX1_lastOfTrill 26 = .ok (.iload 4, 2) := by decide +kernel
theorem dX1_lastOfTrill_28 : decode cX1_lastOfTrill 28 = .ok (.istore_n 3, 1) := by decide +kernel
theorem dX1_lastOfTrill_29 : decode cX1_lastOfTrill 29 = .ok (.iinc 4 1, 3) := by decide +kernel
theorem dX1_lastOfTrill_32 : decode cX1_lastOfTrill 32 = .ok (.goto (-25), 3) := by decide +kernel
theorem dX1_lastOfTrill_35 : decode cX1_lastOfTrill 35 = .ok (.iload_n 3, 1) := by decide +kernel
theorem dX1_lastOfTrill_36 : decode cX1_lastOfTrill 36 = .ok (.ireturn, 1) := by decide +kernel
set_option maxRecDepth 20000 in
theorem ggX1_goesOn_X1_tickBehind : GoodIn wsX1_goesOn wsX1_tickBehind := goodIn_r _ [7, 1, 8, 9, 10, 11, 12, 13] (by decide +kernel) (by decide +kernel)
set_option maxRecDepth 20000 in
theorem gX1_goesOn_X1_tickBehind : GoodIn wsX1_goesOn (wsV RX1 32 RX1 yX1_tickBehind wsX1_tickBehind) := goodIn_app (goodIn_of _ (by decide +kernel)) ggX1_goesOn_X1_tickBehind
theorem dX1_goesOn_0 : decode cX1_goesOn 0 = .ok (.aload_n 0, 1) := by decide +kernel
theorem dX1_goesOn_1 : decode cX1_goesOn 1 = .ok (.getfield 15, 3) := by decide +kernel
theorem dX1_goesOn_4 : decode cX1_goesOn 4 = .ok (.iload_n 2, 1) := by decide +kernel
theorem dX1_goesOn_5 : decode cX1_goesOn 5 = .ok (.iaload, 1) := by decide +kernel
theorem dX1_goesOn_6 : decode cX1_goesOn 6 = .ok (.aload_n 0, 1) := by decide +kernel
theorem dX1_goesOn_7 : decode cX1_goesOn 7 = .ok (.iload_n 2, 1) := by decide +kernel
theorem dX1_goesOn_8 : decode cX1_goesOn 8 = .ok (.iconst 1, 1) := by decide +kernel
theorem dX1_goesOn_9 : decode cX1_goesOn 9 = .ok (.isub, 1) := by decide +kernel
theorem dX1_goesOn_10 : decode cX1_goesOn 10 = .ok (.invokevirtual 32, 3) := by decide +kernel
theorem dX1_goesOn_13 : decode cX1_goesOn 13 = .ok (.if_icmp .le 5, 3) := by decide +kernel
theorem dX1_goesOn_16 : decode cX1_goesOn 16 = .ok (.iconst 0, 1) := by decide +kernel
theorem dX1_goesOn_17 : decode cX1_goesOn 17 = .ok (.ireturn, 1) := by decide +kernel
theorem dX1_goesOn_18 : decode cX1_goesOn 18 = .ok (.iload_n 2, 1) := by decide +kernel
theorem dX1_goesOn_19 : decode cX1_goesOn 19 = .ok (.iload_n 1, 1) := by decide +kernel
theorem dX1_goesOn_20 : decode cX1_goesOn 20 = .ok (.iconst 1, 1) := by decide +kernel
theorem dX1_goesOn_21 : decode cX1_goesOn 21 = .ok (.iadd, 1) := by decide +kernel
theorem dX1_goesOn_22 : decode cX1_goesOn 22 = .ok (.if_icmp .ne 24, 3) := by decide +kernel
theorem dX1_goesOn_25 : decode cX1_goesOn 25 = .ok (.aload_n 0, 1) := by decide +kernel
theorem dX1_goesOn_26 : decode cX1_goesOn 26 = .ok (.getfield 9, 3) := by decide +kernel
theorem dX1_goesOn_29 : decode cX1_goesOn 29 = .ok (.iload_n 2, 1) := by decide +kernel
theorem dX1_goesOn_30 : decode cX1_goesOn 30 = .ok (.iaload, 1) := by decide +kernel
theorem dX1_goesOn_31 : decode cX1_goesOn 31 = .ok (.aload_n 0, 1) := by decide +kernel
theorem dX1_goesOn_32 : decode cX1_goesOn 32 = .ok (.getfield 9, 3) := by decide +kernel
theorem dX1_goesOn_35 : decode cX1_goesOn 35 = .ok (.iload_n 1, 1) := by decide +kernel
theorem dX1_goesOn_36 : decode cX1_goesOn 36 = .ok (.iaload, 1) := by decide +kernel
theorem dX1_goesOn_37 : decode cX1_goesOn 37 = .ok (.if_icmp .eq 7, 3) := by decide +kernel
theorem dX1_goesOn_40 : decode cX1_goesOn 40 = .ok (.iconst 1, 1) := by decide +kernel
theorem dX1_goesOn_41 : decode cX1_goesOn 41 = .ok (.goto 4, 3) := by decide +kernel
theorem dX1_goesOn_44 : decode cX1_goesOn 44 = .ok (.iconst 0, 1) := by decide +kernel
theorem dX1_goesOn_45 : decode cX1_goesOn 45 = .ok (.ireturn, 1) := by decide +kernel
theorem dX1_goesOn_46 : decode cX1_goesOn 46 = .ok (.aload_n 0, 1) := by decide +kernel
theorem dX1_goesOn_47 : decode cX1_goesOn 47 = .ok (.getfield 9, 3) := by decide +kernel
theorem dX1_goesOn_50 : decode cX1_goesOn 50 = .ok (.iload_n 2, 1) := by decide +kernel
theorem dX1_goesOn_51 : decode cX1_goesOn 51 = .ok (.iaload, 1) := by decide +kernel
theorem dX1_goesOn_52 : decode cX1_goesOn 52 = .ok (.aload_n 0, 1) := by decide +kernel
theorem dX1_goesOn_53 : decode cX1_goesOn 53 = .ok (.getfield 9, 3) := by decide +kernel
theorem dX1_goesOn_56 : decode cX1_goesOn 56 = .ok (.iload_n 2, 1) := by decide +kernel
theorem dX1_goesOn_57 : decode cX1_goesOn 57 = .ok (.iconst 2, 1) := by decide +kernel
theorem dX1_goesOn_58 : decode cX1_goesOn 58 = .ok (.isub, 1) := by decide +kernel
theorem dX1_goesOn_59 : decode cX1_goesOn 59 = .ok (.iaload, 1) := by decide +kernel
theorem dX1_goesOn_60 : decode cX1_goesOn 60 = .ok (.if_icmp .ne 7, 3) := by decide +kernel
theorem dX1_goesOn_63 : decode cX1_goesOn 63 = .ok (.iconst 1, 1) := by decide +kernel
theorem dX1_goesOn_64 : decode cX1_goesOn 64 = .ok (.goto 4, 3) := by decide +kernel
theorem dX1_goesOn_67 : decode cX1_goesOn 67 = .ok (.iconst 0, 1) := by decide +kernel
theorem dX1_goesOn_68 : decode cX1_goesOn 68 = .ok (.ireturn, 1) := by decide +kernel
set_option maxRecDepth 20000 in
theorem ggX1_keyHeard_X1_startOf : GoodIn wsX1_keyHeard wsX1_startOf := goodIn_r _ [8] (by decide +kernel) (by decide +kernel)
set_option maxRecDepth 20000 in
theorem gX1_keyHeard_X1_startOf : GoodIn wsX1_keyHeard (wsV RX1 44 RX1 yX1_startOf wsX1_startOf) := goodIn_app (goodIn_of _ (by decide +kernel)) ggX1_keyHeard_X1_startOf
set_option maxRecDepth 20000 in
theorem ggX1_keyHeard_X1_endOf : GoodIn wsX1_keyHeard wsX1_endOf := goodIn_r _ [12, 13, 45, 46, 47, 48, 49] (by decide +kernel) (by decide +kernel)
set_option maxRecDepth 20000 in
theorem gX1_keyHeard_X1_endOf : GoodIn wsX1_keyHeard (wsV RX1 28 RX1 yX1_endOf wsX1_endOf) := goodIn_app (goodIn_of _ (by decide +kernel)) ggX1_keyHeard_X1_endOf
set_option maxRecDepth 20000 in
theorem ggX1_keyHeard_X0_strikes : GoodIn wsX1_keyHeard wsX0_strikes := goodIn_r _ [18, 19, 20, 21, 22, 17, 23, 24, 50, 51, 52, 53, 54] (by decide +kernel) (by decide +kernel)
set_option maxRecDepth 20000 in
theorem gX1_keyHeard_X0_strikes : GoodIn wsX1_keyHeard (wsV RX1 58 RX0 yX0_strikes wsX0_strikes) := goodIn_app (goodIn_of _ (by decide +kernel)) ggX1_keyHeard_X0_strikes
set_option maxRecDepth 20000 in
theorem ggX1_keyHeard_X1_soundsAt : GoodIn wsX1_keyHeard wsX1_soundsAt := goodIn_r _ [28, 29, 30, 31, 32, 7, 33, 34, 45, 46, 47, 48, 49] (by decide +kernel) (by decide +kernel)
set_option maxRecDepth 20000 in
theorem gX1_keyHeard_X1_soundsAt : GoodIn wsX1_keyHeard (wsV RX1 61 RX1 yX1_soundsAt wsX1_soundsAt) := goodIn_app (goodIn_of _ (by decide +kernel)) ggX1_keyHeard_X1_soundsAt
set_option maxRecDepth 20000 in
theorem ggX1_keyHeard_X0_stopsNearer : GoodIn wsX1_keyHeard wsX0_stopsNearer := goodIn_r _ [38, 39, 40, 41, 17, 42, 43, 44, 50, 51, 52, 53, 54] (by decide +kernel) (by decide +kernel)
set_option maxRecDepth 20000 in
theorem gX1_keyHeard_X0_stopsNearer : GoodIn wsX1_keyHeard (wsV RX1 64 RX0 yX0_stopsNearer wsX0_stopsNearer) := goodIn_app (goodIn_of _ (by decide +kernel)) ggX1_keyHeard_X0_stopsNearer
theorem dX1_keyHeard_0 : decode cX1_keyHeard 0 = .ok (.iconst (-1), 1) := by decide +kernel
theorem dX1_keyHeard_1 : decode cX1_keyHeard 1 = .ok (.istore 4, 2) := by decide +kernel
theorem dX1_keyHeard_3 : decode cX1_keyHeard 3 = .ok (.aload_n 0, 1) := by decide +kernel
theorem dX1_keyHeard_4 : decode cX1_keyHeard 4 = .ok (.iload_n 1, 1) := by decide +kernel
theorem dX1_keyHeard_5 : decode cX1_keyHeard 5 = .ok (.invokevirtual 44, 3) := by decide +kernel
theorem dX1_keyHeard_8 : decode cX1_keyHeard 8 = .ok (.istore 5, 2) := by decide +kernel
theorem dX1_keyHeard_10 : decode cX1_keyHeard 10 = .ok (.iload 5, 2) := by decide +kernel
theorem dX1_keyHeard_12 : decode cX1_keyHeard 12 = .ok (.aload_n 0, 1) := by decide +kernel
theorem dX1_keyHeard_13 : decode cX1_keyHeard 13 = .ok (.iload_n 1, 1) := by decide +kernel
theorem dX1_keyHeard_14 : decode cX1_keyHeard 14 = .ok (.invokevirtual 28, 3) := by decide +kernel
theorem dX1_keyHeard_17 : decode cX1_keyHeard 17 = .ok (.if_icmp .ge 68, 3) := by decide +kernel
theorem dX1_keyHeard_20 : decode cX1_keyHeard 20 = .ok (.aload_n 0, 1) := by decide +kernel
theorem dX1_keyHeard_21 : decode cX1_keyHeard 21 = .ok (.getfield 9, 3) := by decide +kernel
theorem dX1_keyHeard_24 : decode cX1_keyHeard 24 = .ok (.iload 5, 2) := by decide +kernel
theorem dX1_keyHeard_26 : decode cX1_keyHeard 26 = .ok (.iaload, 1) := by decide +kernel
theorem dX1_keyHeard_27 : decode cX1_keyHeard 27 = .ok (.istore 6, 2) := by decide +kernel
theorem dX1_keyHeard_29 : decode cX1_keyHeard 29 = .ok (.aload_n 0, 1) := by decide +kernel
theorem dX1_keyHeard_30 : decode cX1_keyHeard 30 = .ok (.getfield 24, 3) := by decide +kernel
theorem dX1_keyHeard_33 : decode cX1_keyHeard 33 = .ok (.iload 6, 2) := by decide +kernel
theorem dX1_keyHeard_35 : decode cX1_keyHeard 35 = .ok (.iload_n 2, 1) := by decide +kernel
theorem dX1_keyHeard_36 : decode cX1_keyHeard 36 = .ok (.invokevirtual 58, 3) := by decide +kernel
theorem dX1_keyHeard_39 : decode cX1_keyHeard 39 = .ok (.ifCond .eq 40, 3) := by decide +kernel
theorem dX1_keyHeard_42 : decode cX1_keyHeard 42 = .ok (.aload_n 0, 1) := by decide +kernel
theorem dX1_keyHeard_43 : decode cX1_keyHeard 43 = .ok (.iload 5, 2) := by decide +kernel
theorem dX1_keyHeard_45 : decode cX1_keyHeard 45 = .ok (.iload_n 3, 1) := by decide +kernel
theorem dX1_keyHeard_46 : decode cX1_keyHeard 46 = .ok (.invokevirtual 61, 3) := by decide +kernel
theorem dX1_keyHeard_49 : decode cX1_keyHeard 49 = .ok (.ifCond .ne 6, 3) := by decide +kernel
theorem dX1_keyHeard_52 : decode cX1_keyHeard 52 = .ok (.goto 27, 3) := by decide +kernel
theorem dX1_keyHeard_55 : decode cX1_keyHeard 55 = .ok (.iload 4, 2) := by decide +kernel
theorem dX1_keyHeard_57 : decode cX1_keyHeard 57 = .ok (.iconst (-1), 1) := by decide +kernel
theorem dX1_keyHeard_58 : decode cX1_keyHeard 58 = .ok (.if_icmp .eq 17, 3) := by decide +kernel
theorem dX1_keyHeard_61 : decode cX1_keyHeard 61 = .ok (.aload_n 0, 1) := by decide +kernel
theorem dX1_keyHeard_62 : decode cX1_keyHeard 62 = .ok (.getfield 24, 3) := by decide +kernel
theorem dX1_keyHeard_65 : decode cX1_keyHeard 65 = .ok (.iload 6, 2) := by decide +kernel
theorem dX1_keyHeard_67 : decode cX1_keyHeard 67 = .ok (.iload 4, 2) := by decide +kernel
theorem dX1_keyHeard_69 : decode cX1_keyHeard 69 = .ok (.invokevirtual 64, 3) := by decide +kernel
theorem dX1_keyHeard_72 : decode cX1_keyHeard 72 = .ok (.ifCond .eq 7, 3) := by decide +kernel
theorem dX1_keyHeard_75 : decode cX1_keyHeard 75 = .ok (.iload 6, 2) := by decide +kernel
theorem dX1_keyHeard_77 : decode cX1_keyHeard 77 = .ok (.istore 4, 2) := by decide +kernel
theorem dX1_keyHeard_79 : decode cX1_keyHeard 79 = .ok (.iinc 5 1, 3) := by decide +kernel
theorem dX1_keyHeard_82 : decode cX1_keyHeard 82 = .ok (.goto (-72), 3) := by decide +kernel
theorem dX1_keyHeard_85 : decode cX1_keyHeard 85 = .ok (.iload 4, 2) := by decide +kernel
theorem dX1_keyHeard_87 : decode cX1_keyHeard 87 = .ok (.iconst (-1), 1) := by decide +kernel
theorem dX1_keyHeard_88 : decode cX1_keyHeard 88 = .ok (.if_icmp .ne 8, 3) := by decide +kernel
theorem dX1_keyHeard_91 : decode cX1_keyHeard 91 = .ok (.ldc 50, 2) := by decide +kernel
theorem dX1_keyHeard_93 : decode cX1_keyHeard 93 = .ok (.goto 5, 3) := by decide +kernel
theorem dX1_keyHeard_96 : decode cX1_keyHeard 96 = .ok (.iload 4, 2) := by decide +kernel
theorem dX1_keyHeard_98 : decode cX1_keyHeard 98 = .ok (.ireturn, 1) := by decide +kernel
set_option maxRecDepth 20000 in
theorem ggX1_ticksLost_X1_startOf : GoodIn wsX1_ticksLost wsX1_startOf := goodIn_r _ [13] (by decide +kernel) (by decide +kernel)
set_option maxRecDepth 20000 in
theorem gX1_ticksLost_X1_startOf : GoodIn wsX1_ticksLost (wsV RX1 44 RX1 yX1_startOf wsX1_startOf) := goodIn_app (goodIn_of _ (by decide +kernel)) ggX1_ticksLost_X1_startOf
set_option maxRecDepth 20000 in
theorem ggX1_ticksLost_X1_endOf : GoodIn wsX1_ticksLost wsX1_endOf := goodIn_r _ [17, 18, 54, 55, 56, 57, 58] (by decide +kernel) (by decide +kernel)
set_option maxRecDepth 20000 in
theorem gX1_ticksLost_X1_endOf : GoodIn wsX1_ticksLost (wsV RX1 28 RX1 yX1_endOf wsX1_endOf) := goodIn_app (goodIn_of _ (by decide +kernel)) ggX1_ticksLost_X1_endOf
set_option maxRecDepth 20000 in
theorem ggX1_ticksLost_X1_tickBehind : GoodIn wsX1_ticksLost wsX1_tickBehind := goodIn_r _ [22, 4, 23, 54, 55, 56, 57, 58] (by decide +kernel) (by decide +kernel)
set_option maxRecDepth 20000 in
theorem gX1_ticksLost_X1_tickBehind : GoodIn wsX1_ticksLost (wsV RX1 32 RX1 yX1_tickBehind wsX1_tickBehind) := goodIn_app (goodIn_of _ (by decide +kernel)) ggX1_ticksLost_X1_tickBehind
set_option maxRecDepth 20000 in
theorem ggX1_ticksLost_X1_keyHeard : GoodIn wsX1_ticksLost wsX1_keyHeard := goodIn_r _ [27, 3, 1, 28, 9, 10, 11, 12, 13, 14, 15, 16, 17, 18, 29, 30, 31, 32, 33, 34, 35, 36, 37, 38, 39, 40, 41, 42, 43, 4, 19, 20, 21, 22, 23, 44, 45, 46, 47, 48, 49, 50, 51, 52, 53, 54, 55, 56, 57, 58, 59, 60, 61, 62, 63] (by decide +kernel) (by decide +kernel)
set_option maxRecDepth 20000 in
theorem gX1_ticksLost_X1_keyHeard : GoodIn wsX1_ticksLost (wsV RX1 75 RX1 yX1_keyHeard wsX1_keyHeard) := goodIn_app (goodIn_of _ (by decide +kernel)) ggX1_ticksLost_X1_keyHeard
theorem dX1_ticksLost_0 : decode cX1_ticksLost 0 = .ok (.aload_n 0, 1) := by decide +kernel
theorem dX1_ticksLost_1 : decode cX1_ticksLost 1 = .ok (.getfield 24, 3) := by decide +kernel
theorem dX1_ticksLost_4 : decode cX1_ticksLost 4 = .ok (.getfield 67, 3) := by decide +kernel
theorem dX1_ticksLost_7 : decode cX1_ticksLost 7 = .ok (.iload_n 2, 1) := by decide +kernel
theorem dX1_ticksLost_8 : decode cX1_ticksLost 8 = .ok (.iaload, 1) := by decide +kernel
theorem dX1_ticksLost_9 : decode cX1_ticksLost 9 = .ok (.istore_n 3, 1) := by decide +kernel
theorem dX1_ticksLost_10 : decode cX1_ticksLost 10 = .ok (.iconst 0, 1) := by decide +kernel
theorem dX1_ticksLost_11 : decode cX1_ticksLost 11 = .ok (.istore 4, 2) := by decide +kernel
theorem dX1_ticksLost_13 : decode cX1_ticksLost 13 = .ok (.iconst 0, 1) := by decide +kernel
theorem dX1_ticksLost_14 : decode cX1_ticksLost 14 = .ok (.istore 5, 2) := by decide +kernel
theorem dX1_ticksLost_16 : decode cX1_ticksLost 16 = .ok (.aload_n 0, 1) := by decide +kernel
theorem dX1_ticksLost_17 : decode cX1_ticksLost 17 = .ok (.iload_n 1, 1) := by decide +kernel
theorem dX1_ticksLost_18 : decode cX1_ticksLost 18 = .ok (.invokevirtual 44, 3) := by decide +kernel
theorem dX1_ticksLost_21 : decode cX1_ticksLost 21 = .ok (.istore 6, 2) := by decide +kernel
theorem dX1_ticksLost_23 : decode cX1_ticksLost 23 = .ok (.iload 6, 2) := by decide +kernel
theorem dX1_ticksLost_25 : decode cX1_ticksLost 25 = .ok (.aload_n 0, 1) := by decide +kernel
theorem dX1_ticksLost_26 : decode cX1_ticksLost 26 = .ok (.iload_n 1, 1) := by decide +kernel
theorem dX1_ticksLost_27 : decode cX1_ticksLost 27 = .ok (.invokevirtual 28, 3) := by decide +kernel
theorem dX1_ticksLost_30 : decode cX1_ticksLost 30 = .ok (.if_icmp .ge 82, 3) := by decide +kernel
theorem dX1_ticksLost_33 : decode cX1_ticksLost 33 = .ok (.aload_n 0, 1) := by decide +kernel
theorem dX1_ticksLost_34 : decode cX1_ticksLost 34 = .ok (.getfield 9, 3) := by decide +kernel
theorem dX1_ticksLost_37 : decode cX1_ticksLost 37 = .ok (.iload 6, 2) := by decide +kernel
theorem dX1_ticksLost_39 : decode cX1_ticksLost 39 = .ok (.iaload, 1) := by decide +kernel
theorem dX1_ticksLost_40 : decode cX1_ticksLost 40 = .ok (.iload_n 2, 1) := by decide +kernel
theorem dX1_ticksLost_41 : decode cX1_ticksLost 41 = .ok (.if_icmp .eq 6, 3) := by decide +kernel
theorem dX1_ticksLost_44 : decode cX1_ticksLost 44 = .ok (.goto 62, 3) := by decide +kernel
theorem dX1_ticksLost_47 : decode cX1_ticksLost 47 = .ok (.iload 5, 2) := by decide +kernel
theorem dX1_ticksLost_49 : decode cX1_ticksLost 49 = .ok (.aload_n 0, 1) := by decide +kernel
theorem dX1_ticksLost_50 : decode cX1_ticksLost 50 = .ok (.getfield 15, 3) := by decide +kernel
theorem dX1_ticksLost_53 : decode cX1_ticksLost 53 = .ok (.iload 6, 2) := by decide +kernel
theorem dX1_ticksLost_55 : decode cX1_ticksLost 55 = .ok (.iaload, 1) := by decide +kernel
theorem dX1_ticksLost_56 : decode cX1_ticksLost 56 = .ok (.invokestatic 70, 3) := by decide +kernel
theorem dX1_ticksLost_59 : decode cX1_ticksLost 59 = .ok (.istore 7, 2) := by decide +kernel
theorem dX1_ticksLost_61 : decode cX1_ticksLost 61 = .ok (.iload 7, 2) := by decide +kernel
theorem dX1_ticksLost_63 : decode cX1_ticksLost 63 = .ok (.aload_n 0, 1) := by decide +kernel
theorem dX1_ticksLost_64 : decode cX1_ticksLost 64 = .ok (.iload 6, 2) := by decide +kernel
theorem dX1_ticksLost_66 : decode cX1_ticksLost 66 = .ok (.invokevirtual 32, 3) := by decide +kernel
theorem dX1_ticksLost_69 : decode cX1_ticksLost 69 = .ok (.if_icmp .ge 24, 3) := by decide +kernel
theorem dX1_ticksLost_72 : decode cX1_ticksLost 72 = .ok (.aload_n 0, 1) := by decide +kernel
theorem dX1_ticksLost_73 : decode cX1_ticksLost 73 = .ok (.iload_n 1, 1) := by decide +kernel
theorem dX1_ticksLost_74 : decode cX1_ticksLost 74 = .ok (.iload_n 3, 1) := by decide +kernel
theorem dX1_ticksLost_75 : decode cX1_ticksLost 75 = .ok (.iload 7, 2) := by decide +kernel
theorem dX1_ticksLost_77 : decode cX1_ticksLost 77 = .ok (.invokevirtual 75, 3) := by decide +kernel
theorem dX1_ticksLost_80 : decode cX1_ticksLost 80 = .ok (.iload_n 2, 1) := by decide +kernel
theorem dX1_ticksLost_81 : decode cX1_ticksLost 81 = .ok (.if_icmp .eq 6, 3) := by decide +kernel
theorem dX1_ticksLost_84 : decode cX1_ticksLost 84 = .ok (.iinc 4 1, 3) := by decide +kernel
theorem dX1_ticksLost_87 : decode cX1_ticksLost 87 = .ok (.iinc 7 1, 3) := by decide +kernel
theorem dX1_ticksLost_90 : decode cX1_ticksLost 90 = .ok (.goto (-29), 3) := by decide +kernel
theorem dX1_ticksLost_93 : decode cX1_ticksLost 93 = .ok (.iload 5, 2) := by decide +kernel
theorem dX1_ticksLost_95 : decode cX1_ticksLost 95 = .ok (.aload_n 0, 1) := by decide +kernel
theorem dX1_ticksLost_96 : decode cX1_ticksLost 96 = .ok (.iload 6, 2) := by decide +kernel
theorem dX1_ticksLost_98 : decode cX1_ticksLost 98 = .ok (.invokevirtual 32, 3) := by decide +kernel
theorem dX1_ticksLost_101 : decode cX1_ticksLost 101 = .ok (.invokestatic 70, 3) := by decide +kernel
theorem dX1_ticksLost_104 : decode cX1_ticksLost 104 = .ok (.istore 5, 2) := by decide +kernel
theorem dX1_ticksLost_106 : decode cX1_ticksLost 106 = .ok (.iinc 6 1, 3) := by decide +kernel
theorem dX1_ticksLost_109 : decode cX1_ticksLost 109 = .ok (.goto (-86), 3) := by decide +kernel
theorem dX1_ticksLost_112 : decode cX1_ticksLost 112 = .ok (.iload 4, 2) := by decide +kernel
theorem dX1_ticksLost_114 : decode cX1_ticksLost 114 = .ok (.ireturn, 1) := by decide +kernel
set_option maxRecDepth 20000 in
theorem ggX1_allKeysThere_X1_startOf : GoodIn wsX1_allKeysThere wsX1_startOf := goodIn_r _ [7] (by decide +kernel) (by decide +kernel)
set_option maxRecDepth 20000 in
theorem gX1_allKeysThere_X1_startOf : GoodIn wsX1_allKeysThere (wsV RX1 44 RX1 yX1_startOf wsX1_startOf) := goodIn_app (goodIn_of _ (by decide +kernel)) ggX1_allKeysThere_X1_startOf
set_option maxRecDepth 20000 in
theorem ggX1_allKeysThere_X1_endOf : GoodIn wsX1_allKeysThere wsX1_endOf := goodIn_r _ [11, 12, 19, 20, 21, 22, 23] (by decide +kernel) (by decide +kernel)
set_option maxRecDepth 20000 in
theorem gX1_allKeysThere_X1_endOf : GoodIn wsX1_allKeysThere (wsV RX1 28 RX1 yX1_endOf wsX1_endOf) := goodIn_app (goodIn_of _ (by decide +kernel)) ggX1_allKeysThere_X1_endOf
set_option maxRecDepth 20000 in
theorem ggX1_allKeysThere_X0_has : GoodIn wsX1_allKeysThere wsX0_has := goodIn_r _ [17, 18, 24, 25, 26, 27, 28] (by decide +kernel) (by decide +kernel)
set_option maxRecDepth 20000 in
theorem gX1_allKeysThere_X0_has : GoodIn wsX1_allKeysThere (wsV RX1 79 RX0 yX0_has wsX0_has) := goodIn_app (goodIn_of _ (by decide +kernel)) ggX1_allKeysThere_X0_has
theorem dX1_allKeysThere_0 : decode cX1_allKeysThere 0 = .ok (.aload_n 0, 1) := by decide +kernel
theorem dX1_allKeysThere_1 : decode cX1_allKeysThere 1 = .ok (.iload_n 1, 1) := by decide +kernel
theorem dX1_allKeysThere_2 : decode cX1_allKeysThere 2 = .ok (.invokevirtual 44, 3) := by decide +kernel
theorem dX1_allKeysThere_5 : decode cX1_allKeysThere 5 = .ok (.istore_n 2, 1) := by decide +kernel
theorem dX1_allKeysThere_6 : decode cX1_allKeysThere 6 = .ok (.iload_n 2, 1) := by decide +kernel
theorem dX1_allKeysThere_7 : decode cX1_allKeysThere 7 = .ok (.aload_n 0, 1) := by decide +kernel
theorem dX1_allKeysThere_8 : decode cX1_allKeysThere 8 = .ok (.iload_n 1, 1) := by decide +kernel
theorem dX1_allKeysThere_9 : decode cX1_allKeysThere 9 = .ok (.invokevirtual 28, 3) := by decide +kernel
theorem dX1_allKeysThere_12 : decode cX1_allKeysThere 12 = .ok (.if_icmp .ge 27, 3) := by decide +kernel
theorem dX1_allKeysThere_15 : decode cX1_allKeysThere 15 = .ok (.aload_n 0, 1) := by decide +kernel
theorem dX1_allKeysThere_16 : decode cX1_allKeysThere 16 = .ok (.getfield 24, 3) := by decide +kernel
theorem dX1_allKeysThere_19 : decode cX1_allKeysThere 19 = .ok (.aload_n 0, 1) := by decide +kernel
theorem dX1_allKeysThere_20 : decode cX1_allKeysThere 20 = .ok (.getfield 9, 3) := by decide +kernel
theorem dX1_allKeysThere_23 : decode cX1_allKeysThere 23 = .ok (.iload_n 2, 1) := by decide +kernel
theorem dX1_allKeysThere_24 : decode cX1_allKeysThere 24 = .ok (.iaload, 1) := by decide +kernel
theorem dX1_allKeysThere_25 : decode cX1_allKeysThere 25 = .ok (.invokevirtual 79, 3) := by decide +kernel
theorem dX1_allKeysThere_28 : decode cX1_allKeysThere 28 = .ok (.ifCond .ne 5, 3) := by decide +kernel
theorem dX1_allKeysThere_31 : decode cX1_allKeysThere 31 = .ok (.iconst 0, 1) := by decide +kernel
theorem dX1_allKeysThere_32 : decode cX1_allKeysThere 32 = .ok (.ireturn, 1) := by decide +kernel
theorem dX1_allKeysThere_33 : decode cX1_allKeysThere 33 = .ok (.iinc 2 1, 3) := by decide +kernel
theorem dX1_allKeysThere_36 : decode cX1_allKeysThere 36 = .ok (.goto (-30), 3) := by decide +kernel
theorem dX1_allKeysThere_39 : decode cX1_allKeysThere 39 = .ok (.iconst 1, 1) := by decide +kernel
theorem dX1_allKeysThere_40 : decode cX1_allKeysThere 40 = .ok (.ireturn, 1) := by decide +kernel
theorem dX2_init_0 : decode cX2_init 0 = .ok (.aload_n 0, 1) := by decide +kernel
theorem dX2_init_1 : decode cX2_init 1 = .ok (.invokespecial 3, 3) := by decide +kernel
theorem dX2_init_4 : decode cX2_init 4 = .ok (.aload_n 0, 1) := by decide +kernel
theorem dX2_init_5 : decode cX2_init 5 = .ok (.bipush 24, 2) := by decide +kernel
theorem dX2_init_7 : decode cX2_init 7 = .ok (.newarray .int, 2) := by decide +kernel
theorem dX2_init_9 : decode cX2_init 9 = .ok (.putfield 9, 3) := by decide +kernel
theorem dX2_init_12 : decode cX2_init 12 = .ok (.aload_n 0, 1) := by decide +kernel
theorem dX2_init_13 : decode cX2_init 13 = .ok (.iconst 0, 1) := by decide +kernel
theorem dX2_init_14 : decode cX2_init 14 = .ok (.putfield 15, 3) := by decide +kernel
theorem dX2_init_17 : decode cX2_init 17 = .ok (.aload_n 0, 1) := by decide +kernel
theorem dX2_init_18 : decode cX2_init 18 = .ok (.iconst 0, 1) := by decide +kernel
theorem dX2_init_19 : decode cX2_init 19 = .ok (.putfield 19, 3) := by decide +kernel
theorem dX2_init_22 : decode cX2_init 22 = .ok (.aload_n 0, 1) := by decide +kernel
theorem dX2_init_23 : decode cX2_init 23 = .ok (.aload_n 1, 1) := by decide +kernel
theorem dX2_init_24 : decode cX2_init 24 = .ok (.putfield 22, 3) := by decide +kernel
theorem dX2_init_27 : decode cX2_init 27 = .ok (.aload_n 0, 1) := by decide +kernel
theorem dX2_init_28 : decode cX2_init 28 = .ok (.aload_n 2, 1) := by decide +kernel
theorem dX2_init_29 : decode cX2_init 29 = .ok (.putfield 26, 3) := by decide +kernel
theorem dX2_init_32 : decode cX2_init 32 = .ok (.iconst 0, 1) := by decide +kernel
theorem dX2_init_33 : decode cX2_init 33 = .ok (.istore_n 3, 1) := by decide +kernel
theorem dX2_init_34 : decode cX2_init 34 = .ok (.iload_n 3, 1) := by decide +kernel
theorem dX2_init_35 : decode cX2_init 35 = .ok (.bipush 24, 2) := by decide +kernel
theorem dX2_init_37 : decode cX2_init 37 = .ok (.if_icmp .ge 17, 3) := by decide +kernel
theorem dX2_init_40 : decode cX2_init 40 = .ok (.aload_n 0, 1) := by decide +kernel
theorem dX2_init_41 : decode cX2_init 41 = .ok (.getfield 9, 3) := by decide +kernel
theorem dX2_init_44 : decode cX2_init 44 = .ok (.iload_n 3, 1) := by decide +kernel
theorem dX2_init_45 : decode cX2_init 45 = .ok (.ldc 30, 2) := by decide +kernel
theorem dX2_init_47 : decode cX2_init 47 = .ok (.iastore, 1) := by decide +kernel
theorem dX2_init_48 : decode cX2_init 48 = .ok (.iinc 3 1, 3) := by decide +kernel
theorem dX2_init_51 : decode cX2_init 51 = .ok (.goto (-17), 3) := by decide +kernel
theorem dX2_init_54 : decode cX2_init 54 = .ok (.return_, 1) := by decide +kernel
theorem dX2_countMeasured_0 : decode cX2_countMeasured 0 = .ok (.iconst 0, 1) := by decide +kernel
theorem dX2_countMeasured_1 : decode cX2_countMeasured 1 = .ok (.istore_n 1, 1) := by decide +kernel
theorem dX2_countMeasured_2 : decode cX2_countMeasured 2 = .ok (.iconst 0, 1) := by decide +kernel
theorem dX2_countMeasured_3 : decode cX2_countMeasured 3 = .ok (.istore_n 2, 1) := by decide +kernel
theorem dX2_countMeasured_4 : decode cX2_countMeasured 4 = .ok (.iload_n 2, 1) := by decide +kernel
theorem dX2_countMeasured_5 : decode cX2_countMeasured 5 = .ok (.aload_n 0, 1) := by decide +kernel
theorem dX2_countMeasured_6 : decode cX2_countMeasured 6 = .ok (.getfield 22, 3) := by decide +kernel
theorem dX2_countMeasured_9 : decode cX2_countMeasured 9 = .ok (.getfield 31, 3) := by decide +kernel
theorem dX2_countMeasured_12 : decode cX2_countMeasured 12 = .ok (.if_icmp .ge 23, 3) := by decide +kernel
theorem dX2_countMeasured_15 : decode cX2_countMeasured 15 = .ok (.aload_n 0, 1) := by decide +kernel
theorem dX2_countMeasured_16 : decode cX2_countMeasured 16 = .ok (.getfield 9, 3) := by decide +kernel
theorem dX2_countMeasured_19 : decode cX2_countMeasured 19 = .ok (.iload_n 2, 1) := by decide +kernel
theorem dX2_countMeasured_20 : decode cX2_countMeasured 20 = .ok (.iaload, 1) := by decide +kernel
theorem dX2_countMeasured_21 : decode cX2_countMeasured 21 = .ok (.ldc 30, 2) := by decide +kernel
theorem dX2_countMeasured_23 : decode cX2_countMeasured 23 = .ok (.if_icmp .eq 6, 3) := by decide +kernel
theorem dX2_countMeasured_26 : decode cX2_countMeasured 26 = .ok (.iinc 1 1, 3) := by decide +kernel
theorem dX2_countMeasured_29 : decode cX2_countMeasured 29 = .ok (.iinc 2 1, 3) := by decide +kernel
theorem dX2_countMeasured_32 : decode cX2_countMeasured 32 = .ok (.goto (-28), 3) := by decide +kernel
theorem dX2_countMeasured_35 : decode cX2_countMeasured 35 = .ok (.iload_n 1, 1) := by decide +kernel
theorem dX2_countMeasured_36 : decode cX2_countMeasured 36 = .ok (.ireturn, 1) := by decide +kernel
set_option maxRecDepth 20000 in
theorem ggX2_misfitAt_X3_goalAt : GoodIn wsX2_misfitAt wsX3_goalAt := goodIn_r _ [14, 15, 16, 27, 28] (by decide +kernel) (by decide +kernel)
set_option maxRecDepth 20000 in
theorem gX2_misfitAt_X3_goalAt : GoodIn wsX2_misfitAt (wsV RX2 36 RX3 yX3_goalAt wsX3_goalAt) := goodIn_app (goodIn_of _ (by decide +kernel)) ggX2_misfitAt_X3_goalAt
theorem dX2_misfitAt_0 : decode cX2_misfitAt 0 = .ok (.iconst 0, 1) := by decide +kernel
theorem dX2_misfitAt_1 : decode cX2_misfitAt 1 = .ok (.istore 4, 2) := by decide +kernel
theorem dX2_misfitAt_3 : decode cX2_misfitAt 3 = .ok (.iconst 0, 1) := by decide +kernel
theorem dX2_misfitAt_4 : decode cX2_misfitAt 4 = .ok (.istore 5, 2) := by decide +kernel
theorem dX2_misfitAt_6 : decode cX2_misfitAt 6 = .ok (.iload 5, 2) := by decide +kernel
theorem dX2_misfitAt_8 : decode cX2_misfitAt 8 = .ok (.aload_n 0, 1) := by decide +kernel
theorem dX2_misfitAt_9 : decode cX2_misfitAt 9 = .ok (.getfield 22, 3) := by decide +kernel
theorem dX2_misfitAt_12 : decode cX2_misfitAt 12 = .ok (.getfield 31, 3) := by decide +kernel
theorem dX2_misfitAt_15 : decode cX2_misfitAt 15 = .ok (.if_icmp .ge 57, 3) := by decide +kernel
theorem dX2_misfitAt_18 : decode cX2_misfitAt 18 = .ok (.iload 5, 2) := by decide +kernel
theorem dX2_misfitAt_20 : decode cX2_misfitAt 20 = .ok (.iload_n 3, 1) := by decide +kernel
theorem dX2_misfitAt_21 : decode cX2_misfitAt 21 = .ok (.if_icmp .eq 45, 3) := by decide +kernel
theorem dX2_misfitAt_24 : decode cX2_misfitAt 24 = .ok (.aload_n 0, 1) := by decide +kernel
theorem dX2_misfitAt_25 : decode cX2_misfitAt 25 = .ok (.getfield 9, 3) := by decide +kernel
theorem dX2_misfitAt_28 : decode cX2_misfitAt 28 = .ok (.iload 5, 2) := by decide +kernel
theorem dX2_misfitAt_30 : decode cX2_misfitAt 30 = .ok (.iaload, 1) := by decide +kernel
theorem dX2_misfitAt_31 : decode cX2_misfitAt 31 = .ok (.ldc 30, 2) := by decide +kernel
theorem dX2_misfitAt_33 : decode cX2_misfitAt 33 = .ok (.if_icmp .ne 6, 3) := by decide +kernel
theorem dX2_misfitAt_36 : decode cX2_misfitAt 36 = .ok (.goto 30, 3) := by decide +kernel
theorem dX2_misfitAt_39 : decode cX2_misfitAt 39 = .ok (.iload 4, 2) := by decide +kernel
theorem dX2_misfitAt_41 : decode cX2_misfitAt 41 = .ok (.aload_n 0, 1) := by decide +kernel
theorem dX2_misfitAt_42 : decode cX2_misfitAt 42 = .ok (.getfield 26, 3) := by decide +kernel
theorem dX2_misfitAt_45 : decode cX2_misfitAt 45 = .ok (.iload_n 1, 1) := by decide +kernel
theorem dX2_misfitAt_46 : decode cX2_misfitAt 46 = .ok (.iload_n 2, 1) := by decide +kernel
theorem dX2_misfitAt_47 : decode cX2_misfitAt 47 = .ok (.iload 5, 2) := by decide +kernel
theorem dX2_misfitAt_49 : decode cX2_misfitAt 49 = .ok (.invokevirtual 36, 3) := by decide +kernel
theorem dX2_misfitAt_52 : decode cX2_misfitAt 52 = .ok (.aload_n 0, 1) := by decide +kernel
theorem dX2_misfitAt_53 : decode cX2_misfitAt 53 = .ok (.getfield 9, 3) := by decide +kernel
theorem dX2_misfitAt_56 : decode cX2_misfitAt 56 = .ok (.iload 5, 2) := by decide +kernel
theorem dX2_misfitAt_58 : decode cX2_misfitAt 58 = .ok (.iaload, 1) := by decide +kernel
theorem dX2_misfitAt_59 : decode cX2_misfitAt 59 = .ok (.isub, 1) := by decide +kernel
theorem dX2_misfitAt_60 : decode cX2_misfitAt 60 = .ok (.invokestatic 42, 3) := by decide +kernel
theorem dX2_misfitAt_63 : decode cX2_misfitAt 63 = .ok (.iadd, 1) := by decide +kernel
theorem dX2_misfitAt_64 : decode cX2_misfitAt 64 = .ok (.istore 4, 2) := by decide +kernel
theorem dX2_misfitAt_66 : decode cX2_misfitAt 66 = .ok (.iinc 5 1, 3) := by decide +kernel
theorem dX2_misfitAt_69 : decode cX2_misfitAt 69 = .ok (.goto (-63), 3) := by decide +kernel
theorem dX2_misfitAt_72 : decode cX2_misfitAt 72 = .ok (.iload 4, 2) := by decide +kernel
theorem dX2_misfitAt_74 : decode cX2_misfitAt 74 = .ok (.ireturn, 1) := by decide +kernel
set_option maxRecDepth 20000 in
theorem ggX2_seek_X2_likelyPitch : GoodIn wsX2_seek wsX2_likelyPitch := goodIn_r _ [8, 9, 10, 11, 7, 12, 13, 14, 15, 16, 17, 18, 19, 20, 21, 22, 23, 24, 25, 26, 27, 28, 29, 30, 31, 32, 33, 34, 35, 36, 37, 38, 39, 40] (by decide +kernel) (by decide +kernel)
set_option maxRecDepth 20000 in
theorem gX2_seek_X2_likelyPitch : GoodIn wsX2_seek (wsV RX2 48 RX2 yX2_likelyPitch wsX2_likelyPitch) := goodIn_app (goodIn_of _ (by decide +kernel)) ggX2_seek_X2_likelyPitch
set_option maxRecDepth 20000 in
theorem ggX2_seek_X2_misfitAt : GoodIn wsX2_seek wsX2_misfitAt := goodIn_r _ [12, 13, 14, 15, 16, 17, 18, 19, 20, 21, 22, 23, 24, 25, 26, 27, 28, 29, 30, 31, 32, 33, 34, 35, 36, 37, 38, 39, 40] (by decide +kernel) (by decide +kernel)
set_option maxRecDepth 20000 in
theorem gX2_seek_X2_misfitAt : GoodIn wsX2_seek (wsV RX2 52 RX2 yX2_misfitAt wsX2_misfitAt) := goodIn_app (goodIn_of _ (by decide +kernel)) ggX2_seek_X2_misfitAt
theorem dX2_seek_0 : decode cX2_seek 0 = .ok (.aload_n 0, 1) := by decide +kernel
theorem dX2_seek_1 : decode cX2_seek 1 = .ok (.iload_n 1, 1) := by decide +kernel
theorem dX2_seek_2 : decode cX2_seek 2 = .ok (.iload_n 2, 1) := by decide +kernel
theorem dX2_seek_3 : decode cX2_seek 3 = .ok (.invokevirtual 48, 3) := by decide +kernel
theorem dX2_seek_6 : decode cX2_seek 6 = .ok (.istore_n 3, 1) := by decide +kernel
theorem dX2_seek_7 : decode cX2_seek 7 = .ok (.iload_n 3, 1) := by decide +kernel
theorem dX2_seek_8 : decode cX2_seek 8 = .ok (.istore 4, 2) := by decide +kernel
theorem dX2_seek_10 : decode cX2_seek 10 = .ok (.aload_n 0, 1) := by decide +kernel
theorem dX2_seek_11 : decode cX2_seek 11 = .ok (.iload_n 1, 1) := by decide +kernel
theorem dX2_seek_12 : decode cX2_seek 12 = .ok (.iload_n 3, 1) := by decide +kernel
theorem dX2_seek_13 : decode cX2_seek 13 = .ok (.iload_n 2, 1) := by decide +kernel
theorem dX2_seek_14 : decode cX2_seek 14 = .ok (.invokevirtual 52, 3) := by decide +kernel
theorem dX2_seek_17 : decode cX2_seek 17 = .ok (.istore 5, 2) := by decide +kernel
theorem dX2_seek_19 : decode cX2_seek 19 = .ok (.iload_n 3, 1) := by decide +kernel
theorem dX2_seek_20 : decode cX2_seek 20 = .ok (.bipush 20, 2) := by decide +kernel
theorem dX2_seek_22 : decode cX2_seek 22 = .ok (.iadd, 1) := by decide +kernel
theorem dX2_seek_23 : decode cX2_seek 23 = .ok (.istore 6, 2) := by decide +kernel
theorem dX2_seek_25 : decode cX2_seek 25 = .ok (.iload 6, 2) := by decide +kernel
theorem dX2_seek_27 : decode cX2_seek 27 = .ok (.ldc 55, 2) := by decide +kernel
theorem dX2_seek_29 : decode cX2_seek 29 = .ok (.if_icmp .gt 47, 3) := by decide +kernel
theorem dX2_seek_32 : decode cX2_seek 32 = .ok (.aload_n 0, 1) := by decide +kernel
theorem dX2_seek_33 : decode cX2_seek 33 = .ok (.iload_n 1, 1) := by decide +kernel
theorem dX2_seek_34 : decode cX2_seek 34 = .ok (.iload 6, 2) := by decide +kernel
theorem dX2_seek_36 : decode cX2_seek 36 = .ok (.iload_n 2, 1) := by decide +kernel
theorem dX2_seek_37 : decode cX2_seek 37 = .ok (.invokevirtual 52, 3) := by decide +kernel
theorem dX2_seek_40 : decode cX2_seek 40 = .ok (.istore 7, 2) := by decide +kernel
theorem dX2_seek_42 : decode cX2_seek 42 = .ok (.iload 7, 2) := by decide +kernel
theorem dX2_seek_44 : decode cX2_seek 44 = .ok (.iload 5, 2) := by decide +kernel
theorem dX2_seek_46 : decode cX2_seek 46 = .ok (.bipush 48, 2) := by decide +kernel
theorem dX2_seek_48 : decode cX2_seek 48 = .ok (.iadd, 1) := by decide +kernel
theorem dX2_seek_49 : decode cX2_seek 49 = .ok (.if_icmp .le 6, 3) := by decide +kernel
theorem dX2_seek_52 : decode cX2_seek 52 = .ok (.goto 24, 3) := by decide +kernel
theorem dX2_seek_55 : decode cX2_seek 55 = .ok (.iload 7, 2) := by decide +kernel
theorem dX2_seek_57 : decode cX2_seek 57 = .ok (.iload 5, 2) := by decide +kernel
theorem dX2_seek_59 : decode cX2_seek 59 = .ok (.if_icmp .ge 11, 3) := by decide +kernel
theorem dX2_seek_62 : decode cX2_seek 62 = .ok (.iload 7, 2) := by decide +kernel
theorem dX2_seek_64 : decode cX2_seek 64 = .ok (.istore 5, 2) := by decide +kernel
theorem dX2_seek_66 : decode cX2_seek 66 = .ok (.iload 6, 2) := by decide +kernel
theorem dX2_seek_68 : decode cX2_seek 68 = .ok (.istore 4, 2) := by decide +kernel
theorem dX2_seek_70 : decode cX2_seek 70 = .ok (.iinc 6 20, 3) := by decide +kernel
theorem dX2_seek_73 : decode cX2_seek 73 = .ok (.goto (-48), 3) := by decide +kernel
theorem dX2_seek_76 : decode cX2_seek 76 = .ok (.iload_n 3, 1) := by decide +kernel
theorem dX2_seek_77 : decode cX2_seek 77 = .ok (.bipush 20, 2) := by decide +kernel
theorem dX2_seek_79 : decode cX2_seek 79 = .ok (.isub, 1) := by decide +kernel
theorem dX2_seek_80 : decode cX2_seek 80 = .ok (.istore 6, 2) := by decide +kernel
theorem dX2_seek_82 : decode cX2_seek 82 = .ok (.iload 6, 2) := by decide +kernel
theorem dX2_seek_84 : decode cX2_seek 84 = .ok (.sipush 1000, 3) := by decide +kernel
theorem dX2_seek_87 : decode cX2_seek 87 = .ok (.if_icmp .lt 47, 3) := by decide +kernel
theorem dX2_seek_90 : decode cX2_seek 90 = .ok (.aload_n 0, 1) := by decide +kernel
theorem dX2_seek_91 : decode cX2_seek 91 = .ok (.iload_n 1, 1) := by decide +kernel
theorem dX2_seek_92 : decode cX2_seek 92 = .ok (.iload 6, 2) := by decide +kernel
theorem dX2_seek_94 : decode cX2_seek 94 = .ok (.iload_n 2, 1) := by decide +kernel
theorem dX2_seek_95 : decode cX2_seek 95 = .ok (.invokevirtual 52, 3) := by decide +kernel
theorem dX2_seek_98 : decode cX2_seek 98 = .ok (.istore 7, 2) := by decide +kernel
theorem dX2_seek_100 : decode cX2_seek 100 = .ok (.iload 7, 2) := by decide +kernel
theorem dX2_seek_102 : decode cX2_seek 102 = .ok (.iload 5, 2) := by decide +kernel
theorem dX2_seek_104 : decode cX2_seek 104 = .ok (.bipush 48, 2) := by decide +kernel
theorem dX2_seek_106 : decode cX2_seek 106 = .ok (.iadd, 1) := by decide +kernel
theorem dX2_seek_107 : decode cX2_seek 107 = .ok (.if_icmp .le 6, 3) := by decide +kernel
theorem dX2_seek_110 : decode cX2_seek 110 = .ok (.goto 24, 3) := by decide +kernel
theorem dX2_seek_113 : decode cX2_seek 113 = .ok (.iload 7, 2) := by decide +kernel
theorem dX2_seek_115 : decode cX2_seek 115 = .ok (.iload 5, 2) := by decide +kernel
theorem dX2_seek_117 : decode cX2_seek 117 = .ok (.if_icmp .gt 11, 3) := by decide +kernel
theorem dX2_seek_120 : decode cX2_seek 120 = .ok (.iload 7, 2) := by decide +kernel
theorem dX2_seek_122 : decode cX2_seek 122 = .ok (.istore 5, 2) := by decide +kernel
theorem dX2_seek_124 : decode cX2_seek 124 = .ok (.iload 6, 2) := by decide +kernel
theorem dX2_seek_126 : decode cX2_seek 126 = .ok (.istore 4, 2) := by decide +kernel
theorem dX2_seek_128 : decode cX2_seek 128 = .ok (.iinc 6 (-20), 3) := by decide +kernel
theorem dX2_seek_131 : decode cX2_seek 131 = .ok (.goto (-49), 3) := by decide +kernel
theorem dX2_seek_134 : decode cX2_seek 134 = .ok (.aload_n 0, 1) := by decide +kernel
theorem dX2_seek_135 : decode cX2_seek 135 = .ok (.iload 4, 2) := by decide +kernel
theorem dX2_seek_137 : decode cX2_seek 137 = .ok (.putfield 15, 3) := by decide +kernel
theorem dX2_seek_140 : decode cX2_seek 140 = .ok (.aload_n 0, 1) := by decide +kernel
theorem dX2_seek_141 : decode cX2_seek 141 = .ok (.iload 5, 2) := by decide +kernel
theorem dX2_seek_143 : decode cX2_seek 143 = .ok (.putfield 19, 3) := by decide +kernel
theorem dX2_seek_146 : decode cX2_seek 146 = .ok (.return_, 1) := by decide +kernel
set_option maxRecDepth 20000 in
theorem ggX2_likelyPitch_X2_misfitAt : GoodIn wsX2_likelyPitch wsX2_misfitAt := goodIn_r _ [5, 6, 7, 8, 9, 10, 11, 12, 13, 14, 15, 16, 17, 18, 19, 20, 21, 22, 23, 24, 25, 26, 27, 28, 29, 30, 31, 32, 33] (by decide +kernel) (by decide +kernel)
set_option maxRecDepth 20000 in
theorem gX2_likelyPitch_X2_misfitAt : GoodIn wsX2_likelyPitch (wsV RX2 52 RX2 yX2_misfitAt wsX2_misfitAt) := goodIn_app (goodIn_of _ (by decide +kernel)) ggX2_likelyPitch_X2_misfitAt
theorem dX2_likelyPitch_0 : decode cX2_likelyPitch 0 = .ok (.iconst 0, 1) := by decide +kernel
theorem dX2_likelyPitch_1 : decode cX2_likelyPitch 1 = .ok (.istore_n 3, 1) := by decide +kernel
theorem dX2_likelyPitch_2 : decode cX2_likelyPitch 2 = .ok (.sipush 9950, 3) := by decide +kernel
theorem dX2_likelyPitch_5 : decode cX2_likelyPitch 5 = .ok (.istore 4, 2) := by decide +kernel
theorem dX2_likelyPitch_7 : decode cX2_likelyPitch 7 = .ok (.iconst 0, 1) := by decide +kernel
theorem dX2_likelyPitch_8 : decode cX2_likelyPitch 8 = .ok (.istore 5, 2) := by decide +kernel
theorem dX2_likelyPitch_10 : decode cX2_likelyPitch 10 = .ok (.iload 5, 2) := by decide +kernel
theorem dX2_likelyPitch_12 : decode cX2_likelyPitch 12 = .ok (.bipush 14, 2) := by decide +kernel
theorem dX2_likelyPitch_14 : decode cX2_likelyPitch 14 = .ok (.if_icmp .ge 72, 3) := by decide +kernel
theorem dX2_likelyPitch_17 : decode cX2_likelyPitch 17 = .ok (.iload_n 3, 1) := by decide +kernel
theorem dX2_likelyPitch_18 : decode cX2_likelyPitch 18 = .ok (.iload 4, 2) := by decide +kernel
theorem dX2_likelyPitch_20 : decode cX2_likelyPitch 20 = .ok (.if_icmp .ge 66, 3) := by decide +kernel
theorem dX2_likelyPitch_23 : decode cX2_likelyPitch 23 = .ok (.iload_n 3, 1) := by decide +kernel
theorem dX2_likelyPitch_24 : decode cX2_likelyPitch 24 = .ok (.iload 4, 2) := by decide +kernel
theorem dX2_likelyPitch_26 : decode cX2_likelyPitch 26 = .ok (.iadd, 1) := by decide +kernel
theorem dX2_likelyPitch_27 : decode cX2_likelyPitch 27 = .ok (.iconst 2, 1) := by decide +kernel
theorem dX2_likelyPitch_28 : decode cX2_likelyPitch 28 = .ok (.idiv, 1) := by decide +kernel
theorem dX2_likelyPitch_29 : decode cX2_likelyPitch 29 = .ok (.istore 6, 2) := by decide +kernel
theorem dX2_likelyPitch_31 : decode cX2_likelyPitch 31 = .ok (.sipush 1000, 3) := by decide +kernel
theorem dX2_likelyPitch_34 : decode cX2_likelyPitch 34 = .ok (.iload 6, 2) := by decide +kernel
theorem dX2_likelyPitch_36 : decode cX2_likelyPitch 36 = .ok (.bipush 20, 2) := by decide +kernel
theorem dX2_likelyPitch_38 : decode cX2_likelyPitch 38 = .ok (.imul, 1) := by decide +kernel
theorem dX2_likelyPitch_39 : decode cX2_likelyPitch 39 = .ok (.iadd, 1) := by decide +kernel
theorem dX2_likelyPitch_40 : decode cX2_likelyPitch 40 = .ok (.istore 7, 2) := by decide +kernel
theorem dX2_likelyPitch_42 : decode cX2_likelyPitch 42 = .ok (.aload_n 0, 1) := by decide +kernel
theorem dX2_likelyPitch_43 : decode cX2_likelyPitch 43 = .ok (.iload_n 1, 1) := by decide +kernel
theorem dX2_likelyPitch_44 : decode cX2_likelyPitch 44 = .ok (.iload 7, 2) := by decide +kernel
theorem dX2_likelyPitch_46 : decode cX2_likelyPitch 46 = .ok (.iload_n 2, 1) := by decide +kernel
theorem dX2_likelyPitch_47 : decode cX2_likelyPitch 47 = .ok (.invokevirtual 52, 3) := by decide +kernel
theorem dX2_likelyPitch_50 : decode cX2_likelyPitch 50 = .ok (.istore 8, 2) := by decide +kernel
theorem dX2_likelyPitch_52 : decode cX2_likelyPitch 52 = .ok (.iload 8, 2) := by decide +kernel
theorem dX2_likelyPitch_54 : decode cX2_likelyPitch 54 = .ok (.aload_n 0, 1) := by decide +kernel
theorem dX2_likelyPitch_55 : decode cX2_likelyPitch 55 = .ok (.iload_n 1, 1) := by decide +kernel
theorem dX2_likelyPitch_56 : decode cX2_likelyPitch 56 = .ok (.iload 7, 2) := by decide +kernel
theorem dX2_likelyPitch_58 : decode cX2_likelyPitch 58 = .ok (.bipush 20, 2) := by decide +kernel
theorem dX2_likelyPitch_60 : decode cX2_likelyPitch 60 = .ok (.iadd, 1) := by decide +kernel
theorem dX2_likelyPitch_61 : decode cX2_likelyPitch 61 = .ok (.iload_n 2, 1) := by decide +kernel
theorem dX2_likelyPitch_62 : decode cX2_likelyPitch 62 = .ok (.invokevirtual 52, 3) := by decide +kernel
theorem dX2_likelyPitch_65 : decode cX2_likelyPitch 65 = .ok (.if_icmp .gt 10, 3) := by decide +kernel
theorem dX2_likelyPitch_68 : decode cX2_likelyPitch 68 = .ok (.iload 6, 2) := by decide +kernel
theorem dX2_likelyPitch_70 : decode cX2_likelyPitch 70 = .ok (.istore 4, 2) := by decide +kernel
theorem dX2_likelyPitch_72 : decode cX2_likelyPitch 72 = .ok (.goto 8, 3) := by decide +kernel
theorem dX2_likelyPitch_75 : decode cX2_likelyPitch 75 = .ok (.iload 6, 2) := by decide +kernel
theorem dX2_likelyPitch_77 : decode cX2_likelyPitch 77 = .ok (.iconst 1, 1) := by decide +kernel
theorem dX2_likelyPitch_78 : decode cX2_likelyPitch 78 = .ok (.iadd, 1) := by decide +kernel
theorem dX2_likelyPitch_79 : decode cX2_likelyPitch 79 = .ok (.istore_n 3, 1) := by decide +kernel
theorem dX2_likelyPitch_80 : decode cX2_likelyPitch 80 = .ok (.iinc 5 1, 3) := by decide +kernel
theorem dX2_likelyPitch_83 : decode cX2_likelyPitch 83 = .ok (.goto (-73), 3) := by decide +kernel
theorem dX2_likelyPitch_86 : decode cX2_likelyPitch 86 = .ok (.sipush 1000, 3) := by decide +kernel
theorem dX2_likelyPitch_89 : decode cX2_likelyPitch 89 = .ok (.iload_n 3, 1) := by decide +kernel
theorem dX2_likelyPitch_90 : decode cX2_likelyPitch 90 = .ok (.bipush 20, 2) := by decide +kernel
theorem dX2_likelyPitch_92 : decode cX2_likelyPitch 92 = .ok (.imul, 1) := by decide +kernel
theorem dX2_likelyPitch_93 : decode cX2_likelyPitch 93 = .ok (.iadd, 1) := by decide +kernel
theorem dX2_likelyPitch_94 : decode cX2_likelyPitch 94 = .ok (.ireturn, 1) := by decide +kernel
set_option maxRecDepth 20000 in
theorem ggX2_scaleMeant_X2_seek : GoodIn wsX2_scaleMeant wsX2_seek := goodIn_r _ [7, 8, 2, 1, 9, 10, 11, 6, 12, 13, 14, 15, 16, 17, 18, 19, 20, 21, 22, 23, 24, 25, 26, 27, 28, 29, 30, 31, 32, 33, 34, 35, 36, 37, 38, 39, 40, 41, 42, 43, 44] (by decide +kernel) (by decide +kernel)
set_option maxRecDepth 20000 in
theorem gX2_scaleMeant_X2_seek : GoodIn wsX2_scaleMeant (wsV RX2 56 RX2 yX2_seek wsX2_seek) := goodIn_app (goodIn_of _ (by decide +kernel)) ggX2_scaleMeant_X2_seek
theorem dX2_scaleMeant_0 : decode cX2_scaleMeant 0 = .ok (.iconst 0, 1) := by decide +kernel
theorem dX2_scaleMeant_1 : decode cX2_scaleMeant 1 = .ok (.istore_n 1, 1) := by decide +kernel
theorem dX2_scaleMeant_2 : decode cX2_scaleMeant 2 = .ok (.iconst 0, 1) := by decide +kernel
theorem dX2_scaleMeant_3 : decode cX2_scaleMeant 3 = .ok (.istore_n 2, 1) := by decide +kernel
theorem dX2_scaleMeant_4 : decode cX2_scaleMeant 4 = .ok (.iconst 0, 1) := by decide +kernel
theorem dX2_scaleMeant_5 : decode cX2_scaleMeant 5 = .ok (.istore_n 3, 1) := by decide +kernel
theorem dX2_scaleMeant_6 : decode cX2_scaleMeant 6 = .ok (.iconst 0, 1) := by decide +kernel
theorem dX2_scaleMeant_7 : decode cX2_scaleMeant 7 = .ok (.istore 4, 2) := by decide +kernel
theorem dX2_scaleMeant_9 : decode cX2_scaleMeant 9 = .ok (.iload 4, 2) := by decide +kernel
theorem dX2_scaleMeant_11 : decode cX2_scaleMeant 11 = .ok (.iconst 5, 1) := by decide +kernel
theorem dX2_scaleMeant_12 : decode cX2_scaleMeant 12 = .ok (.if_icmp .ge 42, 3) := by decide +kernel
theorem dX2_scaleMeant_15 : decode cX2_scaleMeant 15 = .ok (.aload_n 0, 1) := by decide +kernel
theorem dX2_scaleMeant_16 : decode cX2_scaleMeant 16 = .ok (.iload 4, 2) := by decide +kernel
theorem dX2_scaleMeant_18 : decode cX2_scaleMeant 18 = .ok (.iconst (-1), 1) := by decide +kernel
theorem dX2_scaleMeant_19 : decode cX2_scaleMeant 19 = .ok (.invokevirtual 56, 3) := by decide +kernel
theorem dX2_scaleMeant_22 : decode cX2_scaleMeant 22 = .ok (.iload 4, 2) := by decide +kernel
theorem dX2_scaleMeant_24 : decode cX2_scaleMeant 24 = .ok (.ifCond .eq 11, 3) := by decide +kernel
theorem dX2_scaleMeant_27 : decode cX2_scaleMeant 27 = .ok (.aload_n 0, 1) := by decide +kernel
theorem dX2_scaleMeant_28 : decode cX2_scaleMeant 28 = .ok (.getfield 19, 3) := by decide +kernel
theorem dX2_scaleMeant_31 : decode cX2_scaleMeant 31 = .ok (.iload_n 3, 1) := by decide +kernel
theorem dX2_scaleMeant_32 : decode cX2_scaleMeant 32 = .ok (.if_icmp .ge 16, 3) := by decide +kernel
theorem dX2_scaleMeant_35 : decode cX2_scaleMeant 35 = .ok (.iload 4, 2) := by decide +kernel
theorem dX2_scaleMeant_37 : decode cX2_scaleMeant 37 = .ok (.istore_n 1, 1) := by decide +kernel
theorem dX2_scaleMeant_38 : decode cX2_scaleMeant 38 = .ok (.aload_n 0, 1) := by decide +kernel
theorem dX2_scaleMeant_39 : decode cX2_scaleMeant 39 = .ok (.getfield 15, 3) := by decide +kernel
theorem dX2_scaleMeant_42 : decode cX2_scaleMeant 42 = .ok (.istore_n 2, 1) := by decide +kernel
theorem dX2_scaleMeant_43 : decode cX2_scaleMeant 43 = .ok (.aload_n 0, 1) := by decide +kernel
theorem dX2_scaleMeant_44 : decode cX2_scaleMeant 44 = .ok (.getfield 19, 3) := by decide +kernel
theorem dX2_scaleMeant_47 : decode cX2_scaleMeant 47 = .ok (.istore_n 3, 1) := by decide +kernel
theorem dX2_scaleMeant_48 : decode cX2_scaleMeant 48 = .ok (.iinc 4 1, 3) := by decide +kernel
theorem dX2_scaleMeant_51 : decode cX2_scaleMeant 51 = .ok (.goto (-42), 3) := by decide +kernel
theorem dX2_scaleMeant_54 : decode cX2_scaleMeant 54 = .ok (.aload_n 0, 1) := by decide +kernel
theorem dX2_scaleMeant_55 : decode cX2_scaleMeant 55 = .ok (.iload_n 2, 1) := by decide +kernel
theorem dX2_scaleMeant_56 : decode cX2_scaleMeant 56 = .ok (.putfield 15, 3) := by decide +kernel
theorem dX2_scaleMeant_59 : decode cX2_scaleMeant 59 = .ok (.iload_n 1, 1) := by decide +kernel
theorem dX2_scaleMeant_60 : decode cX2_scaleMeant 60 = .ok (.ireturn, 1) := by decide +kernel
set_option maxRecDepth 20000 in
theorem ggX2_keyAdded_X2_scaleMeant : GoodIn wsX2_keyAdded wsX2_scaleMeant := goodIn_r _ [10, 5, 11, 12, 13, 14, 9, 15, 16, 17, 18, 19, 20, 21, 22, 23, 24, 1, 2, 3, 4, 25, 26, 27, 28, 29, 30, 31, 32, 33, 34, 35, 36, 37, 38, 39, 40, 41, 42, 43, 44, 45, 46, 47, 48] (by decide +kernel) (by decide +kernel)
set_option maxRecDepth 20000 in
theorem gX2_keyAdded_X2_scaleMeant : GoodIn wsX2_keyAdded (wsV RX2 60 RX2 yX2_scaleMeant wsX2_scaleMeant) := goodIn_app (goodIn_of _ (by decide +kernel)) ggX2_keyAdded_X2_scaleMeant
set_option maxRecDepth 20000 in
theorem ggX2_keyAdded_X2_seek : GoodIn wsX2_keyAdded wsX2_seek := goodIn_r _ [15, 16, 11, 5, 17, 18, 19, 9, 20, 21, 22, 23, 24, 1, 2, 3, 4, 25, 26, 27, 28, 29, 30, 31, 32, 33, 34, 35, 36, 37, 38, 39, 40, 41, 42, 43, 44, 45, 46, 47, 48] (by decide +kernel) (by decide +kernel)
set_option maxRecDepth 20000 in
theorem gX2_keyAdded_X2_seek : GoodIn wsX2_keyAdded (wsV RX2 56 RX2 yX2_seek wsX2_seek) := goodIn_app (goodIn_of _ (by decide +kernel)) ggX2_keyAdded_X2_seek
theorem dX2_keyAdded_0 : decode cX2_keyAdded 0 = .ok (.aload_n 0, 1) := by decide +kernel
theorem dX2_keyAdded_1 : decode cX2_keyAdded 1 = .ok (.invokevirtual 60, 3) := by decide +kernel
theorem dX2_keyAdded_4 : decode cX2_keyAdded 4 = .ok (.istore_n 1, 1) := by decide +kernel
theorem dX2_keyAdded_5 : decode cX2_keyAdded 5 = .ok (.iconst (-1), 1) := by decide +kernel
theorem dX2_keyAdded_6 : decode cX2_keyAdded 6 = .ok (.istore_n 2, 1) := by decide +kernel
theorem dX2_keyAdded_7 : decode cX2_keyAdded 7 = .ok (.iconst 0, 1) := by decide +kernel
theorem dX2_keyAdded_8 : decode cX2_keyAdded 8 = .ok (.istore_n 3, 1) := by decide +kernel
theorem dX2_keyAdded_9 : decode cX2_keyAdded 9 = .ok (.iconst 0, 1) := by decide +kernel
theorem dX2_keyAdded_10 : decode cX2_keyAdded 10 = .ok (.istore 4, 2) := by decide +kernel
theorem dX2_keyAdded_12 : decode cX2_keyAdded 12 = .ok (.iload 4, 2) := by decide +kernel
theorem dX2_keyAdded_14 : decode cX2_keyAdded 14 = .ok (.aload_n 0, 1) := by decide +kernel
theorem dX2_keyAdded_15 : decode cX2_keyAdded 15 = .ok (.getfield 22, 3) := by decide +kernel
theorem dX2_keyAdded_18 : decode cX2_keyAdded 18 = .ok (.getfield 31, 3) := by decide +kernel
theorem dX2_keyAdded_21 : decode cX2_keyAdded 21 = .ok (.if_icmp .ge 52, 3) := by decide +kernel
theorem dX2_keyAdded_24 : decode cX2_keyAdded 24 = .ok (.aload_n 0, 1) := by decide +kernel
theorem dX2_keyAdded_25 : decode cX2_keyAdded 25 = .ok (.getfield 9, 3) := by decide +kernel
theorem dX2_keyAdded_28 : decode cX2_keyAdded 28 = .ok (.iload 4, 2) := by decide +kernel
theorem dX2_keyAdded_30 : decode cX2_keyAdded 30 = .ok (.iaload, 1) := by decide +kernel
theorem dX2_keyAdded_31 : decode cX2_keyAdded 31 = .ok (.ldc 30, 2) := by decide +kernel
theorem dX2_keyAdded_33 : decode cX2_keyAdded 33 = .ok (.if_icmp .ne 6, 3) := by decide +kernel
theorem dX2_keyAdded_36 : decode cX2_keyAdded 36 = .ok (.goto 31, 3) := by decide +kernel
theorem dX2_keyAdded_39 : decode cX2_keyAdded 39 = .ok (.aload_n 0, 1) := by decide +kernel
theorem dX2_keyAdded_40 : decode cX2_keyAdded 40 = .ok (.iload_n 1, 1) := by decide +kernel
theorem dX2_keyAdded_41 : decode cX2_keyAdded 41 = .ok (.iload 4, 2) := by decide +kernel
theorem dX2_keyAdded_43 : decode cX2_keyAdded 43 = .ok (.invokevirtual 56, 3) := by decide +kernel
theorem dX2_keyAdded_46 : decode cX2_keyAdded 46 = .ok (.iload_n 2, 1) := by decide +kernel
theorem dX2_keyAdded_47 : decode cX2_keyAdded 47 = .ok (.iconst (-1), 1) := by decide +kernel
theorem dX2_keyAdded_48 : decode cX2_keyAdded 48 = .ok (.if_icmp .eq 11, 3) := by decide +kernel
theorem dX2_keyAdded_51 : decode cX2_keyAdded 51 = .ok (.aload_n 0, 1) := by decide +kernel
theorem dX2_keyAdded_52 : decode cX2_keyAdded 52 = .ok (.getfield 19, 3) := by decide +kernel
theorem dX2_keyAdded_55 : decode cX2_keyAdded 55 = .ok (.iload_n 3, 1) := by decide +kernel
theorem dX2_keyAdded_56 : decode cX2_keyAdded 56 = .ok (.if_icmp .ge 11, 3) := by decide +kernel
theorem dX2_keyAdded_59 : decode cX2_keyAdded 59 = .ok (.iload 4, 2) := by decide +kernel
theorem dX2_keyAdded_61 : decode cX2_keyAdded 61 = .ok (.istore_n 2, 1) := by decide +kernel
theorem dX2_keyAdded_62 : decode cX2_keyAdded 62 = .ok (.aload_n 0, 1) := by decide +kernel
theorem dX2_keyAdded_63 : decode cX2_keyAdded 63 = .ok (.getfield 19, 3) := by decide +kernel
theorem dX2_keyAdded_66 : decode cX2_keyAdded 66 = .ok (.istore_n 3, 1) := by decide +kernel
theorem dX2_keyAdded_67 : decode cX2_keyAdded 67 = .ok (.iinc 4 1, 3) := by decide +kernel
theorem dX2_keyAdded_70 : decode cX2_keyAdded 70 = .ok (.goto (-58), 3) := by decide +kernel
theorem dX2_keyAdded_73 : decode cX2_keyAdded 73 = .ok (.aload_n 0, 1) := by decide +kernel
theorem dX2_keyAdded_74 : decode cX2_keyAdded 74 = .ok (.iload_n 3, 1) := by decide +kernel
theorem dX2_keyAdded_75 : decode cX2_keyAdded 75 = .ok (.putfield 19, 3) := by decide +kernel
theorem dX2_keyAdded_78 : decode cX2_keyAdded 78 = .ok (.iload_n 2, 1) := by decide +kernel
theorem dX2_keyAdded_79 : decode cX2_keyAdded 79 = .ok (.ireturn, 1) := by decide +kernel
set_option maxRecDepth 20000 in
theorem ggX2_keyBentLater_X2_scaleMeant : GoodIn wsX2_keyBentLater wsX2_scaleMeant := goodIn_r _ [15, 16, 6, 17, 18, 19, 14, 20, 21, 22, 23, 24, 25, 26, 27, 28, 29, 1, 2, 3, 4, 5, 7, 8, 9, 10, 30, 31, 32, 33, 34, 35, 36, 37, 38, 39, 40, 41, 42, 43, 44, 45, 46, 47, 48] (by decide +kernel) (by decide +kernel)
set_option maxRecDepth 20000 in
theorem gX2_keyBentLater_X2_scaleMeant : GoodIn wsX2_keyBentLater (wsV RX2 60 RX2 yX2_scaleMeant wsX2_scaleMeant) := goodIn_app (goodIn_of _ (by decide +kernel)) ggX2_keyBentLater_X2_scaleMeant
set_option maxRecDepth 20000 in
theorem ggX2_keyBentLater_X3_goalAt : GoodIn wsX2_keyBentLater wsX3_goalAt := goodIn_r _ [34, 35, 36, 47, 48] (by decide +kernel) (by decide +kernel)
set_option maxRecDepth 20000 in
theorem gX2_keyBentLater_X3_goalAt : GoodIn wsX2_keyBentLater (wsV RX2 36 RX3 yX3_goalAt wsX3_goalAt) := goodIn_app (goodIn_of _ (by decide +kernel)) ggX2_keyBentLater_X3_goalAt
theorem dX2_keyBentLater_0 : decode cX2_keyBentLater 0 = .ok (.aload_n 0, 1) := by decide +kernel
theorem dX2_keyBentLater_1 : decode cX2_keyBentLater 1 = .ok (.invokevirtual 60, 3) := by decide +kernel
theorem dX2_keyBentLater_4 : decode cX2_keyBentLater 4 = .ok (.istore_n 3, 1) := by decide +kernel
theorem dX2_keyBentLater_5 : decode cX2_keyBentLater 5 = .ok (.iconst 0, 1) := by decide +kernel
theorem dX2_keyBentLater_6 : decode cX2_keyBentLater 6 = .ok (.istore 4, 2) := by decide +kernel
theorem dX2_keyBentLater_8 : decode cX2_keyBentLater 8 = .ok (.iconst 0, 1) := by decide +kernel
theorem dX2_keyBentLater_9 : decode cX2_keyBentLater 9 = .ok (.istore 5, 2) := by decide +kernel
theorem dX2_keyBentLater_11 : decode cX2_keyBentLater 11 = .ok (.iload 5, 2) := by decide +kernel
theorem dX2_keyBentLater_13 : decode cX2_keyBentLater 13 = .ok (.aload_n 0, 1) := by decide +kernel
theorem dX2_keyBentLater_14 : decode cX2_keyBentLater 14 = .ok (.getfield 22, 3) := by decide +kernel
theorem dX2_keyBentLater_17 : decode cX2_keyBentLater 17 = .ok (.getfield 31, 3) := by decide +kernel
theorem dX2_keyBentLater_20 : decode cX2_keyBentLater 20 = .ok (.if_icmp .ge 68, 3) := by decide +kernel
theorem dX2_keyBentLater_23 : decode cX2_keyBentLater 23 = .ok (.aload_n 0, 1) := by decide +kernel
theorem dX2_keyBentLater_24 : decode cX2_keyBentLater 24 = .ok (.getfield 9, 3) := by decide +kernel
theorem dX2_keyBentLater_27 : decode cX2_keyBentLater 27 = .ok (.iload 5, 2) := by decide +kernel
theorem dX2_keyBentLater_29 : decode cX2_keyBentLater 29 = .ok (.iaload, 1) := by decide +kernel
theorem dX2_keyBentLater_30 : decode cX2_keyBentLater 30 = .ok (.ldc 30, 2) := by decide +kernel
theorem dX2_keyBentLater_32 : decode cX2_keyBentLater 32 = .ok (.if_icmp .ne 6, 3) := by decide +kernel
theorem dX2_keyBentLater_35 : decode cX2_keyBentLater 35 = .ok (.goto 47, 3) := by decide +kernel
theorem dX2_keyBentLater_38 : decode cX2_keyBentLater 38 = .ok (.aload_n 0, 1) := by decide +kernel
theorem dX2_keyBentLater_39 : decode cX2_keyBentLater 39 = .ok (.getfield 26, 3) := by decide +kernel
theorem dX2_keyBentLater_42 : decode cX2_keyBentLater 42 = .ok (.iload_n 3, 1) := by decide +kernel
theorem dX2_keyBentLater_43 : decode cX2_keyBentLater 43 = .ok (.aload_n 0, 1) := by decide +kernel
theorem dX2_keyBentLater_44 : decode cX2_keyBentLater 44 = .ok (.getfield 15, 3) := by decide +kernel
theorem dX2_keyBentLater_47 : decode cX2_keyBentLater 47 = .ok (.iload 5, 2) := by decide +kernel
theorem dX2_keyBentLater_49 : decode cX2_keyBentLater 49 = .ok (.invokevirtual 36, 3) := by decide +kernel
theorem dX2_keyBentLater_52 : decode cX2_keyBentLater 52 = .ok (.aload_n 0, 1) := by decide +kernel
theorem dX2_keyBentLater_53 : decode cX2_keyBentLater 53 = .ok (.getfield 9, 3) := by decide +kernel
theorem dX2_keyBentLater_56 : decode cX2_keyBentLater 56 = .ok (.iload 5, 2) := by decide +kernel
theorem dX2_keyBentLater_58 : decode cX2_keyBentLater 58 = .ok (.iaload, 1) := by decide +kernel
theorem dX2_keyBentLater_59 : decode cX2_keyBentLater 59 = .ok (.isub, 1) := by decide +kernel
theorem dX2_keyBentLater_60 : decode cX2_keyBentLater 60 = .ok (.invokestatic 42, 3) := by decide +kernel
theorem dX2_keyBentLater_63 : decode cX2_keyBentLater 63 = .ok (.iload_n 1, 1) := by decide +kernel
theorem dX2_keyBentLater_64 : decode cX2_keyBentLater 64 = .ok (.if_icmp .gt 6, 3) := by decide +kernel
theorem dX2_keyBentLater_67 : decode cX2_keyBentLater 67 = .ok (.goto 15, 3) := by decide +kernel
theorem dX2_keyBentLater_70 : decode cX2_keyBentLater 70 = .ok (.iload 4, 2) := by decide +kernel
theorem dX2_keyBentLater_72 : decode cX2_keyBentLater 72 = .ok (.iload_n 2, 1) := by decide +kernel
theorem dX2_keyBentLater_73 : decode cX2_keyBentLater 73 = .ok (.if_icmp .ne 6, 3) := by decide +kernel
theorem dX2_keyBentLater_76 : decode cX2_keyBentLater 76 = .ok (.iload 5, 2) := by decide +kernel
theorem dX2_keyBentLater_78 : decode cX2_keyBentLater 78 = .ok (.ireturn, 1) := by decide +kernel
theorem dX2_keyBentLater_79 : decode cX2_keyBentLater 79 = .ok (.iinc 4 1, 3) := by decide +kernel
theorem dX2_keyBentLater_82 : decode cX2_keyBentLater 82 = .ok (.iinc 5 1, 3) := by decide +kernel
theorem dX2_keyBentLater_85 : decode cX2_keyBentLater 85 = .ok (.goto (-74), 3) := by decide +kernel
theorem dX2_keyBentLater_88 : decode cX2_keyBentLater 88 = .ok (.ldc 30, 2) := by decide +kernel
theorem dX2_keyBentLater_90 : decode cX2_keyBentLater 90 = .ok (.ireturn, 1) := by decide +kernel
theorem dX3_init_0 : decode cX3_init 0 = .ok (.aload_n 0, 1) := by decide +kernel
theorem dX3_init_1 : decode cX3_init 1 = .ok (.invokespecial 3, 3) := by decide +kernel
theorem dX3_init_4 : decode cX3_init 4 = .ok (.aload_n 0, 1) := by decide +kernel
theorem dX3_init_5 : decode cX3_init 5 = .ok (.bipush 60, 2) := by decide +kernel
theorem dX3_init_7 : decode cX3_init 7 = .ok (.newarray .int, 2) := by decide +kernel
theorem dX3_init_9 : decode cX3_init 9 = .ok (.putfield 9, 3) := by decide +kernel
theorem dX3_init_12 : decode cX3_init 12 = .ok (.aload_n 0, 1) := by decide +kernel
theorem dX3_init_13 : decode cX3_init 13 = .ok (.bipush 60, 2) := by decide +kernel
theorem dX3_init_15 : decode cX3_init 15 = .ok (.newarray .int, 2) := by decide +kernel
theorem dX3_init_17 : decode cX3_init 17 = .ok (.putfield 15, 3) := by decide +kernel
theorem dX3_init_20 : decode cX3_init 20 = .ok (.iconst 0, 1) := by decide +kernel
theorem dX3_init_21 : decode cX3_init 21 = .ok (.istore_n 1, 1) := by decide +kernel
theorem dX3_init_22 : decode cX3_init 22 = .ok (.iload_n 1, 1) := by decide +kernel
theorem dX3_init_23 : decode cX3_init 23 = .ok (.bipush 60, 2) := by decide +kernel
theorem dX3_init_25 : decode cX3_init 25 = .ok (.if_icmp .ge 23, 3) := by decide +kernel
theorem dX3_init_28 : decode cX3_init 28 = .ok (.aload_n 0, 1) := by decide +kernel
theorem dX3_init_29 : decode cX3_init 29 = .ok (.getfield 9, 3) := by decide +kernel
theorem dX3_init_32 : decode cX3_init 32 = .ok (.iload_n 1, 1) := by decide +kernel
theorem dX3_init_33 : decode cX3_init 33 = .ok (.iconst 1, 1) := by decide +kernel
theorem dX3_init_34 : decode cX3_init 34 = .ok (.iastore, 1) := by decide +kernel
theorem dX3_init_35 : decode cX3_init 35 = .ok (.aload_n 0, 1) := by decide +kernel
theorem dX3_init_36 : decode cX3_init 36 = .ok (.getfield 15, 3) := by decide +kernel
theorem dX3_init_39 : decode cX3_init 39 = .ok (.iload_n 1, 1) := by decide +kernel
theorem dX3_init_40 : decode cX3_init 40 = .ok (.iconst 1, 1) := by decide +kernel
theorem dX3_init_41 : decode cX3_init 41 = .ok (.iastore, 1) := by decide +kernel
theorem dX3_init_42 : decode cX3_init 42 = .ok (.iinc 1 1, 3) := by decide +kernel
theorem dX3_init_45 : decode cX3_init 45 = .ok (.goto (-23), 3) := by decide +kernel
theorem dX3_init_48 : decode cX3_init 48 = .ok (.return_, 1) := by decide +kernel
theorem dX3_put_0 : decode cX3_put 0 = .ok (.aload_n 0, 1) := by decide +kernel
theorem dX3_put_1 : decode cX3_put 1 = .ok (.getfield 9, 3) := by decide +kernel
theorem dX3_put_4 : decode cX3_put 4 = .ok (.iload_n 1, 1) := by decide +kernel
theorem dX3_put_5 : decode cX3_put 5 = .ok (.bipush 12, 2) := by decide +kernel
theorem dX3_put_7 : decode cX3_put 7 = .ok (.imul, 1) := by decide +kernel
theorem dX3_put_8 : decode cX3_put 8 = .ok (.iload_n 2, 1) := by decide +kernel
theorem dX3_put_9 : decode cX3_put 9 = .ok (.iadd, 1) := by decide +kernel
theorem dX3_put_10 : decode cX3_put 10 = .ok (.iload_n 3, 1) := by decide +kernel
theorem dX3_put_11 : decode cX3_put 11 = .ok (.iastore, 1) := by decide +kernel
theorem dX3_put_12 : decode cX3_put 12 = .ok (.aload_n 0, 1) := by decide +kernel
theorem dX3_put_13 : decode cX3_put 13 = .ok (.getfield 15, 3) := by decide +kernel
theorem dX3_put_16 : decode cX3_put 16 = .ok (.iload_n 1, 1) := by decide +kernel
theorem dX3_put_17 : decode cX3_put 17 = .ok (.bipush 12, 2) := by decide +kernel
theorem dX3_put_19 : decode cX3_put 19 = .ok (.imul, 1) := by decide +kernel
theorem dX3_put_20 : decode cX3_put 20 = .ok (.iload_n 2, 1) := by decide +kernel
theorem dX3_put_21 : decode cX3_put 21 = .ok (.iadd, 1) := by decide +kernel
theorem dX3_put_22 : decode cX3_put 22 = .ok (.iload 4, 2) := by decide +kernel
theorem dX3_put_24 : decode cX3_put 24 = .ok (.iastore, 1) := by decide +kernel
theorem dX3_put_25 : decode cX3_put 25 = .ok (.return_, 1) := by decide +kernel
theorem dX3_partOf_0 : decode cX3_partOf 0 = .ok (.iload_n 1, 1) := by decide +kernel
theorem dX3_partOf_1 : decode cX3_partOf 1 = .ok (.bipush 12, 2) := by decide +kernel
theorem dX3_partOf_3 : decode cX3_partOf 3 = .ok (.imul, 1) := by decide +kernel
theorem dX3_partOf_4 : decode cX3_partOf 4 = .ok (.iload_n 2, 1) := by decide +kernel
theorem dX3_partOf_5 : decode cX3_partOf 5 = .ok (.iadd, 1) := by decide +kernel
theorem dX3_partOf_6 : decode cX3_partOf 6 = .ok (.istore 4, 2) := by decide +kernel
theorem dX3_partOf_8 : decode cX3_partOf 8 = .ok (.iload_n 3, 1) := by decide +kernel
theorem dX3_partOf_9 : decode cX3_partOf 9 = .ok (.ifCond .eq 13, 3) := by decide +kernel
theorem dX3_partOf_12 : decode cX3_partOf 12 = .ok (.aload_n 0, 1) := by decide +kernel
theorem dX3_partOf_13 : decode cX3_partOf 13 = .ok (.getfield 9, 3) := by decide +kernel
theorem dX3_partOf_16 : decode cX3_partOf 16 = .ok (.iload 4, 2) := by decide +kernel
theorem dX3_partOf_18 : decode cX3_partOf 18 = .ok (.iaload, 1) := by decide +kernel
theorem dX3_partOf_19 : decode cX3_partOf 19 = .ok (.goto 10, 3) := by decide +kernel
theorem dX3_partOf_22 : decode cX3_partOf 22 = .ok (.aload_n 0, 1) := by decide +kernel
theorem dX3_partOf_23 : decode cX3_partOf 23 = .ok (.getfield 15, 3) := by decide +kernel
theorem dX3_partOf_26 : decode cX3_partOf 26 = .ok (.iload 4, 2) := by decide +kernel
theorem dX3_partOf_28 : decode cX3_partOf 28 = .ok (.iaload, 1) := by decide +kernel
theorem dX3_partOf_29 : decode cX3_partOf 29 = .ok (.ireturn, 1) := by decide +kernel
theorem dX3_goalAt_0 : decode cX3_goalAt 0 = .ok (.iload_n 1, 1) := by decide +kernel
theorem dX3_goalAt_1 : decode cX3_goalAt 1 = .ok (.bipush 12, 2) := by decide +kernel
theorem dX3_goalAt_3 : decode cX3_goalAt 3 = .ok (.imul, 1) := by decide +kernel
theorem dX3_goalAt_4 : decode cX3_goalAt 4 = .ok (.iload_n 3, 1) := by decide +kernel
theorem dX3_goalAt_5 : decode cX3_goalAt 5 = .ok (.bipush 12, 2) := by decide +kernel
theorem dX3_goalAt_7 : decode cX3_goalAt 7 = .ok (.irem, 1) := by decide +kernel
theorem dX3_goalAt_8 : decode cX3_goalAt 8 = .ok (.iadd, 1) := by decide +kernel
theorem dX3_goalAt_9 : decode cX3_goalAt 9 = .ok (.istore 4, 2) := by decide +kernel
theorem dX3_goalAt_11 : decode cX3_goalAt 11 = .ok (.iload_n 2, 1) := by decide +kernel
theorem dX3_goalAt_12 : decode cX3_goalAt 12 = .ok (.iload_n 3, 1) := by decide +kernel
theorem dX3_goalAt_13 : decode cX3_goalAt 13 = .ok (.bipush 12, 2) := by decide +kernel
theorem dX3_goalAt_15 : decode cX3_goalAt 15 = .ok (.idiv, 1) := by decide +kernel
theorem dX3_goalAt_16 : decode cX3_goalAt 16 = .ok (.ishl, 1) := by decide +kernel
theorem dX3_goalAt_17 : decode cX3_goalAt 17 = .ok (.istore 5, 2) := by decide +kernel
theorem dX3_goalAt_19 : decode cX3_goalAt 19 = .ok (.aload_n 0, 1) := by decide +kernel
theorem dX3_goalAt_20 : decode cX3_goalAt 20 = .ok (.getfield 15, 3) := by decide +kernel
theorem dX3_goalAt_23 : decode cX3_goalAt 23 = .ok (.iload 4, 2) := by decide +kernel
theorem dX3_goalAt_25 : decode cX3_goalAt 25 = .ok (.iaload, 1) := by decide +kernel
theorem dX3_goalAt_26 : decode cX3_goalAt 26 = .ok (.istore 6, 2) := by decide +kernel
theorem dX3_goalAt_28 : decode cX3_goalAt 28 = .ok (.iload 6, 2) := by decide +kernel
theorem dX3_goalAt_30 : decode cX3_goalAt 30 = .ok (.iconst 1, 1) := by decide +kernel
theorem dX3_goalAt_31 : decode cX3_goalAt 31 = .ok (.if_icmp .ge 7, 3) := by decide +kernel
theorem dX3_goalAt_34 : decode cX3_goalAt 34 = .ok (.iconst 0, 1) := by decide +kernel
theorem dX3_goalAt_35 : decode cX3_goalAt 35 = .ok (.goto 16, 3) := by decide +kernel
theorem dX3_goalAt_38 : decode cX3_goalAt 38 = .ok (.iload 5, 2) := by decide +kernel
theorem dX3_goalAt_40 : decode cX3_goalAt 40 = .ok (.aload_n 0, 1) := by decide +kernel
theorem dX3_goalAt_41 : decode cX3_goalAt 41 = .ok (.getfield 9, 3) := by decide +kernel
theorem dX3_goalAt_44 : decode cX3_goalAt 44 = .ok (.iload 4, 2) := by decide +kernel
theorem dX3_goalAt_46 : decode cX3_goalAt 46 = .ok (.iaload, 1) := by decide +kernel
theorem dX3_goalAt_47 : decode cX3_goalAt 47 = .ok (.imul, 1) := by decide +kernel
theorem dX3_goalAt_48 : decode cX3_goalAt 48 = .ok (.iload 6, 2) := by decide +kernel
theorem dX3_goalAt_50 : decode cX3_goalAt 50 = .ok (.idiv, 1) := by decide +kernel
theorem dX3_goalAt_51 : decode cX3_goalAt 51 = .ok (.ireturn, 1) := by decide +kernel
theorem dX4_init_0 : decode cX4_init 0 = .ok (.aload_n 0, 1) := by decide +kernel
theorem dX4_init_1 : decode cX4_init 1 = .ok (.invokespecial 3, 3) := by decide +kernel
theorem dX4_init_4 : decode cX4_init 4 = .ok (.aload_n 0, 1) := by decide +kernel
theorem dX4_init_5 : decode cX4_init 5 = .ok (.sipush 576, 3) := by decide +kernel
theorem dX4_init_8 : decode cX4_init 8 = .ok (.newarray .int, 2) := by decide +kernel
theorem dX4_init_10 : decode cX4_init 10 = .ok (.putfield 9, 3) := by decide +kernel
theorem dX4_init_13 : decode cX4_init 13 = .ok (.aload_n 0, 1) := by decide +kernel
theorem dX4_init_14 : decode cX4_init 14 = .ok (.sipush 625, 3) := by decide +kernel
theorem dX4_init_17 : decode cX4_init 17 = .ok (.newarray .int, 2) := by decide +kernel
theorem dX4_init_19 : decode cX4_init 19 = .ok (.putfield 15, 3) := by decide +kernel
theorem dX4_init_22 : decode cX4_init 22 = .ok (.aload_n 0, 1) := by decide +kernel
theorem dX4_init_23 : decode cX4_init 23 = .ok (.bipush 24, 2) := by decide +kernel
theorem dX4_init_25 : decode cX4_init 25 = .ok (.newarray .int, 2) := by decide +kernel
theorem dX4_init_27 : decode cX4_init 27 = .ok (.putfield 18, 3) := by decide +kernel
theorem dX4_init_30 : decode cX4_init 30 = .ok (.aload_n 0, 1) := by decide +kernel
theorem dX4_init_31 : decode cX4_init 31 = .ok (.iconst 0, 1) := by decide +kernel
theorem dX4_init_32 : decode cX4_init 32 = .ok (.putfield 21, 3) := by decide +kernel
theorem dX4_init_35 : decode cX4_init 35 = .ok (.aload_n 0, 1) := by decide +kernel
theorem dX4_init_36 : decode cX4_init 36 = .ok (.iconst 0, 1) := by decide +kernel
theorem dX4_init_37 : decode cX4_init 37 = .ok (.putfield 25, 3) := by decide +kernel
theorem dX4_init_40 : decode cX4_init 40 = .ok (.return_, 1) := by decide +kernel
set_option maxRecDepth 20000 in
theorem ggX4_gather_X4_gatherPiece : GoodIn wsX4_gather wsX4_gatherPiece := goodIn_r _ [6, 7, 8, 9, 10, 11, 12, 13, 14, 15, 16, 17, 18, 19, 20, 21, 22, 23, 24, 25, 26, 27, 28, 29, 30, 5, 31, 1, 32, 33, 34, 35, 36, 37, 38, 44, 45, 46, 47, 48, 39, 40, 41, 42, 43] (by decide +kernel) (by decide +kernel)
set_option maxRecDepth 20000 in
theorem gX4_gather_X4_gatherPiece : GoodIn wsX4_gather (wsV RX4 28 RX4 yX4_gatherPiece wsX4_gatherPiece) := goodIn_app (goodIn_of _ (by decide +kernel)) ggX4_gather_X4_gatherPiece
theorem dX4_gather_0 : decode cX4_gather 0 = .ok (.iconst 0, 1) := by decide +kernel
theorem dX4_gather_1 : decode cX4_gather 1 = .ok (.istore_n 3, 1) := by decide +kernel
theorem dX4_gather_2 : decode cX4_gather 2 = .ok (.iload_n 3, 1) := by decide +kernel
theorem dX4_gather_3 : decode cX4_gather 3 = .ok (.sipush 576, 3) := by decide +kernel
theorem dX4_gather_6 : decode cX4_gather 6 = .ok (.if_icmp .ge 16, 3) := by decide +kernel
theorem dX4_gather_9 : decode cX4_gather 9 = .ok (.aload_n 0, 1) := by decide +kernel
theorem dX4_gather_10 : decode cX4_gather 10 = .ok (.getfield 9, 3) := by decide +kernel
theorem dX4_gather_13 : decode cX4_gather 13 = .ok (.iload_n 3, 1) := by decide +kernel
theorem dX4_gather_14 : decode cX4_gather 14 = .ok (.iconst 0, 1) := by decide +kernel
theorem dX4_gather_15 : decode cX4_gather 15 = .ok (.iastore, 1) := by decide +kernel
theorem dX4_gather_16 : decode cX4_gather 16 = .ok (.iinc 3 1, 3) := by decide +kernel
theorem dX4_gather_19 : decode cX4_gather 19 = .ok (.goto (-17), 3) := by decide +kernel
theorem dX4_gather_22 : decode cX4_gather 22 = .ok (.iconst 0, 1) := by decide +kernel
theorem dX4_gather_23 : decode cX4_gather 23 = .ok (.istore_n 3, 1) := by decide +kernel
theorem dX4_gather_24 : decode cX4_gather 24 = .ok (.iload_n 3, 1) := by decide +kernel
theorem dX4_gather_25 : decode cX4_gather 25 = .ok (.iconst 4, 1) := by decide +kernel
theorem dX4_gather_26 : decode cX4_gather 26 = .ok (.if_icmp .ge 24, 3) := by decide +kernel
theorem dX4_gather_29 : decode cX4_gather 29 = .ok (.iload_n 2, 1) := by decide +kernel
theorem dX4_gather_30 : decode cX4_gather 30 = .ok (.iload_n 3, 1) := by decide +kernel
theorem dX4_gather_31 : decode cX4_gather 31 = .ok (.ishr, 1) := by decide +kernel
theorem dX4_gather_32 : decode cX4_gather 32 = .ok (.iconst 1, 1) := by decide +kernel
theorem dX4_gather_33 : decode cX4_gather 33 = .ok (.iand, 1) := by decide +kernel
theorem dX4_gather_34 : decode cX4_gather 34 = .ok (.iconst 1, 1) := by decide +kernel
theorem dX4_gather_35 : decode cX4_gather 35 = .ok (.if_icmp .ne 9, 3) := by decide +kernel
theorem dX4_gather_38 : decode cX4_gather 38 = .ok (.aload_n 0, 1) := by decide +kernel
theorem dX4_gather_39 : decode cX4_gather 39 = .ok (.aload_n 1, 1) := by decide +kernel
theorem dX4_gather_40 : decode cX4_gather 40 = .ok (.iload_n 3, 1) := by decide +kernel
theorem dX4_gather_41 : decode cX4_gather 41 = .ok (.invokevirtual 28, 3) := by decide +kernel
theorem dX4_gather_44 : decode cX4_gather 44 = .ok (.iinc 3 1, 3) := by decide +kernel
theorem dX4_gather_47 : decode cX4_gather 47 = .ok (.goto (-23), 3) := by decide +kernel
theorem dX4_gather_50 : decode cX4_gather 50 = .ok (.return_, 1) := by decide +kernel
set_option maxRecDepth 20000 in
theorem ggX4_gatherPiece_X1_startOf : GoodIn wsX4_gatherPiece wsX1_startOf := goodIn_r _ [6] (by decide +kernel) (by decide +kernel)
set_option maxRecDepth 20000 in
theorem gX4_gatherPiece_X1_startOf : GoodIn wsX4_gatherPiece (wsV RX4 32 RX1 yX1_startOf wsX1_startOf) := goodIn_app (goodIn_of _ (by decide +kernel)) ggX4_gatherPiece_X1_startOf
set_option maxRecDepth 20000 in
theorem ggX4_gatherPiece_X1_endOf : GoodIn wsX4_gatherPiece wsX1_endOf := goodIn_r _ [10, 11, 35, 36, 37, 38, 39] (by decide +kernel) (by decide +kernel)
set_option maxRecDepth 20000 in
theorem gX4_gatherPiece_X1_endOf : GoodIn wsX4_gatherPiece (wsV RX4 38 RX1 yX1_endOf wsX1_endOf) := goodIn_app (goodIn_of _ (by decide +kernel)) ggX4_gatherPiece_X1_endOf
set_option maxRecDepth 20000 in
theorem ggX4_gatherPiece_X1_soundAtOnce : GoodIn wsX4_gatherPiece wsX1_soundAtOnce := goodIn_r _ [15, 16, 17, 18, 19, 5, 20, 21, 35, 36, 37, 38, 39] (by decide +kernel) (by decide +kernel)
set_option maxRecDepth 20000 in
theorem gX4_gatherPiece_X1_soundAtOnce : GoodIn wsX4_gatherPiece (wsV RX4 41 RX1 yX1_soundAtOnce wsX1_soundAtOnce) := goodIn_app (goodIn_of _ (by decide +kernel)) ggX4_gatherPiece_X1_soundAtOnce
set_option maxRecDepth 20000 in
theorem ggX4_gatherPiece_X4_addPair : GoodIn wsX4_gatherPiece wsX4_addPair := goodIn_r _ [26, 27, 28, 29, 30, 31, 32, 33, 34, 40, 41, 42, 43, 44] (by decide +kernel) (by decide +kernel)
set_option maxRecDepth 20000 in
theorem gX4_gatherPiece_X4_addPair : GoodIn wsX4_gatherPiece (wsV RX4 48 RX4 yX4_addPair wsX4_addPair) := goodIn_app (goodIn_of _ (by decide +kernel)) ggX4_gatherPiece_X4_addPair
theorem dX4_gatherPiece_0 : decode cX4_gatherPiece 0 = .ok (.aload_n 1, 1) := by decide +kernel
theorem dX4_gatherPiece_1 : decode cX4_gatherPiece 1 = .ok (.iload_n 2, 1) := by decide +kernel
theorem dX4_gatherPiece_2 : decode cX4_gatherPiece 2 = .ok (.invokevirtual 32, 3) := by decide +kernel
theorem dX4_gatherPiece_5 : decode cX4_gatherPiece 5 = .ok (.istore_n 3, 1) := by decide +kernel
theorem dX4_gatherPiece_6 : decode cX4_gatherPiece 6 = .ok (.iload_n 3, 1) := by decide +kernel
theorem dX4_gatherPiece_7 : decode cX4_gatherPiece 7 = .ok (.aload_n 1, 1) := by decide +kernel
theorem dX4_gatherPiece_8 : decode cX4_gatherPiece 8 = .ok (.iload_n 2, 1) := by decide +kernel
theorem dX4_gatherPiece_9 : decode cX4_gatherPiece 9 = .ok (.invokevirtual 38, 3) := by decide +kernel
theorem dX4_gatherPiece_12 : decode cX4_gatherPiece 12 = .ok (.if_icmp .ge 55, 3) := by decide +kernel
theorem dX4_gatherPiece_15 : decode cX4_gatherPiece 15 = .ok (.aload_n 1, 1) := by decide +kernel
theorem dX4_gatherPiece_16 : decode cX4_gatherPiece 16 = .ok (.iload_n 2, 1) := by decide +kernel
theorem dX4_gatherPiece_17 : decode cX4_gatherPiece 17 = .ok (.invokevirtual 32, 3) := by decide +kernel
theorem dX4_gatherPiece_20 : decode cX4_gatherPiece 20 = .ok (.istore 4, 2) := by decide +kernel
theorem dX4_gatherPiece_22 : decode cX4_gatherPiece 22 = .ok (.iload 4, 2) := by decide +kernel
theorem dX4_gatherPiece_24 : decode cX4_gatherPiece 24 = .ok (.iload_n 3, 1) := by decide +kernel
theorem dX4_gatherPiece_25 : decode cX4_gatherPiece 25 = .ok (.if_icmp .ge 36, 3) := by decide +kernel
theorem dX4_gatherPiece_28 : decode cX4_gatherPiece 28 = .ok (.aload_n 1, 1) := by decide +kernel
theorem dX4_gatherPiece_29 : decode cX4_gatherPiece 29 = .ok (.iload 4, 2) := by decide +kernel
theorem dX4_gatherPiece_31 : decode cX4_gatherPiece 31 = .ok (.iload_n 3, 1) := by decide +kernel
theorem dX4_gatherPiece_32 : decode cX4_gatherPiece 32 = .ok (.invokevirtual 41, 3) := by decide +kernel
theorem dX4_gatherPiece_35 : decode cX4_gatherPiece 35 = .ok (.ifCond .eq 20, 3) := by decide +kernel
theorem dX4_gatherPiece_38 : decode cX4_gatherPiece 38 = .ok (.aload_n 0, 1) := by decide +kernel
theorem dX4_gatherPiece_39 : decode cX4_gatherPiece 39 = .ok (.aload_n 1, 1) := by decide +kernel
theorem dX4_gatherPiece_40 : decode cX4_gatherPiece 40 = .ok (.getfield 45, 3) := by decide +kernel
theorem dX4_gatherPiece_43 : decode cX4_gatherPiece 43 = .ok (.iload 4, 2) := by decide +kernel
theorem dX4_gatherPiece_45 : decode cX4_gatherPiece 45 = .ok (.iaload, 1) := by decide +kernel
theorem dX4_gatherPiece_46 : decode cX4_gatherPiece 46 = .ok (.aload_n 1, 1) := by decide +kernel
theorem dX4_gatherPiece_47 : decode cX4_gatherPiece 47 = .ok (.getfield 45, 3) := by decide +kernel
theorem dX4_gatherPiece_50 : decode cX4_gatherPiece 50 = .ok (.iload_n 3, 1) := by decide +kernel
theorem dX4_gatherPiece_51 : decode cX4_gatherPiece 51 = .ok (.iaload, 1) := by decide +kernel
theorem dX4_gatherPiece_52 : decode cX4_gatherPiece 52 = .ok (.invokevirtual 48, 3) := by decide +kernel
theorem dX4_gatherPiece_55 : decode cX4_gatherPiece 55 = .ok (.iinc 4 1, 3) := by decide +kernel
theorem dX4_gatherPiece_58 : decode cX4_gatherPiece 58 = .ok (.goto (-36), 3) := by decide +kernel
theorem dX4_gatherPiece_61 : decode cX4_gatherPiece 61 = .ok (.iinc 3 1, 3) := by decide +kernel
theorem dX4_gatherPiece_64 : decode cX4_gatherPiece 64 = .ok (.goto (-58), 3) := by decide +kernel
theorem dX4_gatherPiece_67 : decode cX4_gatherPiece 67 = .ok (.return_, 1) := by decide +kernel
theorem dX4_addPair_0 : decode cX4_addPair 0 = .ok (.iload_n 1, 1) := by decide +kernel
theorem dX4_addPair_1 : decode cX4_addPair 1 = .ok (.iload_n 2, 1) := by decide +kernel
theorem dX4_addPair_2 : decode cX4_addPair 2 = .ok (.if_icmp .eq 26, 3) := by decide +kernel
theorem dX4_addPair_5 : decode cX4_addPair 5 = .ok (.aload_n 0, 1) := by decide +kernel
theorem dX4_addPair_6 : decode cX4_addPair 6 = .ok (.getfield 9, 3) := by decide +kernel
theorem dX4_addPair_9 : decode cX4_addPair 9 = .ok (.iload_n 1, 1) := by decide +kernel
theorem dX4_addPair_10 : decode cX4_addPair 10 = .ok (.iload_n 2, 1) := by decide +kernel
theorem dX4_addPair_11 : decode cX4_addPair 11 = .ok (.invokestatic 52, 3) := by decide +kernel
theorem dX4_addPair_14 : decode cX4_addPair 14 = .ok (.bipush 24, 2) := by decide +kernel
theorem dX4_addPair_16 : decode cX4_addPair 16 = .ok (.imul, 1) := by decide +kernel
theorem dX4_addPair_17 : decode cX4_addPair 17 = .ok (.iload_n 1, 1) := by decide +kernel
theorem dX4_addPair_18 : decode cX4_addPair 18 = .ok (.iload_n 2, 1) := by decide +kernel
theorem dX4_addPair_19 : decode cX4_addPair 19 = .ok (.invokestatic 58, 3) := by decide +kernel
theorem dX4_addPair_22 : decode cX4_addPair 22 = .ok (.iadd, 1) := by decide +kernel
theorem dX4_addPair_23 : decode cX4_addPair 23 = .ok (.dup2, 1) := by decide +kernel
theorem dX4_addPair_24 : decode cX4_addPair 24 = .ok (.iaload, 1) := by decide +kernel
theorem dX4_addPair_25 : decode cX4_addPair 25 = .ok (.iconst 1, 1) := by decide +kernel
theorem dX4_addPair_26 : decode cX4_addPair 26 = .ok (.iadd, 1) := by decide +kernel
theorem dX4_addPair_27 : decode cX4_addPair 27 = .ok (.iastore, 1) := by decide +kernel
theorem dX4_addPair_28 : decode cX4_addPair 28 = .ok (.return_, 1) := by decide +kernel
set_option maxRecDepth 20000 in
theorem ggX4_clashesOf_X4_clashesBelow : GoodIn wsX4_clashesOf wsX4_clashesBelow := goodIn_r _ [5, 6, 7, 8, 9, 10, 11] (by decide +kernel) (by decide +kernel)
set_option maxRecDepth 20000 in
theorem gX4_clashesOf_X4_clashesBelow : GoodIn wsX4_clashesOf (wsV RX4 61 RX4 yX4_clashesBelow wsX4_clashesBelow) := goodIn_app (goodIn_of _ (by decide +kernel)) ggX4_clashesOf_X4_clashesBelow
theorem dX4_clashesOf_0 : decode cX4_clashesOf 0 = .ok (.iconst 0, 1) := by decide +kernel
theorem dX4_clashesOf_1 : decode cX4_clashesOf 1 = .ok (.istore_n 3, 1) := by decide +kernel
theorem dX4_clashesOf_2 : decode cX4_clashesOf 2 = .ok (.iload_n 1, 1) := by decide +kernel
theorem dX4_clashesOf_3 : decode cX4_clashesOf 3 = .ok (.iconst 1, 1) := by decide +kernel
theorem dX4_clashesOf_4 : decode cX4_clashesOf 4 = .ok (.iadd, 1) := by decide +kernel
theorem dX4_clashesOf_5 : decode cX4_clashesOf 5 = .ok (.istore 4, 2) := by decide +kernel
theorem dX4_clashesOf_7 : decode cX4_clashesOf 7 = .ok (.iload 4, 2) := by decide +kernel
theorem dX4_clashesOf_9 : decode cX4_clashesOf 9 = .ok (.iload_n 2, 1) := by decide +kernel
theorem dX4_clashesOf_10 : decode cX4_clashesOf 10 = .ok (.if_icmp .gt 19, 3) := by decide +kernel
theorem dX4_clashesOf_13 : decode cX4_clashesOf 13 = .ok (.iload_n 3, 1) := by decide +kernel
theorem dX4_clashesOf_14 : decode cX4_clashesOf 14 = .ok (.aload_n 0, 1) := by decide +kernel
theorem dX4_clashesOf_15 : decode cX4_clashesOf 15 = .ok (.iload_n 1, 1) := by decide +kernel
theorem dX4_clashesOf_16 : decode cX4_clashesOf 16 = .ok (.iload 4, 2) := by decide +kernel
theorem dX4_clashesOf_18 : decode cX4_clashesOf 18 = .ok (.invokevirtual 61, 3) := by decide +kernel
theorem dX4_clashesOf_21 : decode cX4_clashesOf 21 = .ok (.iadd, 1) := by decide +kernel
theorem dX4_clashesOf_22 : decode cX4_clashesOf 22 = .ok (.istore_n 3, 1) := by decide +kernel
theorem dX4_clashesOf_23 : decode cX4_clashesOf 23 = .ok (.iinc 4 1, 3) := by decide +kernel
theorem dX4_clashesOf_26 : decode cX4_clashesOf 26 = .ok (.goto (-19), 3) := by decide +kernel
theorem dX4_clashesOf_29 : decode cX4_clashesOf 29 = .ok (.iload_n 3, 1) := by decide +kernel
theorem dX4_clashesOf_30 : decode cX4_clashesOf 30 = .ok (.ireturn, 1) := by decide +kernel
theorem dX4_clashesBelow_0 : decode cX4_clashesBelow 0 = .ok (.iconst 0, 1) := by decide +kernel
theorem dX4_clashesBelow_1 : decode cX4_clashesBelow 1 = .ok (.istore_n 3, 1) := by decide +kernel
theorem dX4_clashesBelow_2 : decode cX4_clashesBelow 2 = .ok (.iload_n 1, 1) := by decide +kernel
theorem dX4_clashesBelow_3 : decode cX4_clashesBelow 3 = .ok (.istore 4, 2) := by decide +kernel
theorem dX4_clashesBelow_5 : decode cX4_clashesBelow 5 = .ok (.iload 4, 2) := by decide +kernel
theorem dX4_clashesBelow_7 : decode cX4_clashesBelow 7 = .ok (.iload_n 2, 1) := by decide +kernel
theorem dX4_clashesBelow_8 : decode cX4_clashesBelow 8 = .ok (.if_icmp .ge 24, 3) := by decide +kernel
theorem dX4_clashesBelow_11 : decode cX4_clashesBelow 11 = .ok (.iload_n 3, 1) := by decide +kernel
theorem dX4_clashesBelow_12 : decode cX4_clashesBelow 12 = .ok (.aload_n 0, 1) := by decide +kernel
theorem dX4_clashesBelow_13 : decode cX4_clashesBelow 13 = .ok (.getfield 9, 3) := by decide +kernel
theorem dX4_clashesBelow_16 : decode cX4_clashesBelow 16 = .ok (.iload 4, 2) := by decide +kernel
theorem dX4_clashesBelow_18 : decode cX4_clashesBelow 18 = .ok (.bipush 24, 2) := by decide +kernel
theorem dX4_clashesBelow_20 : decode cX4_clashesBelow 20 = .ok (.imul, 1) := by decide +kernel
theorem dX4_clashesBelow_21 : decode cX4_clashesBelow 21 = .ok (.iload_n 2, 1) := by decide +kernel
theorem dX4_clashesBelow_22 : decode cX4_clashesBelow 22 = .ok (.iadd, 1) := by decide +kernel
theorem dX4_clashesBelow_23 : decode cX4_clashesBelow 23 = .ok (.iaload, 1) := by decide +kernel
theorem dX4_clashesBelow_24 : decode cX4_clashesBelow 24 = .ok (.iadd, 1) := by decide +kernel
theorem dX4_clashesBelow_25 : decode cX4_clashesBelow 25 = .ok (.istore_n 3, 1) := by decide +kernel
theorem dX4_clashesBelow_26 : decode cX4_clashesBelow 26 = .ok (.iinc 4 1, 3) := by decide +kernel
theorem dX4_clashesBelow_29 : decode cX4_clashesBelow 29 = .ok (.goto (-24), 3) := by decide +kernel
theorem dX4_clashesBelow_32 : decode cX4_clashesBelow 32 = .ok (.iload_n 3, 1) := by decide +kernel
theorem dX4_clashesBelow_33 : decode cX4_clashesBelow 33 = .ok (.ireturn, 1) := by decide +kernel
set_option maxRecDepth 20000 in
theorem ggX4_solve_X4_leastFrom : GoodIn wsX4_solve wsX4_leastFrom := goodIn_r _ [9, 4, 1, 2, 3, 10, 11, 12, 13, 14, 15, 16, 8, 17, 18, 19, 20, 21, 22, 23] (by decide +kernel) (by decide +kernel)
set_option maxRecDepth 20000 in
theorem gX4_solve_X4_leastFrom : GoodIn wsX4_solve (wsV RX4 65 RX4 yX4_leastFrom wsX4_leastFrom) := goodIn_app (goodIn_of _ (by decide +kernel)) ggX4_solve_X4_leastFrom
theorem dX4_solve_0 : decode cX4_solve 0 = .ok (.aload_n 0, 1) := by decide +kernel
theorem dX4_solve_1 : decode cX4_solve 1 = .ok (.iload_n 1, 1) := by decide +kernel
theorem dX4_solve_2 : decode cX4_solve 2 = .ok (.putfield 21, 3) := by decide +kernel
theorem dX4_solve_5 : decode cX4_solve 5 = .ok (.aload_n 0, 1) := by decide +kernel
theorem dX4_solve_6 : decode cX4_solve 6 = .ok (.iload_n 2, 1) := by decide +kernel
theorem dX4_solve_7 : decode cX4_solve 7 = .ok (.putfield 25, 3) := by decide +kernel
theorem dX4_solve_10 : decode cX4_solve 10 = .ok (.iconst 0, 1) := by decide +kernel
theorem dX4_solve_11 : decode cX4_solve 11 = .ok (.istore_n 3, 1) := by decide +kernel
theorem dX4_solve_12 : decode cX4_solve 12 = .ok (.iload_n 3, 1) := by decide +kernel
theorem dX4_solve_13 : decode cX4_solve 13 = .ok (.aload_n 0, 1) := by decide +kernel
theorem dX4_solve_14 : decode cX4_solve 14 = .ok (.getfield 21, 3) := by decide +kernel
theorem dX4_solve_17 : decode cX4_solve 17 = .ok (.if_icmp .ge 17, 3) := by decide +kernel
theorem dX4_solve_20 : decode cX4_solve 20 = .ok (.aload_n 0, 1) := by decide +kernel
theorem dX4_solve_21 : decode cX4_solve 21 = .ok (.getfield 15, 3) := by decide +kernel
theorem dX4_solve_24 : decode cX4_solve 24 = .ok (.iload_n 3, 1) := by decide +kernel
theorem dX4_solve_25 : decode cX4_solve 25 = .ok (.ldc 64, 2) := by decide +kernel
theorem dX4_solve_27 : decode cX4_solve 27 = .ok (.iastore, 1) := by decide +kernel
theorem dX4_solve_28 : decode cX4_solve 28 = .ok (.iinc 3 1, 3) := by decide +kernel
theorem dX4_solve_31 : decode cX4_solve 31 = .ok (.goto (-19), 3) := by decide +kernel
theorem dX4_solve_34 : decode cX4_solve 34 = .ok (.aload_n 0, 1) := by decide +kernel
theorem dX4_solve_35 : decode cX4_solve 35 = .ok (.getfield 15, 3) := by decide +kernel
theorem dX4_solve_38 : decode cX4_solve 38 = .ok (.aload_n 0, 1) := by decide +kernel
theorem dX4_solve_39 : decode cX4_solve 39 = .ok (.getfield 21, 3) := by decide +kernel
theorem dX4_solve_42 : decode cX4_solve 42 = .ok (.iconst 0, 1) := by decide +kernel
theorem dX4_solve_43 : decode cX4_solve 43 = .ok (.iastore, 1) := by decide +kernel
theorem dX4_solve_44 : decode cX4_solve 44 = .ok (.iconst 1, 1) := by decide +kernel
theorem dX4_solve_45 : decode cX4_solve 45 = .ok (.istore_n 3, 1) := by decide +kernel
theorem dX4_solve_46 : decode cX4_solve 46 = .ok (.iload_n 3, 1) := by decide +kernel
theorem dX4_solve_47 : decode cX4_solve 47 = .ok (.aload_n 0, 1) := by decide +kernel
theorem dX4_solve_48 : decode cX4_solve 48 = .ok (.getfield 21, 3) := by decide +kernel
theorem dX4_solve_51 : decode cX4_solve 51 = .ok (.if_icmp .gt 62, 3) := by decide +kernel
theorem dX4_solve_54 : decode cX4_solve 54 = .ok (.aload_n 0, 1) := by decide +kernel
theorem dX4_solve_55 : decode cX4_solve 55 = .ok (.getfield 15, 3) := by decide +kernel
theorem dX4_solve_58 : decode cX4_solve 58 = .ok (.iload_n 3, 1) := by decide +kernel
theorem dX4_solve_59 : decode cX4_solve 59 = .ok (.bipush 25, 2) := by decide +kernel
theorem dX4_solve_61 : decode cX4_solve 61 = .ok (.imul, 1) := by decide +kernel
theorem dX4_solve_62 : decode cX4_solve 62 = .ok (.aload_n 0, 1) := by decide +kernel
theorem dX4_solve_63 : decode cX4_solve 63 = .ok (.getfield 21, 3) := by decide +kernel
theorem dX4_solve_66 : decode cX4_solve 66 = .ok (.iadd, 1) := by decide +kernel
theorem dX4_solve_67 : decode cX4_solve 67 = .ok (.ldc 64, 2) := by decide +kernel
theorem dX4_solve_69 : decode cX4_solve 69 = .ok (.iastore, 1) := by decide +kernel
theorem dX4_solve_70 : decode cX4_solve 70 = .ok (.iconst 0, 1) := by decide +kernel
theorem dX4_solve_71 : decode cX4_solve 71 = .ok (.istore 4, 2) := by decide +kernel
theorem dX4_solve_73 : decode cX4_solve 73 = .ok (.iload 4, 2) := by decide +kernel
theorem dX4_solve_75 : decode cX4_solve 75 = .ok (.aload_n 0, 1) := by decide +kernel
theorem dX4_solve_76 : decode cX4_solve 76 = .ok (.getfield 21, 3) := by decide +kernel
theorem dX4_solve_79 : decode cX4_solve 79 = .ok (.if_icmp .ge 28, 3) := by decide +kernel
theorem dX4_solve_82 : decode cX4_solve 82 = .ok (.aload_n 0, 1) := by decide +kernel
theorem dX4_solve_83 : decode cX4_solve 83 = .ok (.getfield 15, 3) := by decide +kernel
theorem dX4_solve_86 : decode cX4_solve 86 = .ok (.iload_n 3, 1) := by decide +kernel
theorem dX4_solve_87 : decode cX4_solve 87 = .ok (.bipush 25, 2) := by decide +kernel
theorem dX4_solve_89 : decode cX4_solve 89 = .ok (.imul, 1) := by decide +kernel
theorem dX4_solve_90 : decode cX4_solve 90 = .ok (.iload 4, 2) := by decide +kernel
theorem dX4_solve_92 : decode cX4_solve 92 = .ok (.iadd, 1) := by decide +kernel
theorem dX4_solve_93 : decode cX4_solve 93 = .ok (.aload_n 0, 1) := by decide +kernel
theorem dX4_solve_94 : decode cX4_solve 94 = .ok (.iload_n 3, 1) := by decide +kernel
theorem dX4_solve_95 : decode cX4_solve 95 = .ok (.iload 4, 2) := by decide +kernel
theorem dX4_solve_97 : decode cX4_solve 97 = .ok (.invokevirtual 65, 3) := by decide +kernel
theorem dX4_solve_100 : decode cX4_solve 100 = .ok (.iastore, 1) := by decide +kernel
theorem dX4_solve_101 : decode cX4_solve 101 = .ok (.iinc 4 1, 3) := by decide +kernel
theorem dX4_solve_104 : decode cX4_solve 104 = .ok (.goto (-31), 3) := by decide +kernel
theorem dX4_solve_107 : decode cX4_solve 107 = .ok (.iinc 3 1, 3) := by decide +kernel
theorem dX4_solve_110 : decode cX4_solve 110 = .ok (.goto (-64), 3) := by decide +kernel
theorem dX4_solve_113 : decode cX4_solve 113 = .ok (.return_, 1) := by decide +kernel
set_option maxRecDepth 20000 in
theorem ggX4_leastFrom_X4_clashesBelow : GoodIn wsX4_leastFrom wsX4_clashesBelow := goodIn_r _ [13, 14, 15, 16, 17, 18, 19] (by decide +kernel) (by decide +kernel)
set_option maxRecDepth 20000 in
theorem gX4_leastFrom_X4_clashesBelow : GoodIn wsX4_leastFrom (wsV RX4 61 RX4 yX4_clashesBelow wsX4_clashesBelow) := goodIn_app (goodIn_of _ (by decide +kernel)) ggX4_leastFrom_X4_clashesBelow
theorem dX4_leastFrom_0 : decode cX4_leastFrom 0 = .ok (.ldc 64, 2) := by decide +kernel
theorem dX4_leastFrom_2 : decode cX4_leastFrom 2 = .ok (.istore_n 3, 1) := by decide +kernel
theorem dX4_leastFrom_3 : decode cX4_leastFrom 3 = .ok (.iconst 0, 1) := by decide +kernel
theorem dX4_leastFrom_4 : decode cX4_leastFrom 4 = .ok (.istore 4, 2) := by decide +kernel
theorem dX4_leastFrom_6 : decode cX4_leastFrom 6 = .ok (.iload_n 2, 1) := by decide +kernel
theorem dX4_leastFrom_7 : decode cX4_leastFrom 7 = .ok (.iconst 1, 1) := by decide +kernel
theorem dX4_leastFrom_8 : decode cX4_leastFrom 8 = .ok (.iadd, 1) := by decide +kernel
theorem dX4_leastFrom_9 : decode cX4_leastFrom 9 = .ok (.istore 5, 2) := by decide +kernel
theorem dX4_leastFrom_11 : decode cX4_leastFrom 11 = .ok (.iload 5, 2) := by decide +kernel
theorem dX4_leastFrom_13 : decode cX4_leastFrom 13 = .ok (.aload_n 0, 1) := by decide +kernel
theorem dX4_leastFrom_14 : decode cX4_leastFrom 14 = .ok (.getfield 21, 3) := by decide +kernel
theorem dX4_leastFrom_17 : decode cX4_leastFrom 17 = .ok (.if_icmp .gt 56, 3) := by decide +kernel
theorem dX4_leastFrom_20 : decode cX4_leastFrom 20 = .ok (.iload 5, 2) := by decide +kernel
theorem dX4_leastFrom_22 : decode cX4_leastFrom 22 = .ok (.iload_n 2, 1) := by decide +kernel
theorem dX4_leastFrom_23 : decode cX4_leastFrom 23 = .ok (.aload_n 0, 1) := by decide +kernel
theorem dX4_leastFrom_24 : decode cX4_leastFrom 24 = .ok (.getfield 25, 3) := by decide +kernel
theorem dX4_leastFrom_27 : decode cX4_leastFrom 27 = .ok (.iadd, 1) := by decide +kernel
theorem dX4_leastFrom_28 : decode cX4_leastFrom 28 = .ok (.if_icmp .gt 45, 3) := by decide +kernel
theorem dX4_leastFrom_31 : decode cX4_leastFrom 31 = .ok (.iload 4, 2) := by decide +kernel
theorem dX4_leastFrom_33 : decode cX4_leastFrom 33 = .ok (.aload_n 0, 1) := by decide +kernel
theorem dX4_leastFrom_34 : decode cX4_leastFrom 34 = .ok (.iload_n 2, 1) := by decide +kernel
theorem dX4_leastFrom_35 : decode cX4_leastFrom 35 = .ok (.iload 5, 2) := by decide +kernel
theorem dX4_leastFrom_37 : decode cX4_leastFrom 37 = .ok (.iconst 1, 1) := by decide +kernel
theorem dX4_leastFrom_38 : decode cX4_leastFrom 38 = .ok (.isub, 1) := by decide +kernel
theorem dX4_leastFrom_39 : decode cX4_leastFrom 39 = .ok (.invokevirtual 61, 3) := by decide +kernel
theorem dX4_leastFrom_42 : decode cX4_leastFrom 42 = .ok (.iadd, 1) := by decide +kernel
theorem dX4_leastFrom_43 : decode cX4_leastFrom 43 = .ok (.istore 4, 2) := by decide +kernel
theorem dX4_leastFrom_45 : decode cX4_leastFrom 45 = .ok (.iload_n 3, 1) := by decide +kernel
theorem dX4_leastFrom_46 : decode cX4_leastFrom 46 = .ok (.iload 4, 2) := by decide +kernel
theorem dX4_leastFrom_48 : decode cX4_leastFrom 48 = .ok (.aload_n 0, 1) := by decide +kernel
theorem dX4_leastFrom_49 : decode cX4_leastFrom 49 = .ok (.getfield 15, 3) := by decide +kernel
theorem dX4_leastFrom_52 : decode cX4_leastFrom 52 = .ok (.iload_n 1, 1) := by decide +kernel
theorem dX4_leastFrom_53 : decode cX4_leastFrom 53 = .ok (.iconst 1, 1) := by decide +kernel
theorem dX4_leastFrom_54 : decode cX4_leastFrom 54 = .ok (.isub, 1) := by decide +kernel
theorem dX4_leastFrom_55 : decode cX4_leastFrom 55 = .ok (.bipush 25, 2) := by decide +kernel
theorem dX4_leastFrom_57 : decode cX4_leastFrom 57 = .ok (.imul, 1) := by decide +kernel
theorem dX4_leastFrom_58 : decode cX4_leastFrom 58 = .ok (.iload 5, 2) := by decide +kernel
theorem dX4_leastFrom_60 : decode cX4_leastFrom 60 = .ok (.iadd, 1) := by decide +kernel
theorem dX4_leastFrom_61 : decode cX4_leastFrom 61 = .ok (.iaload, 1) := by decide +kernel
theorem dX4_leastFrom_62 : decode cX4_leastFrom 62 = .ok (.iadd, 1) := by decide +kernel
theorem dX4_leastFrom_63 : decode cX4_leastFrom 63 = .ok (.invokestatic 52, 3) := by decide +kernel
theorem dX4_leastFrom_66 : decode cX4_leastFrom 66 = .ok (.istore_n 3, 1) := by decide +kernel
theorem dX4_leastFrom_67 : decode cX4_leastFrom 67 = .ok (.iinc 5 1, 3) := by decide +kernel
theorem dX4_leastFrom_70 : decode cX4_leastFrom 70 = .ok (.goto (-59), 3) := by decide +kernel
theorem dX4_leastFrom_73 : decode cX4_leastFrom 73 = .ok (.iload_n 3, 1) := by decide +kernel
theorem dX4_leastFrom_74 : decode cX4_leastFrom 74 = .ok (.ireturn, 1) := by decide +kernel
theorem dX4_leastWith_0 : decode cX4_leastWith 0 = .ok (.aload_n 0, 1) := by decide +kernel
theorem dX4_leastWith_1 : decode cX4_leastWith 1 = .ok (.getfield 15, 3) := by decide +kernel
theorem dX4_leastWith_4 : decode cX4_leastWith 4 = .ok (.iload_n 1, 1) := by decide +kernel
theorem dX4_leastWith_5 : decode cX4_leastWith 5 = .ok (.bipush 25, 2) := by decide +kernel
theorem dX4_leastWith_7 : decode cX4_leastWith 7 = .ok (.imul, 1) := by decide +kernel
theorem dX4_leastWith_8 : decode cX4_leastWith 8 = .ok (.iaload, 1) := by decide +kernel
theorem dX4_leastWith_9 : decode cX4_leastWith 9 = .ok (.ireturn, 1) := by decide +kernel
set_option maxRecDepth 20000 in
theorem ggX4_fewestStrings_X4_leastWith : GoodIn wsX4_fewestStrings wsX4_leastWith := goodIn_r _ [6, 7, 8, 9, 10, 11, 12] (by decide +kernel) (by decide +kernel)
set_option maxRecDepth 20000 in
theorem gX4_fewestStrings_X4_leastWith : GoodIn wsX4_fewestStrings (wsV RX4 68 RX4 yX4_leastWith wsX4_leastWith) := goodIn_app (goodIn_of _ (by decide +kernel)) ggX4_fewestStrings_X4_leastWith
theorem dX4_fewestStrings_0 : decode cX4_fewestStrings 0 = .ok (.iconst 1, 1) := by decide +kernel
theorem dX4_fewestStrings_1 : decode cX4_fewestStrings 1 = .ok (.istore_n 1, 1) := by decide +kernel
theorem dX4_fewestStrings_2 : decode cX4_fewestStrings 2 = .ok (.iload_n 1, 1) := by decide +kernel
theorem dX4_fewestStrings_3 : decode cX4_fewestStrings 3 = .ok (.aload_n 0, 1) := by decide +kernel
theorem dX4_fewestStrings_4 : decode cX4_fewestStrings 4 = .ok (.getfield 21, 3) := by decide +kernel
theorem dX4_fewestStrings_7 : decode cX4_fewestStrings 7 = .ok (.if_icmp .ge 19, 3) := by decide +kernel
theorem dX4_fewestStrings_10 : decode cX4_fewestStrings 10 = .ok (.aload_n 0, 1) := by decide +kernel
theorem dX4_fewestStrings_11 : decode cX4_fewestStrings 11 = .ok (.iload_n 1, 1) := by decide +kernel
theorem dX4_fewestStrings_12 : decode cX4_fewestStrings 12 = .ok (.invokevirtual 68, 3) := by decide +kernel
theorem dX4_fewestStrings_15 : decode cX4_fewestStrings 15 = .ok (.ifCond .ne 5, 3) := by decide +kernel
theorem dX4_fewestStrings_18 : decode cX4_fewestStrings 18 = .ok (.iload_n 1, 1) := by decide +kernel
theorem dX4_fewestStrings_19 : decode cX4_fewestStrings 19 = .ok (.ireturn, 1) := by decide +kernel
theorem dX4_fewestStrings_20 : decode cX4_fewestStrings 20 = .ok (.iinc 1 1, 3) := by decide +kernel
theorem dX4_fewestStrings_23 : decode cX4_fewestStrings 23 = .ok (.goto (-21), 3) := by decide +kernel
theorem dX4_fewestStrings_26 : decode cX4_fewestStrings 26 = .ok (.aload_n 0, 1) := by decide +kernel
theorem dX4_fewestStrings_27 : decode cX4_fewestStrings 27 = .ok (.getfield 21, 3) := by decide +kernel
theorem dX4_fewestStrings_30 : decode cX4_fewestStrings 30 = .ok (.ireturn, 1) := by decide +kernel
set_option maxRecDepth 20000 in
theorem ggX4_bestStrings_X4_leastWith : GoodIn wsX4_bestStrings wsX4_leastWith := goodIn_r _ [8, 9, 10, 11, 12, 13, 14] (by decide +kernel) (by decide +kernel)
set_option maxRecDepth 20000 in
theorem gX4_bestStrings_X4_leastWith : GoodIn wsX4_bestStrings (wsV RX4 68 RX4 yX4_leastWith wsX4_leastWith) := goodIn_app (goodIn_of _ (by decide +kernel)) ggX4_bestStrings_X4_leastWith
theorem dX4_bestStrings_0 : decode cX4_bestStrings 0 = .ok (.ldc 71, 2) := by decide +kernel
theorem dX4_bestStrings_2 : decode cX4_bestStrings 2 = .ok (.istore_n 2, 1) := by decide +kernel
theorem dX4_bestStrings_3 : decode cX4_bestStrings 3 = .ok (.ldc 64, 2) := by decide +kernel
theorem dX4_bestStrings_5 : decode cX4_bestStrings 5 = .ok (.istore_n 3, 1) := by decide +kernel
theorem dX4_bestStrings_6 : decode cX4_bestStrings 6 = .ok (.iconst 1, 1) := by decide +kernel
theorem dX4_bestStrings_7 : decode cX4_bestStrings 7 = .ok (.istore 4, 2) := by decide +kernel
theorem dX4_bestStrings_9 : decode cX4_bestStrings 9 = .ok (.iload 4, 2) := by decide +kernel
theorem dX4_bestStrings_11 : decode cX4_bestStrings 11 = .ok (.iload_n 1, 1) := by decide +kernel
theorem dX4_bestStrings_12 : decode cX4_bestStrings 12 = .ok (.if_icmp .gt 38, 3) := by decide +kernel
theorem dX4_bestStrings_15 : decode cX4_bestStrings 15 = .ok (.iload 4, 2) := by decide +kernel
theorem dX4_bestStrings_17 : decode cX4_bestStrings 17 = .ok (.aload_n 0, 1) := by decide +kernel
theorem dX4_bestStrings_18 : decode cX4_bestStrings 18 = .ok (.getfield 21, 3) := by decide +kernel
theorem dX4_bestStrings_21 : decode cX4_bestStrings 21 = .ok (.if_icmp .gt 29, 3) := by decide +kernel
theorem dX4_bestStrings_24 : decode cX4_bestStrings 24 = .ok (.aload_n 0, 1) := by decide +kernel
theorem dX4_bestStrings_25 : decode cX4_bestStrings 25 = .ok (.iload 4, 2) := by decide +kernel
theorem dX4_bestStrings_27 : decode cX4_bestStrings 27 = .ok (.invokevirtual 68, 3) := by decide +kernel
theorem dX4_bestStrings_30 : decode cX4_bestStrings 30 = .ok (.iload_n 3, 1) := by decide +kernel
theorem dX4_bestStrings_31 : decode cX4_bestStrings 31 = .ok (.if_icmp .ge 13, 3) := by decide +kernel
theorem dX4_bestStrings_34 : decode cX4_bestStrings 34 = .ok (.aload_n 0, 1) := by decide +kernel
theorem dX4_bestStrings_35 : decode cX4_bestStrings 35 = .ok (.iload 4, 2) := by decide +kernel
theorem dX4_bestStrings_37 : decode cX4_bestStrings 37 = .ok (.invokevirtual 68, 3) := by decide +kernel
theorem dX4_bestStrings_40 : decode cX4_bestStrings 40 = .ok (.istore_n 3, 1) := by decide +kernel
theorem dX4_bestStrings_41 : decode cX4_bestStrings 41 = .ok (.iload 4, 2) := by decide +kernel
theorem dX4_bestStrings_43 : decode cX4_bestStrings 43 = .ok (.istore_n 2, 1) := by decide +kernel
theorem dX4_bestStrings_44 : decode cX4_bestStrings 44 = .ok (.iinc 4 1, 3) := by decide +kernel
theorem dX4_bestStrings_47 : decode cX4_bestStrings 47 = .ok (.goto (-38), 3) := by decide +kernel
theorem dX4_bestStrings_50 : decode cX4_bestStrings 50 = .ok (.iload_n 2, 1) := by decide +kernel
theorem dX4_bestStrings_51 : decode cX4_bestStrings 51 = .ok (.ireturn, 1) := by decide +kernel
set_option maxRecDepth 20000 in
theorem ggX4_layOut_X4_greatestGroupEnd : GoodIn wsX4_layOut wsX4_greatestGroupEnd := goodIn_r _ [6, 7, 8, 9, 10, 11, 12, 5, 13, 14, 15, 16, 17, 18, 19] (by decide +kernel) (by decide +kernel)
set_option maxRecDepth 20000 in
theorem gX4_layOut_X4_greatestGroupEnd : GoodIn wsX4_layOut (wsV RX4 72 RX4 yX4_greatestGroupEnd wsX4_greatestGroupEnd) := goodIn_app (goodIn_of _ (by decide +kernel)) ggX4_layOut_X4_greatestGroupEnd
theorem dX4_layOut_0 : decode cX4_layOut 0 = .ok (.iconst 0, 1) := by decide +kernel
theorem dX4_layOut_1 : decode cX4_layOut 1 = .ok (.istore_n 2, 1) := by decide +kernel
theorem dX4_layOut_2 : decode cX4_layOut 2 = .ok (.iconst 0, 1) := by decide +kernel
theorem dX4_layOut_3 : decode cX4_layOut 3 = .ok (.istore_n 3, 1) := by decide +kernel
theorem dX4_layOut_4 : decode cX4_layOut 4 = .ok (.iload_n 3, 1) := by decide +kernel
theorem dX4_layOut_5 : decode cX4_layOut 5 = .ok (.iload_n 1, 1) := by decide +kernel
theorem dX4_layOut_6 : decode cX4_layOut 6 = .ok (.if_icmp .ge 46, 3) := by decide +kernel
theorem dX4_layOut_9 : decode cX4_layOut 9 = .ok (.aload_n 0, 1) := by decide +kernel
theorem dX4_layOut_10 : decode cX4_layOut 10 = .ok (.iload_n 1, 1) := by decide +kernel
theorem dX4_layOut_11 : decode cX4_layOut 11 = .ok (.iload_n 3, 1) := by decide +kernel
theorem dX4_layOut_12 : decode cX4_layOut 12 = .ok (.isub, 1) := by decide +kernel
theorem dX4_layOut_13 : decode cX4_layOut 13 = .ok (.iload_n 2, 1) := by decide +kernel
theorem dX4_layOut_14 : decode cX4_layOut 14 = .ok (.invokevirtual 72, 3) := by decide +kernel
theorem dX4_layOut_17 : decode cX4_layOut 17 = .ok (.istore 4, 2) := by decide +kernel
theorem dX4_layOut_19 : decode cX4_layOut 19 = .ok (.iload_n 2, 1) := by decide +kernel
theorem dX4_layOut_20 : decode cX4_layOut 20 = .ok (.istore 5, 2) := by decide +kernel
theorem dX4_layOut_22 : decode cX4_layOut 22 = .ok (.iload 5, 2) := by decide +kernel
theorem dX4_layOut_24 : decode cX4_layOut 24 = .ok (.iload 4, 2) := by decide +kernel
theorem dX4_layOut_26 : decode cX4_layOut 26 = .ok (.if_icmp .ge 17, 3) := by decide +kernel
theorem dX4_layOut_29 : decode cX4_layOut 29 = .ok (.aload_n 0, 1) := by decide +kernel
theorem dX4_layOut_30 : decode cX4_layOut 30 = .ok (.getfield 18, 3) := by decide +kernel
theorem dX4_layOut_33 : decode cX4_layOut 33 = .ok (.iload 5, 2) := by decide +kernel
theorem dX4_layOut_35 : decode cX4_layOut 35 = .ok (.iload_n 3, 1) := by decide +kernel
theorem dX4_layOut_36 : decode cX4_layOut 36 = .ok (.iastore, 1) := by decide +kernel
theorem dX4_layOut_37 : decode cX4_layOut 37 = .ok (.iinc 5 1, 3) := by decide +kernel
theorem dX4_layOut_40 : decode cX4_layOut 40 = .ok (.goto (-18), 3) := by decide +kernel
theorem dX4_layOut_43 : decode cX4_layOut 43 = .ok (.iload 4, 2) := by decide +kernel
theorem dX4_layOut_45 : decode cX4_layOut 45 = .ok (.istore_n 2, 1) := by decide +kernel
theorem dX4_layOut_46 : decode cX4_layOut 46 = .ok (.iinc 3 1, 3) := by decide +kernel
theorem dX4_layOut_49 : decode cX4_layOut 49 = .ok (.goto (-45), 3) := by decide +kernel
theorem dX4_layOut_52 : decode cX4_layOut 52 = .ok (.return_, 1) := by decide +kernel
set_option maxRecDepth 20000 in
theorem ggX4_greatestGroupEnd_X4_clashesBelow : GoodIn wsX4_greatestGroupEnd wsX4_clashesBelow := goodIn_r _ [8, 9, 10, 11, 12, 13, 14] (by decide +kernel) (by decide +kernel)
set_option maxRecDepth 20000 in
theorem gX4_greatestGroupEnd_X4_clashesBelow : GoodIn wsX4_greatestGroupEnd (wsV RX4 61 RX4 yX4_clashesBelow wsX4_clashesBelow) := goodIn_app (goodIn_of _ (by decide +kernel)) ggX4_greatestGroupEnd_X4_clashesBelow
theorem dX4_greatestGroupEnd_0 : decode cX4_greatestGroupEnd 0 = .ok (.iload_n 2, 1) := by decide +kernel
theorem dX4_greatestGroupEnd_1 : decode cX4_greatestGroupEnd 1 = .ok (.istore_n 3, 1) := by decide +kernel
theorem dX4_greatestGroupEnd_2 : decode cX4_greatestGroupEnd 2 = .ok (.iconst 0, 1) := by decide +kernel
theorem dX4_greatestGroupEnd_3 : decode cX4_greatestGroupEnd 3 = .ok (.istore 4, 2) := by decide +kernel
theorem dX4_greatestGroupEnd_5 : decode cX4_greatestGroupEnd 5 = .ok (.iload_n 2, 1) := by decide +kernel
theorem dX4_greatestGroupEnd_6 : decode cX4_greatestGroupEnd 6 = .ok (.iconst 1, 1) := by decide +kernel
theorem dX4_greatestGroupEnd_7 : decode cX4_greatestGroupEnd 7 = .ok (.iadd, 1) := by decide +kernel
theorem dX4_greatestGroupEnd_8 : decode cX4_greatestGroupEnd 8 = .ok (.istore 5, 2) := by decide +kernel
theorem dX4_greatestGroupEnd_10 : decode cX4_greatestGroupEnd 10 = .ok (.iload 5, 2) := by decide +kernel
theorem dX4_greatestGroupEnd_12 : decode cX4_greatestGroupEnd 12 = .ok (.aload_n 0, 1) := by decide +kernel
theorem dX4_greatestGroupEnd_13 : decode cX4_greatestGroupEnd 13 = .ok (.getfield 21, 3) := by decide +kernel
theorem dX4_greatestGroupEnd_16 : decode cX4_greatestGroupEnd 16 = .ok (.if_icmp .gt 72, 3) := by decide +kernel
theorem dX4_greatestGroupEnd_19 : decode cX4_greatestGroupEnd 19 = .ok (.iload 5, 2) := by decide +kernel
theorem dX4_greatestGroupEnd_21 : decode cX4_greatestGroupEnd 21 = .ok (.iload_n 2, 1) := by decide +kernel
theorem dX4_greatestGroupEnd_22 : decode cX4_greatestGroupEnd 22 = .ok (.aload_n 0, 1) := by decide +kernel
theorem dX4_greatestGroupEnd_23 : decode cX4_greatestGroupEnd 23 = .ok (.getfield 25, 3) := by decide +kernel
theorem dX4_greatestGroupEnd_26 : decode cX4_greatestGroupEnd 26 = .ok (.iadd, 1) := by decide +kernel
theorem dX4_greatestGroupEnd_27 : decode cX4_greatestGroupEnd 27 = .ok (.if_icmp .gt 61, 3) := by decide +kernel
theorem dX4_greatestGroupEnd_30 : decode cX4_greatestGroupEnd 30 = .ok (.iload 4, 2) := by decide +kernel
theorem dX4_greatestGroupEnd_32 : decode cX4_greatestGroupEnd 32 = .ok (.aload_n 0, 1) := by decide +kernel
theorem dX4_greatestGroupEnd_33 : decode cX4_greatestGroupEnd 33 = .ok (.iload_n 2, 1) := by decide +kernel
theorem dX4_greatestGroupEnd_34 : decode cX4_greatestGroupEnd 34 = .ok (.iload 5, 2) := by decide +kernel
theorem dX4_greatestGroupEnd_36 : decode cX4_greatestGroupEnd 36 = .ok (.iconst 1, 1) := by decide +kernel
theorem dX4_greatestGroupEnd_37 : decode cX4_greatestGroupEnd 37 = .ok (.isub, 1) := by decide +kernel
theorem dX4_greatestGroupEnd_38 : decode cX4_greatestGroupEnd 38 = .ok (.invokevirtual 61, 3) := by decide +kernel
theorem dX4_greatestGroupEnd_41 : decode cX4_greatestGroupEnd 41 = .ok (.iadd, 1) := by decide +kernel
theorem dX4_greatestGroupEnd_42 : decode cX4_greatestGroupEnd 42 = .ok (.istore 4, 2) := by decide +kernel
theorem dX4_greatestGroupEnd_44 : decode cX4_greatestGroupEnd 44 = .ok (.iload 4, 2) := by decide +kernel
theorem dX4_greatestGroupEnd_46 : decode cX4_greatestGroupEnd 46 = .ok (.aload_n 0, 1) := by decide +kernel
theorem dX4_greatestGroupEnd_47 : decode cX4_greatestGroupEnd 47 = .ok (.getfield 15, 3) := by decide +kernel
theorem dX4_greatestGroupEnd_50 : decode cX4_greatestGroupEnd 50 = .ok (.iload_n 1, 1) := by decide +kernel
theorem dX4_greatestGroupEnd_51 : decode cX4_greatestGroupEnd 51 = .ok (.iconst 1, 1) := by decide +kernel
theorem dX4_greatestGroupEnd_52 : decode cX4_greatestGroupEnd 52 = .ok (.isub, 1) := by decide +kernel
theorem dX4_greatestGroupEnd_53 : decode cX4_greatestGroupEnd 53 = .ok (.bipush 25, 2) := by decide +kernel
theorem dX4_greatestGroupEnd_55 : decode cX4_greatestGroupEnd 55 = .ok (.imul, 1) := by decide +kernel
theorem dX4_greatestGroupEnd_56 : decode cX4_greatestGroupEnd 56 = .ok (.iload 5, 2) := by decide +kernel
theorem dX4_greatestGroupEnd_58 : decode cX4_greatestGroupEnd 58 = .ok (.iadd, 1) := by decide +kernel
theorem dX4_greatestGroupEnd_59 : decode cX4_greatestGroupEnd 59 = .ok (.iaload, 1) := by decide +kernel
theorem dX4_greatestGroupEnd_60 : decode cX4_greatestGroupEnd 60 = .ok (.iadd, 1) := by decide +kernel
theorem dX4_greatestGroupEnd_61 : decode cX4_greatestGroupEnd 61 = .ok (.istore 6, 2) := by decide +kernel
theorem dX4_greatestGroupEnd_63 : decode cX4_greatestGroupEnd 63 = .ok (.iload 6, 2) := by decide +kernel
theorem dX4_greatestGroupEnd_65 : decode cX4_greatestGroupEnd 65 = .ok (.aload_n 0, 1) := by decide +kernel
theorem dX4_greatestGroupEnd_66 : decode cX4_greatestGroupEnd 66 = .ok (.getfield 15, 3) := by decide +kernel
theorem dX4_greatestGroupEnd_69 : decode cX4_greatestGroupEnd 69 = .ok (.iload_n 1, 1) := by decide +kernel
theorem dX4_greatestGroupEnd_70 : decode cX4_greatestGroupEnd 70 = .ok (.bipush 25, 2) := by decide +kernel
theorem dX4_greatestGroupEnd_72 : decode cX4_greatestGroupEnd 72 = .ok (.imul, 1) := by decide +kernel
theorem dX4_greatestGroupEnd_73 : decode cX4_greatestGroupEnd 73 = .ok (.iload_n 2, 1) := by decide +kernel
theorem dX4_greatestGroupEnd_74 : decode cX4_greatestGroupEnd 74 = .ok (.iadd, 1) := by decide +kernel
theorem dX4_greatestGroupEnd_75 : decode cX4_greatestGroupEnd 75 = .ok (.iaload, 1) := by decide +kernel
theorem dX4_greatestGroupEnd_76 : decode cX4_greatestGroupEnd 76 = .ok (.if_icmp .ne 6, 3) := by decide +kernel
theorem dX4_greatestGroupEnd_79 : decode cX4_greatestGroupEnd 79 = .ok (.iload 5, 2) := by decide +kernel
theorem dX4_greatestGroupEnd_81 : decode cX4_greatestGroupEnd 81 = .ok (.istore_n 3, 1) := by decide +kernel
theorem dX4_greatestGroupEnd_82 : decode cX4_greatestGroupEnd 82 = .ok (.iinc 5 1, 3) := by decide +kernel
theorem dX4_greatestGroupEnd_85 : decode cX4_greatestGroupEnd 85 = .ok (.goto (-75), 3) := by decide +kernel
theorem dX4_greatestGroupEnd_88 : decode cX4_greatestGroupEnd 88 = .ok (.iload_n 3, 1) := by decide +kernel
theorem dX4_greatestGroupEnd_89 : decode cX4_greatestGroupEnd 89 = .ok (.ireturn, 1) := by decide +kernel
theorem dJ6_bitCount_0f7a4_0 : decode cJ6_bitCount_0f7a4 0 = .ok (.iload_n 0, 1) := by decide +kernel
theorem dJ6_bitCount_0f7a4_1 : decode cJ6_bitCount_0f7a4 1 = .ok (.iload_n 0, 1) := by decide +kernel
theorem dJ6_bitCount_0f7a4_2 : decode cJ6_bitCount_0f7a4 2 = .ok (.iconst 1, 1) := by decide +kernel
theorem dJ6_bitCount_0f7a4_3 : decode cJ6_bitCount_0f7a4 3 = .ok (.iushr, 1) := by decide +kernel
theorem dJ6_bitCount_0f7a4_4 : decode cJ6_bitCount_0f7a4 4 = .ok (.ldc_w 265, 3) := by decide +kernel
theorem dJ6_bitCount_0f7a4_7 : decode cJ6_bitCount_0f7a4 7 = .ok (.iand, 1) := by decide +kernel
theorem dJ6_bitCount_0f7a4_8 : decode cJ6_bitCount_0f7a4 8 = .ok (.isub, 1) := by decide +kernel
theorem dJ6_bitCount_0f7a4_9 : decode cJ6_bitCount_0f7a4 9 = .ok (.istore_n 0, 1) := by decide +kernel
theorem dJ6_bitCount_0f7a4_10 : decode cJ6_bitCount_0f7a4 10 = .ok (.iload_n 0, 1) := by decide +kernel
theorem dJ6_bitCount_0f7a4_11 : decode cJ6_bitCount_0f7a4 11 = .ok (.ldc_w 266, 3) := by decide +kernel
theorem dJ6_bitCount_0f7a4_14 : decode cJ6_bitCount_0f7a4 14 = .ok (.iand, 1) := by decide +kernel
theorem dJ6_bitCount_0f7a4_15 : decode cJ6_bitCount_0f7a4 15 = .ok (.iload_n 0, 1) := by decide +kernel
theorem dJ6_bitCount_0f7a4_16 : decode cJ6_bitCount_0f7a4 16 = .ok (.iconst 2, 1) := by decide +kernel
theorem dJ6_bitCount_0f7a4_17 : decode cJ6_bitCount_0f7a4 17 = .ok (.iushr, 1) := by decide +kernel
theorem dJ6_bitCount_0f7a4_18 : decode cJ6_bitCount_0f7a4 18 = .ok (.ldc_w 266, 3) := by decide +kernel
theorem dJ6_bitCount_0f7a4_21 : decode cJ6_bitCount_0f7a4 21 = .ok (.iand, 1) := by decide +kernel
theorem dJ6_bitCount_0f7a4_22 : decode cJ6_bitCount_0f7a4 22 = .ok (.iadd, 1) := by decide +kernel
theorem dJ6_bitCount_0f7a4_23 : decode cJ6_bitCount_0f7a4 23 = .ok (.istore_n 0, 1) := by decide +kernel
theorem dJ6_bitCount_0f7a4_24 : decode cJ6_bitCount_0f7a4 24 = .ok (.iload_n 0, 1) := by decide +kernel
theorem dJ6_bitCount_0f7a4_25 : decode cJ6_bitCount_0f7a4 25 = .ok (.iload_n 0, 1) := by decide +kernel
theorem dJ6_bitCount_0f7a4_26 : decode cJ6_bitCount_0f7a4 26 = .ok (.iconst 4, 1) := by decide +kernel
theorem dJ6_bitCount_0f7a4_27 : decode cJ6_bitCount_0f7a4 27 = .ok (.iushr, 1) := by decide +kernel
theorem dJ6_bitCount_0f7a4_28 : decode cJ6_bitCount_0f7a4 28 = .ok (.iadd, 1) := by decide +kernel
theorem dJ6_bitCount_0f7a4_29 : decode cJ6_bitCount_0f7a4 29 = .ok (.ldc_w 267, 3) := by decide +kernel
theorem dJ6_bitCount_0f7a4_32 : decode cJ6_bitCount_0f7a4 32 = .ok (.iand, 1) := by decide +kernel
theorem dJ6_bitCount_0f7a4_33 : decode cJ6_bitCount_0f7a4 33 = .ok (.istore_n 0, 1) := by decide +kernel
theorem dJ6_bitCount_0f7a4_34 : decode cJ6_bitCount_0f7a4 34 = .ok (.iload_n 0, 1) := by decide +kernel
theorem dJ6_bitCount_0f7a4_35 : decode cJ6_bitCount_0f7a4 35 = .ok (.iload_n 0, 1) := by decide +kernel
theorem dJ6_bitCount_0f7a4_36 : decode cJ6_bitCount_0f7a4 36 = .ok (.bipush 8, 2) := by decide +kernel
theorem dJ6_bitCount_0f7a4_38 : decode cJ6_bitCount_0f7a4 38 = .ok (.iushr, 1) := by decide +kernel
theorem dJ6_bitCount_0f7a4_39 : decode cJ6_bitCount_0f7a4 39 = .ok (.iadd, 1) := by decide +kernel
theorem dJ6_bitCount_0f7a4_40 : decode cJ6_bitCount_0f7a4 40 = .ok (.istore_n 0, 1) := by decide +kernel
theorem dJ6_bitCount_0f7a4_41 : decode cJ6_bitCount_0f7a4 41 = .ok (.iload_n 0, 1) := by decide +kernel
theorem dJ6_bitCount_0f7a4_42 : decode cJ6_bitCount_0f7a4 42 = .ok (.iload_n 0, 1) := by decide +kernel
theorem dJ6_bitCount_0f7a4_43 : decode cJ6_bitCount_0f7a4 43 = .ok (.bipush 16, 2) := by decide +kernel
theorem dJ6_bitCount_0f7a4_45 : decode cJ6_bitCount_0f7a4 45 = .ok (.iushr, 1) := by decide +kernel
theorem dJ6_bitCount_0f7a4_46 : decode cJ6_bitCount_0f7a4 46 = .ok (.iadd, 1) := by decide +kernel
theorem dJ6_bitCount_0f7a4_47 : decode cJ6_bitCount_0f7a4 47 = .ok (.istore_n 0, 1) := by decide +kernel
theorem dJ6_bitCount_0f7a4_48 : decode cJ6_bitCount_0f7a4 48 = .ok (.iload_n 0, 1) := by decide +kernel
theorem dJ6_bitCount_0f7a4_49 : decode cJ6_bitCount_0f7a4 49 = .ok (.bipush 63, 2) := by decide +kernel
theorem dJ6_bitCount_0f7a4_51 : decode cJ6_bitCount_0f7a4 51 = .ok (.iand, 1) := by decide +kernel
theorem dJ6_bitCount_0f7a4_52 : decode cJ6_bitCount_0f7a4 52 = .ok (.ireturn, 1) := by decide +kernel
theorem dJ9_abs_0f7a4_0 : decode cJ9_abs_0f7a4 0 = .ok (.iload_n 0, 1) := by decide +kernel
theorem dJ9_abs_0f7a4_1 : decode cJ9_abs_0f7a4 1 = .ok (.ifCond .ge 8, 3) := by decide +kernel
theorem dJ9_abs_0f7a4_4 : decode cJ9_abs_0f7a4 4 = .ok (.iload_n 0, 1) := by decide +kernel
theorem dJ9_abs_0f7a4_5 : decode cJ9_abs_0f7a4 5 = .ok (.ineg, 1) := by decide +kernel
theorem dJ9_abs_0f7a4_6 : decode cJ9_abs_0f7a4 6 = .ok (.goto 4, 3) := by decide +kernel
theorem dJ9_abs_0f7a4_9 : decode cJ9_abs_0f7a4 9 = .ok (.iload_n 0, 1) := by decide +kernel
theorem dJ9_abs_0f7a4_10 : decode cJ9_abs_0f7a4 10 = .ok (.ireturn, 1) := by decide +kernel
theorem dJ9_max_7cf53_0 : decode cJ9_max_7cf53 0 = .ok (.iload_n 0, 1) := by decide +kernel
theorem dJ9_max_7cf53_1 : decode cJ9_max_7cf53 1 = .ok (.iload_n 1, 1) := by decide +kernel
theorem dJ9_max_7cf53_2 : decode cJ9_max_7cf53 2 = .ok (.if_icmp .lt 7, 3) := by decide +kernel
theorem dJ9_max_7cf53_5 : decode cJ9_max_7cf53 5 = .ok (.iload_n 0, 1) := by decide +kernel
theorem dJ9_max_7cf53_6 : decode cJ9_max_7cf53 6 = .ok (.goto 4, 3) := by decide +kernel
theorem dJ9_max_7cf53_9 : decode cJ9_max_7cf53 9 = .ok (.iload_n 1, 1) := by decide +kernel
theorem dJ9_max_7cf53_10 : decode cJ9_max_7cf53 10 = .ok (.ireturn, 1) := by decide +kernel
theorem dJ9_min_7cf53_0 : decode cJ9_min_7cf53 0 = .ok (.iload_n 0, 1) := by decide +kernel
theorem dJ9_min_7cf53_1 : decode cJ9_min_7cf53 1 = .ok (.iload_n 1, 1) := by decide +kernel
theorem dJ9_min_7cf53_2 : decode cJ9_min_7cf53 2 = .ok (.if_icmp .gt 7, 3) := by decide +kernel
theorem dJ9_min_7cf53_5 : decode cJ9_min_7cf53 5 = .ok (.iload_n 0, 1) := by decide +kernel
theorem dJ9_min_7cf53_6 : decode cJ9_min_7cf53 6 = .ok (.goto 4, 3) := by decide +kernel
theorem dJ9_min_7cf53_9 : decode cJ9_min_7cf53 9 = .ok (.iload_n 1, 1) := by decide +kernel
theorem dJ9_min_7cf53_10 : decode cJ9_min_7cf53 10 = .ok (.ireturn, 1) := by decide +kernel
end
section
set_option maxRecDepth 20000 in
theorem ggX5_init_X0_init : GoodIn wsX5_init wsX0_init := goodIn_r _ [30, 31, 2, 3, 32, 33, 34, 35, 36, 37, 80, 81, 82, 83, 84] (by decide +kernel) (by decide +kernel)
set_option maxRecDepth 20000 in
theorem gX5_init_X0_init : GoodIn wsX5_init (wsX0_init) := ggX5_init_X0_init
set_option maxRecDepth 20000 in
theorem ggX5_init_X3_init : GoodIn wsX5_init wsX3_init := goodIn_r _ [40, 41, 2, 3, 33, 42, 43, 85, 86] (by decide +kernel) (by decide +kernel)
set_option maxRecDepth 20000 in
theorem gX5_init_X3_init : GoodIn wsX5_init (wsX3_init) := ggX5_init_X3_init
set_option maxRecDepth 20000 in
theorem ggX5_init_X1_init : GoodIn wsX5_init wsX1_init := goodIn_r _ [46, 47, 2, 3, 33, 48, 49, 50, 51, 52, 87, 88, 89, 90, 91] (by decide +kernel) (by decide +kernel)
set_option maxRecDepth 20000 in
theorem gX5_init_X1_init : GoodIn wsX5_init (wsX1_init) := ggX5_init_X1_init
set_option maxRecDepth 20000 in
theorem ggX5_init_X4_init : GoodIn wsX5_init wsX4_init := goodIn_r _ [54, 55, 2, 3, 33, 56, 57, 58, 59, 60, 92, 93, 94, 95, 96] (by decide +kernel) (by decide +kernel)
set_option maxRecDepth 20000 in
theorem gX5_init_X4_init_n47 : GoodIn wsX5_init (wsX4_init) := ggX5_init_X4_init
set_option maxRecDepth 20000 in
theorem ggX5_init_X2_init : GoodIn wsX5_init wsX2_init := goodIn_r _ [63, 64, 2, 3, 33, 65, 66, 67, 68, 69, 70, 97, 98, 99, 100, 101] (by decide +kernel) (by decide +kernel)
set_option maxRecDepth 20000 in
theorem gX5_init_X2_init : GoodIn wsX5_init (wsX2_init) := ggX5_init_X2_init
theorem dX5_init_0 : decode cX5_init 0 = .ok (.aload_n 0, 1) := by decide +kernel
theorem dX5_init_1 : decode cX5_init 1 = .ok (.invokespecial 1, 3) := by decide +kernel
theorem dX5_init_4 : decode cX5_init 4 = .ok (.aload_n 0, 1) := by decide +kernel
theorem dX5_init_5 : decode cX5_init 5 = .ok (.iconst 0, 1) := by decide +kernel
theorem dX5_init_6 : decode cX5_init 6 = .ok (.putfield 7, 3) := by decide +kernel
theorem dX5_init_9 : decode cX5_init 9 = .ok (.aload_n 0, 1) := by decide +kernel
theorem dX5_init_10 : decode cX5_init 10 = .ok (.sipush 8000, 3) := by decide +kernel
theorem dX5_init_13 : decode cX5_init 13 = .ok (.putfield 13, 3) := by decide +kernel
theorem dX5_init_16 : decode cX5_init 16 = .ok (.aload_n 0, 1) := by decide +kernel
theorem dX5_init_17 : decode cX5_init 17 = .ok (.iconst 1, 1) := by decide +kernel
theorem dX5_init_18 : decode cX5_init 18 = .ok (.putfield 16, 3) := by decide +kernel
theorem dX5_init_21 : decode cX5_init 21 = .ok (.aload_n 0, 1) := by decide +kernel
theorem dX5_init_22 : decode cX5_init 22 = .ok (.iconst 0, 1) := by decide +kernel
theorem dX5_init_23 : decode cX5_init 23 = .ok (.putfield 19, 3) := by decide +kernel
theorem dX5_init_26 : decode cX5_init 26 = .ok (.aload_n 0, 1) := by decide +kernel
theorem dX5_init_27 : decode cX5_init 27 = .ok (.new 22, 3) := by decide +kernel
theorem dX5_init_30 : decode cX5_init 30 = .ok (.dup, 1) := by decide +kernel
theorem dX5_init_31 : decode cX5_init 31 = .ok (.invokespecial 24, 3) := by decide +kernel
theorem dX5_init_34 : decode cX5_init 34 = .ok (.putfield 25, 3) := by decide +kernel
theorem dX5_init_37 : decode cX5_init 37 = .ok (.aload_n 0, 1) := by decide +kernel
theorem dX5_init_38 : decode cX5_init 38 = .ok (.new 29, 3) := by decide +kernel
theorem dX5_init_41 : decode cX5_init 41 = .ok (.dup, 1) := by decide +kernel
theorem dX5_init_42 : decode cX5_init 42 = .ok (.invokespecial 31, 3) := by decide +kernel
theorem dX5_init_45 : decode cX5_init 45 = .ok (.putfield 32, 3) := by decide +kernel
theorem dX5_init_48 : decode cX5_init 48 = .ok (.aload_n 0, 1) := by decide +kernel
theorem dX5_init_49 : decode cX5_init 49 = .ok (.new 36, 3) := by decide +kernel
theorem dX5_init_52 : decode cX5_init 52 = .ok (.dup, 1) := by decide +kernel
theorem dX5_init_53 : decode cX5_init 53 = .ok (.aload_n 0, 1) := by decide +kernel
theorem dX5_init_54 : decode cX5_init 54 = .ok (.getfield 25, 3) := by decide +kernel
theorem dX5_init_57 : decode cX5_init 57 = .ok (.invokespecial 38, 3) := by decide +kernel
theorem dX5_init_60 : decode cX5_init 60 = .ok (.putfield 41, 3) := by decide +kernel
theorem dX5_init_63 : decode cX5_init 63 = .ok (.aload_n 0, 1) := by decide +kernel
theorem dX5_init_64 : decode cX5_init 64 = .ok (.new 45, 3) := by decide +kernel
theorem dX5_init_67 : decode cX5_init 67 = .ok (.dup, 1) := by decide +kernel
theorem dX5_init_68 : decode cX5_init 68 = .ok (.invokespecial 47, 3) := by decide +kernel
theorem dX5_init_71 : decode cX5_init 71 = .ok (.putfield 48, 3) := by decide +kernel
theorem dX5_init_74 : decode cX5_init 74 = .ok (.aload_n 0, 1) := by decide +kernel
theorem dX5_init_75 : decode cX5_init 75 = .ok (.new 52, 3) := by decide +kernel
theorem dX5_init_78 : decode cX5_init 78 = .ok (.dup, 1) := by decide +kernel
theorem dX5_init_79 : decode cX5_init 79 = .ok (.aload_n 0, 1) := by decide +kernel
theorem dX5_init_80 : decode cX5_init 80 = .ok (.getfield 25, 3) := by decide +kernel
theorem dX5_init_83 : decode cX5_init 83 = .ok (.aload_n 0, 1) := by decide +kernel
theorem dX5_init_84 : decode cX5_init 84 = .ok (.getfield 32, 3) := by decide +kernel
theorem dX5_init_87 : decode cX5_init 87 = .ok (.invokespecial 54, 3) := by decide +kernel
theorem dX5_init_90 : decode cX5_init 90 = .ok (.putfield 57, 3) := by decide +kernel
theorem dX5_init_93 : decode cX5_init 93 = .ok (.return_, 1) := by decide +kernel
set_option maxRecDepth 20000 in
theorem ggX5_keys_X5_within : GoodIn wsX5_keys wsX5_within := goodIn_r _ [7] (by decide +kernel) (by decide +kernel)
set_option maxRecDepth 20000 in
theorem gX5_keys_X5_within : GoodIn wsX5_keys (va_wsS RX5 61 yX5_within wsX5_within) := goodIn_app (goodIn_of _ (by decide +kernel)) ggX5_keys_X5_within
theorem dX5_keys_0 : decode cX5_keys 0 = .ok (.iload_n 1, 1) := by decide +kernel
theorem dX5_keys_1 : decode cX5_keys 1 = .ok (.iconst 1, 1) := by decide +kernel
theorem dX5_keys_2 : decode cX5_keys 2 = .ok (.bipush 24, 2) := by decide +kernel
theorem dX5_keys_4 : decode cX5_keys 4 = .ok (.invokestatic 61, 3) := by decide +kernel
theorem dX5_keys_7 : decode cX5_keys 7 = .ok (.ifCond .ne 6, 3) := by decide +kernel
theorem dX5_keys_10 : decode cX5_keys 10 = .ok (.ldc 65, 2) := by decide +kernel
theorem dX5_keys_12 : decode cX5_keys 12 = .ok (.ireturn, 1) := by decide +kernel
theorem dX5_keys_13 : decode cX5_keys 13 = .ok (.aload_n 0, 1) := by decide +kernel
theorem dX5_keys_14 : decode cX5_keys 14 = .ok (.getfield 25, 3) := by decide +kernel
theorem dX5_keys_17 : decode cX5_keys 17 = .ok (.getfield 66, 3) := by decide +kernel
theorem dX5_keys_20 : decode cX5_keys 20 = .ok (.istore_n 2, 1) := by decide +kernel
theorem dX5_keys_21 : decode cX5_keys 21 = .ok (.aload_n 0, 1) := by decide +kernel
theorem dX5_keys_22 : decode cX5_keys 22 = .ok (.getfield 25, 3) := by decide +kernel
theorem dX5_keys_25 : decode cX5_keys 25 = .ok (.iload_n 1, 1) := by decide +kernel
theorem dX5_keys_26 : decode cX5_keys 26 = .ok (.putfield 66, 3) := by decide +kernel
theorem dX5_keys_29 : decode cX5_keys 29 = .ok (.iload_n 2, 1) := by decide +kernel
theorem dX5_keys_30 : decode cX5_keys 30 = .ok (.ireturn, 1) := by decide +kernel
set_option maxRecDepth 20000 in
theorem ggX5_strike_X0_has : GoodIn wsX5_strike wsX0_has := goodIn_r _ [11, 12, 29, 30, 31, 32, 33] (by decide +kernel) (by decide +kernel)
set_option maxRecDepth 20000 in
theorem gX5_strike_X0_has : GoodIn wsX5_strike (wsV RX5 69 RX0 yX0_has wsX0_has) := goodIn_app (goodIn_of _ (by decide +kernel)) ggX5_strike_X0_has
set_option maxRecDepth 20000 in
theorem ggX5_strike_X5_isString : GoodIn wsX5_strike wsX5_isString := goodIn_r _ [16, 17, 18, 15, 19] (by decide +kernel) (by decide +kernel)
set_option maxRecDepth 20000 in
theorem gX5_strike_X5_isString : GoodIn wsX5_strike (va_wsS RX5 73 yX5_isString wsX5_isString) := goodIn_app (goodIn_of _ (by decide +kernel)) ggX5_strike_X5_isString
set_option maxRecDepth 20000 in
theorem ggX5_strike_X5_within : GoodIn wsX5_strike wsX5_within := goodIn_r _ [19] (by decide +kernel) (by decide +kernel)
set_option maxRecDepth 20000 in
theorem gX5_strike_X5_within : GoodIn wsX5_strike (va_wsS RX5 61 yX5_within wsX5_within) := goodIn_app (goodIn_of _ (by decide +kernel)) ggX5_strike_X5_within
theorem dX5_strike_0 : decode cX5_strike 0 = .ok (.aload_n 0, 1) := by decide +kernel
theorem dX5_strike_1 : decode cX5_strike 1 = .ok (.getfield 25, 3) := by decide +kernel
theorem dX5_strike_4 : decode cX5_strike 4 = .ok (.iload_n 1, 1) := by decide +kernel
theorem dX5_strike_5 : decode cX5_strike 5 = .ok (.invokevirtual 69, 3) := by decide +kernel
theorem dX5_strike_8 : decode cX5_strike 8 = .ok (.ifCond .eq 10, 3) := by decide +kernel
theorem dX5_strike_11 : decode cX5_strike 11 = .ok (.iload_n 2, 1) := by decide +kernel
theorem dX5_strike_12 : decode cX5_strike 12 = .ok (.invokestatic 73, 3) := by decide +kernel
theorem dX5_strike_15 : decode cX5_strike 15 = .ok (.ifCond .ne 6, 3) := by decide +kernel
theorem dX5_strike_18 : decode cX5_strike 18 = .ok (.ldc 76, 2) := by decide +kernel
theorem dX5_strike_20 : decode cX5_strike 20 = .ok (.ireturn, 1) := by decide +kernel
theorem dX5_strike_21 : decode cX5_strike 21 = .ok (.iload_n 3, 1) := by decide +kernel
theorem dX5_strike_22 : decode cX5_strike 22 = .ok (.sipush 500, 3) := by decide +kernel
theorem dX5_strike_25 : decode cX5_strike 25 = .ok (.sipush 9999, 3) := by decide +kernel
theorem dX5_strike_28 : decode cX5_strike 28 = .ok (.invokestatic 61, 3) := by decide +kernel
theorem dX5_strike_31 : decode cX5_strike 31 = .ok (.ifCond .ne 6, 3) := by decide +kernel
theorem dX5_strike_34 : decode cX5_strike 34 = .ok (.ldc 65, 2) := by decide +kernel
theorem dX5_strike_36 : decode cX5_strike 36 = .ok (.ireturn, 1) := by decide +kernel
theorem dX5_strike_37 : decode cX5_strike 37 = .ok (.aload_n 0, 1) := by decide +kernel
theorem dX5_strike_38 : decode cX5_strike 38 = .ok (.getfield 25, 3) := by decide +kernel
theorem dX5_strike_41 : decode cX5_strike 41 = .ok (.getfield 77, 3) := by decide +kernel
theorem dX5_strike_44 : decode cX5_strike 44 = .ok (.iload_n 1, 1) := by decide +kernel
theorem dX5_strike_45 : decode cX5_strike 45 = .ok (.iaload, 1) := by decide +kernel
theorem dX5_strike_46 : decode cX5_strike 46 = .ok (.istore 4, 2) := by decide +kernel
theorem dX5_strike_48 : decode cX5_strike 48 = .ok (.aload_n 0, 1) := by decide +kernel
theorem dX5_strike_49 : decode cX5_strike 49 = .ok (.getfield 25, 3) := by decide +kernel
theorem dX5_strike_52 : decode cX5_strike 52 = .ok (.getfield 77, 3) := by decide +kernel
theorem dX5_strike_55 : decode cX5_strike 55 = .ok (.iload_n 1, 1) := by decide +kernel
theorem dX5_strike_56 : decode cX5_strike 56 = .ok (.iload_n 2, 1) := by decide +kernel
theorem dX5_strike_57 : decode cX5_strike 57 = .ok (.iastore, 1) := by decide +kernel
theorem dX5_strike_58 : decode cX5_strike 58 = .ok (.aload_n 0, 1) := by decide +kernel
theorem dX5_strike_59 : decode cX5_strike 59 = .ok (.getfield 25, 3) := by decide +kernel
theorem dX5_strike_62 : decode cX5_strike 62 = .ok (.getfield 81, 3) := by decide +kernel
theorem dX5_strike_65 : decode cX5_strike 65 = .ok (.iload_n 1, 1) := by decide +kernel
theorem dX5_strike_66 : decode cX5_strike 66 = .ok (.iload_n 3, 1) := by decide +kernel
theorem dX5_strike_67 : decode cX5_strike 67 = .ok (.iastore, 1) := by decide +kernel
theorem dX5_strike_68 : decode cX5_strike 68 = .ok (.aload_n 0, 1) := by decide +kernel
theorem dX5_strike_69 : decode cX5_strike 69 = .ok (.getfield 25, 3) := by decide +kernel
theorem dX5_strike_72 : decode cX5_strike 72 = .ok (.getfield 84, 3) := by decide +kernel
theorem dX5_strike_75 : decode cX5_strike 75 = .ok (.iload_n 1, 1) := by decide +kernel
theorem dX5_strike_76 : decode cX5_strike 76 = .ok (.iconst 0, 1) := by decide +kernel
theorem dX5_strike_77 : decode cX5_strike 77 = .ok (.iastore, 1) := by decide +kernel
theorem dX5_strike_78 : decode cX5_strike 78 = .ok (.iload 4, 2) := by decide +kernel
theorem dX5_strike_80 : decode cX5_strike 80 = .ok (.ireturn, 1) := by decide +kernel
set_option maxRecDepth 20000 in
theorem ggX5_tension_X5_isString : GoodIn wsX5_tension wsX5_isString := goodIn_r _ [8, 9, 10, 7, 11] (by decide +kernel) (by decide +kernel)
set_option maxRecDepth 20000 in
theorem gX5_tension_X5_isString : GoodIn wsX5_tension (va_wsS RX5 73 yX5_isString wsX5_isString) := goodIn_app (goodIn_of _ (by decide +kernel)) ggX5_tension_X5_isString
set_option maxRecDepth 20000 in
theorem ggX5_tension_X5_within : GoodIn wsX5_tension wsX5_within := goodIn_r _ [11] (by decide +kernel) (by decide +kernel)
set_option maxRecDepth 20000 in
theorem gX5_tension_X5_within : GoodIn wsX5_tension (va_wsS RX5 61 yX5_within wsX5_within) := goodIn_app (goodIn_of _ (by decide +kernel)) ggX5_tension_X5_within
theorem dX5_tension_0 : decode cX5_tension 0 = .ok (.iload_n 1, 1) := by decide +kernel
theorem dX5_tension_1 : decode cX5_tension 1 = .ok (.invokestatic 73, 3) := by decide +kernel
theorem dX5_tension_4 : decode cX5_tension 4 = .ok (.ifCond .ne 6, 3) := by decide +kernel
theorem dX5_tension_7 : decode cX5_tension 7 = .ok (.ldc 76, 2) := by decide +kernel
theorem dX5_tension_9 : decode cX5_tension 9 = .ok (.ireturn, 1) := by decide +kernel
theorem dX5_tension_10 : decode cX5_tension 10 = .ok (.iload_n 2, 1) := by decide +kernel
theorem dX5_tension_11 : decode cX5_tension 11 = .ok (.bipush 100, 2) := by decide +kernel
theorem dX5_tension_13 : decode cX5_tension 13 = .ok (.sipush 20000, 3) := by decide +kernel
theorem dX5_tension_16 : decode cX5_tension 16 = .ok (.invokestatic 61, 3) := by decide +kernel
theorem dX5_tension_19 : decode cX5_tension 19 = .ok (.ifCond .ne 6, 3) := by decide +kernel
theorem dX5_tension_22 : decode cX5_tension 22 = .ok (.ldc 65, 2) := by decide +kernel
theorem dX5_tension_24 : decode cX5_tension 24 = .ok (.ireturn, 1) := by decide +kernel
theorem dX5_tension_25 : decode cX5_tension 25 = .ok (.aload_n 0, 1) := by decide +kernel
theorem dX5_tension_26 : decode cX5_tension 26 = .ok (.getfield 25, 3) := by decide +kernel
theorem dX5_tension_29 : decode cX5_tension 29 = .ok (.getfield 87, 3) := by decide +kernel
theorem dX5_tension_32 : decode cX5_tension 32 = .ok (.iload_n 1, 1) := by decide +kernel
theorem dX5_tension_33 : decode cX5_tension 33 = .ok (.iaload, 1) := by decide +kernel
theorem dX5_tension_34 : decode cX5_tension 34 = .ok (.istore_n 3, 1) := by decide +kernel
theorem dX5_tension_35 : decode cX5_tension 35 = .ok (.aload_n 0, 1) := by decide +kernel
theorem dX5_tension_36 : decode cX5_tension 36 = .ok (.getfield 25, 3) := by decide +kernel
theorem dX5_tension_39 : decode cX5_tension 39 = .ok (.getfield 87, 3) := by decide +kernel
theorem dX5_tension_42 : decode cX5_tension 42 = .ok (.iload_n 1, 1) := by decide +kernel
theorem dX5_tension_43 : decode cX5_tension 43 = .ok (.iload_n 2, 1) := by decide +kernel
theorem dX5_tension_44 : decode cX5_tension 44 = .ok (.iastore, 1) := by decide +kernel
theorem dX5_tension_45 : decode cX5_tension 45 = .ok (.iload_n 3, 1) := by decide +kernel
theorem dX5_tension_46 : decode cX5_tension 46 = .ok (.ireturn, 1) := by decide +kernel
set_option maxRecDepth 20000 in
theorem ggX5_bend_X0_has : GoodIn wsX5_bend wsX0_has := goodIn_r _ [9, 10, 24, 25, 26, 27, 28] (by decide +kernel) (by decide +kernel)
set_option maxRecDepth 20000 in
theorem gX5_bend_X0_has : GoodIn wsX5_bend (wsV RX5 69 RX0 yX0_has wsX0_has) := goodIn_app (goodIn_of _ (by decide +kernel)) ggX5_bend_X0_has
set_option maxRecDepth 20000 in
theorem ggX5_bend_X5_within : GoodIn wsX5_bend wsX5_within := goodIn_r _ [14] (by decide +kernel) (by decide +kernel)
set_option maxRecDepth 20000 in
theorem gX5_bend_X5_within : GoodIn wsX5_bend (va_wsS RX5 61 yX5_within wsX5_within) := goodIn_app (goodIn_of _ (by decide +kernel)) ggX5_bend_X5_within
theorem dX5_bend_0 : decode cX5_bend 0 = .ok (.aload_n 0, 1) := by decide +kernel
theorem dX5_bend_1 : decode cX5_bend 1 = .ok (.getfield 25, 3) := by decide +kernel
theorem dX5_bend_4 : decode cX5_bend 4 = .ok (.iload_n 1, 1) := by decide +kernel
theorem dX5_bend_5 : decode cX5_bend 5 = .ok (.invokevirtual 69, 3) := by decide +kernel
theorem dX5_bend_8 : decode cX5_bend 8 = .ok (.ifCond .ne 6, 3) := by decide +kernel
theorem dX5_bend_11 : decode cX5_bend 11 = .ok (.ldc 76, 2) := by decide +kernel
theorem dX5_bend_13 : decode cX5_bend 13 = .ok (.ireturn, 1) := by decide +kernel
theorem dX5_bend_14 : decode cX5_bend 14 = .ok (.iload_n 2, 1) := by decide +kernel
theorem dX5_bend_15 : decode cX5_bend 15 = .ok (.bipush (-40), 2) := by decide +kernel
theorem dX5_bend_17 : decode cX5_bend 17 = .ok (.bipush 40, 2) := by decide +kernel
theorem dX5_bend_19 : decode cX5_bend 19 = .ok (.invokestatic 61, 3) := by decide +kernel
theorem dX5_bend_22 : decode cX5_bend 22 = .ok (.ifCond .ne 6, 3) := by decide +kernel
theorem dX5_bend_25 : decode cX5_bend 25 = .ok (.ldc 65, 2) := by decide +kernel
theorem dX5_bend_27 : decode cX5_bend 27 = .ok (.ireturn, 1) := by decide +kernel
theorem dX5_bend_28 : decode cX5_bend 28 = .ok (.aload_n 0, 1) := by decide +kernel
theorem dX5_bend_29 : decode cX5_bend 29 = .ok (.getfield 25, 3) := by decide +kernel
theorem dX5_bend_32 : decode cX5_bend 32 = .ok (.getfield 84, 3) := by decide +kernel
theorem dX5_bend_35 : decode cX5_bend 35 = .ok (.iload_n 1, 1) := by decide +kernel
theorem dX5_bend_36 : decode cX5_bend 36 = .ok (.iaload, 1) := by decide +kernel
theorem dX5_bend_37 : decode cX5_bend 37 = .ok (.istore_n 3, 1) := by decide +kernel
theorem dX5_bend_38 : decode cX5_bend 38 = .ok (.aload_n 0, 1) := by decide +kernel
theorem dX5_bend_39 : decode cX5_bend 39 = .ok (.getfield 25, 3) := by decide +kernel
theorem dX5_bend_42 : decode cX5_bend 42 = .ok (.getfield 84, 3) := by decide +kernel
theorem dX5_bend_45 : decode cX5_bend 45 = .ok (.iload_n 1, 1) := by decide +kernel
theorem dX5_bend_46 : decode cX5_bend 46 = .ok (.iload_n 2, 1) := by decide +kernel
theorem dX5_bend_47 : decode cX5_bend 47 = .ok (.iastore, 1) := by decide +kernel
theorem dX5_bend_48 : decode cX5_bend 48 = .ok (.iload_n 3, 1) := by decide +kernel
theorem dX5_bend_49 : decode cX5_bend 49 = .ok (.ireturn, 1) := by decide +kernel
set_option maxRecDepth 20000 in
theorem ggX5_about_X0_has : GoodIn wsX5_about wsX0_has := goodIn_r _ [11, 12, 53, 54, 55, 56, 57] (by decide +kernel) (by decide +kernel)
set_option maxRecDepth 20000 in
theorem gX5_about_X0_has : GoodIn wsX5_about (wsV RX5 69 RX0 yX0_has wsX0_has) := goodIn_app (goodIn_of _ (by decide +kernel)) ggX5_about_X0_has
set_option maxRecDepth 20000 in
theorem ggX5_about_X0_toneOf : GoodIn wsX5_about wsX0_toneOf := goodIn_r _ [16, 17, 18, 19, 20, 10, 21, 22, 23, 24, 53, 54, 55, 56, 57] (by decide +kernel) (by decide +kernel)
set_option maxRecDepth 20000 in
theorem gX5_about_X0_toneOf : GoodIn wsX5_about (wsV RX5 90 RX0 yX0_toneOf wsX0_toneOf) := goodIn_app (goodIn_of _ (by decide +kernel)) ggX5_about_X0_toneOf
set_option maxRecDepth 20000 in
theorem ggX5_about_X5_goalOf : GoodIn wsX5_about wsX5_goalOf := goodIn_r _ [29, 30, 31, 32, 33, 34, 35, 36, 37, 38, 39, 44, 45, 46, 47, 48, 49, 50, 51, 52, 58, 59] (by decide +kernel) (by decide +kernel)
set_option maxRecDepth 20000 in
theorem gX5_about_X5_goalOf : GoodIn wsX5_about (wsV RX5 94 RX5 yX5_goalOf wsX5_goalOf) := goodIn_app (goodIn_of _ (by decide +kernel)) ggX5_about_X5_goalOf
set_option maxRecDepth 20000 in
theorem ggX5_about_X5_errorOf : GoodIn wsX5_about wsX5_errorOf := goodIn_r _ [43, 1, 13, 14, 15, 10, 16, 17, 18, 19, 20, 21, 22, 23, 24, 25, 26, 27, 28, 29, 30, 31, 32, 33, 34, 35, 36, 37, 38, 39, 44, 45, 46, 47, 48, 49, 50, 51, 52, 53, 54, 55, 56, 57, 58, 59] (by decide +kernel) (by decide +kernel)
set_option maxRecDepth 20000 in
theorem gX5_about_X5_errorOf : GoodIn wsX5_about (wsV RX5 97 RX5 yX5_errorOf wsX5_errorOf) := goodIn_app (goodIn_of _ (by decide +kernel)) ggX5_about_X5_errorOf
theorem dX5_about_0 : decode cX5_about 0 = .ok (.aload_n 0, 1) := by decide +kernel
theorem dX5_about_1 : decode cX5_about 1 = .ok (.getfield 25, 3) := by decide +kernel
theorem dX5_about_4 : decode cX5_about 4 = .ok (.iload_n 1, 1) := by decide +kernel
theorem dX5_about_5 : decode cX5_about 5 = .ok (.invokevirtual 69, 3) := by decide +kernel
theorem dX5_about_8 : decode cX5_about 8 = .ok (.ifCond .ne 6, 3) := by decide +kernel
theorem dX5_about_11 : decode cX5_about 11 = .ok (.ldc 76, 2) := by decide +kernel
theorem dX5_about_13 : decode cX5_about 13 = .ok (.ireturn, 1) := by decide +kernel
theorem dX5_about_14 : decode cX5_about 14 = .ok (.iload_n 2, 1) := by decide +kernel
theorem dX5_about_15 : decode cX5_about 15 = .ok (.tableswitch 88 0 5 #[37, 47, 57, 67, 76, 82], 37) := by decide +kernel
theorem dX5_about_52 : decode cX5_about 52 = .ok (.aload_n 0, 1) := by decide +kernel
theorem dX5_about_53 : decode cX5_about 53 = .ok (.getfield 25, 3) := by decide +kernel
theorem dX5_about_56 : decode cX5_about 56 = .ok (.getfield 77, 3) := by decide +kernel
theorem dX5_about_59 : decode cX5_about 59 = .ok (.iload_n 1, 1) := by decide +kernel
theorem dX5_about_60 : decode cX5_about 60 = .ok (.iaload, 1) := by decide +kernel
theorem dX5_about_61 : decode cX5_about 61 = .ok (.ireturn, 1) := by decide +kernel
theorem dX5_about_62 : decode cX5_about 62 = .ok (.aload_n 0, 1) := by decide +kernel
theorem dX5_about_63 : decode cX5_about 63 = .ok (.getfield 25, 3) := by decide +kernel
theorem dX5_about_66 : decode cX5_about 66 = .ok (.getfield 81, 3) := by decide +kernel
theorem dX5_about_69 : decode cX5_about 69 = .ok (.iload_n 1, 1) := by decide +kernel
theorem dX5_about_70 : decode cX5_about 70 = .ok (.iaload, 1) := by decide +kernel
theorem dX5_about_71 : decode cX5_about 71 = .ok (.ireturn, 1) := by decide +kernel
theorem dX5_about_72 : decode cX5_about 72 = .ok (.aload_n 0, 1) := by decide +kernel
theorem dX5_about_73 : decode cX5_about 73 = .ok (.getfield 25, 3) := by decide +kernel
theorem dX5_about_76 : decode cX5_about 76 = .ok (.getfield 84, 3) := by decide +kernel
theorem dX5_about_79 : decode cX5_about 79 = .ok (.iload_n 1, 1) := by decide +kernel
theorem dX5_about_80 : decode cX5_about 80 = .ok (.iaload, 1) := by decide +kernel
theorem dX5_about_81 : decode cX5_about 81 = .ok (.ireturn, 1) := by decide +kernel
theorem dX5_about_82 : decode cX5_about 82 = .ok (.aload_n 0, 1) := by decide +kernel
theorem dX5_about_83 : decode cX5_about 83 = .ok (.getfield 25, 3) := by decide +kernel
theorem dX5_about_86 : decode cX5_about 86 = .ok (.iload_n 1, 1) := by decide +kernel
theorem dX5_about_87 : decode cX5_about 87 = .ok (.invokevirtual 90, 3) := by decide +kernel
theorem dX5_about_90 : decode cX5_about 90 = .ok (.ireturn, 1) := by decide +kernel
theorem dX5_about_91 : decode cX5_about 91 = .ok (.aload_n 0, 1) := by decide +kernel
theorem dX5_about_92 : decode cX5_about 92 = .ok (.iload_n 1, 1) := by decide +kernel
theorem dX5_about_93 : decode cX5_about 93 = .ok (.invokevirtual 94, 3) := by decide +kernel
theorem dX5_about_96 : decode cX5_about 96 = .ok (.ireturn, 1) := by decide +kernel
theorem dX5_about_97 : decode cX5_about 97 = .ok (.aload_n 0, 1) := by decide +kernel
theorem dX5_about_98 : decode cX5_about 98 = .ok (.iload_n 1, 1) := by decide +kernel
theorem dX5_about_99 : decode cX5_about 99 = .ok (.invokevirtual 97, 3) := by decide +kernel
theorem dX5_about_102 : decode cX5_about 102 = .ok (.ireturn, 1) := by decide +kernel
theorem dX5_about_103 : decode cX5_about 103 = .ok (.ldc 65, 2) := by decide +kernel
theorem dX5_about_105 : decode cX5_about 105 = .ok (.ireturn, 1) := by decide +kernel
set_option maxRecDepth 20000 in
theorem ggX5_pressed_X0_has : GoodIn wsX5_pressed wsX0_has := goodIn_r _ [8, 9, 35, 36, 37, 38, 39] (by decide +kernel) (by decide +kernel)
set_option maxRecDepth 20000 in
theorem gX5_pressed_X0_has : GoodIn wsX5_pressed (wsV RX5 69 RX0 yX0_has wsX0_has) := goodIn_app (goodIn_of _ (by decide +kernel)) ggX5_pressed_X0_has
set_option maxRecDepth 20000 in
theorem ggX5_pressed_X5_within : GoodIn wsX5_pressed wsX5_within := goodIn_r _ [13] (by decide +kernel) (by decide +kernel)
set_option maxRecDepth 20000 in
theorem gX5_pressed_X5_within : GoodIn wsX5_pressed (va_wsS RX5 61 yX5_within wsX5_within) := goodIn_app (goodIn_of _ (by decide +kernel)) ggX5_pressed_X5_within
set_option maxRecDepth 20000 in
theorem ggX5_pressed_X0_toneOf : GoodIn wsX5_pressed wsX0_toneOf := goodIn_r _ [17, 18, 19, 20, 21, 7, 22, 23, 24, 25, 35, 36, 37, 38, 39] (by decide +kernel) (by decide +kernel)
set_option maxRecDepth 20000 in
theorem gX5_pressed_X0_toneOf : GoodIn wsX5_pressed (wsV RX5 90 RX0 yX0_toneOf wsX0_toneOf) := goodIn_app (goodIn_of _ (by decide +kernel)) ggX5_pressed_X0_toneOf
theorem dX5_pressed_0 : decode cX5_pressed 0 = .ok (.aload_n 0, 1) := by decide +kernel
theorem dX5_pressed_1 : decode cX5_pressed 1 = .ok (.getfield 25, 3) := by decide +kernel
theorem dX5_pressed_4 : decode cX5_pressed 4 = .ok (.iload_n 1, 1) := by decide +kernel
theorem dX5_pressed_5 : decode cX5_pressed 5 = .ok (.invokevirtual 69, 3) := by decide +kernel
theorem dX5_pressed_8 : decode cX5_pressed 8 = .ok (.ifCond .ne 6, 3) := by decide +kernel
theorem dX5_pressed_11 : decode cX5_pressed 11 = .ok (.ldc 76, 2) := by decide +kernel
theorem dX5_pressed_13 : decode cX5_pressed 13 = .ok (.ireturn, 1) := by decide +kernel
theorem dX5_pressed_14 : decode cX5_pressed 14 = .ok (.iload_n 2, 1) := by decide +kernel
theorem dX5_pressed_15 : decode cX5_pressed 15 = .ok (.iconst 0, 1) := by decide +kernel
theorem dX5_pressed_16 : decode cX5_pressed 16 = .ok (.bipush 20, 2) := by decide +kernel
theorem dX5_pressed_18 : decode cX5_pressed 18 = .ok (.invokestatic 61, 3) := by decide +kernel
theorem dX5_pressed_21 : decode cX5_pressed 21 = .ok (.ifCond .ne 6, 3) := by decide +kernel
theorem dX5_pressed_24 : decode cX5_pressed 24 = .ok (.ldc 65, 2) := by decide +kernel
theorem dX5_pressed_26 : decode cX5_pressed 26 = .ok (.ireturn, 1) := by decide +kernel
theorem dX5_pressed_27 : decode cX5_pressed 27 = .ok (.aload_n 0, 1) := by decide +kernel
theorem dX5_pressed_28 : decode cX5_pressed 28 = .ok (.getfield 25, 3) := by decide +kernel
theorem dX5_pressed_31 : decode cX5_pressed 31 = .ok (.iload_n 1, 1) := by decide +kernel
theorem dX5_pressed_32 : decode cX5_pressed 32 = .ok (.invokevirtual 90, 3) := by decide +kernel
theorem dX5_pressed_35 : decode cX5_pressed 35 = .ok (.istore_n 3, 1) := by decide +kernel
theorem dX5_pressed_36 : decode cX5_pressed 36 = .ok (.iload_n 3, 1) := by decide +kernel
theorem dX5_pressed_37 : decode cX5_pressed 37 = .ok (.iload_n 3, 1) := by decide +kernel
theorem dX5_pressed_38 : decode cX5_pressed 38 = .ok (.iload_n 2, 1) := by decide +kernel
theorem dX5_pressed_39 : decode cX5_pressed 39 = .ok (.imul, 1) := by decide +kernel
theorem dX5_pressed_40 : decode cX5_pressed 40 = .ok (.sipush 1000, 3) := by decide +kernel
theorem dX5_pressed_43 : decode cX5_pressed 43 = .ok (.idiv, 1) := by decide +kernel
theorem dX5_pressed_44 : decode cX5_pressed 44 = .ok (.iadd, 1) := by decide +kernel
theorem dX5_pressed_45 : decode cX5_pressed 45 = .ok (.ireturn, 1) := by decide +kernel
set_option maxRecDepth 20000 in
theorem ggX5_sharers_X5_isString : GoodIn wsX5_sharers wsX5_isString := goodIn_r _ [6, 7, 8, 5, 9] (by decide +kernel) (by decide +kernel)
set_option maxRecDepth 20000 in
theorem gX5_sharers_X5_isString : GoodIn wsX5_sharers (va_wsS RX5 73 yX5_isString wsX5_isString) := goodIn_app (goodIn_of _ (by decide +kernel)) ggX5_sharers_X5_isString
set_option maxRecDepth 20000 in
theorem ggX5_sharers_X0_strikersOf : GoodIn wsX5_sharers wsX0_strikersOf := goodIn_r _ [14, 15, 16, 26, 27, 28, 29, 30] (by decide +kernel) (by decide +kernel)
set_option maxRecDepth 20000 in
theorem gX5_sharers_X0_strikersOf : GoodIn wsX5_sharers (wsV RX5 100 RX0 yX0_strikersOf wsX0_strikersOf) := goodIn_app (goodIn_of _ (by decide +kernel)) ggX5_sharers_X0_strikersOf
theorem dX5_sharers_0 : decode cX5_sharers 0 = .ok (.iload_n 1, 1) := by decide +kernel
theorem dX5_sharers_1 : decode cX5_sharers 1 = .ok (.invokestatic 73, 3) := by decide +kernel
theorem dX5_sharers_4 : decode cX5_sharers 4 = .ok (.ifCond .ne 6, 3) := by decide +kernel
theorem dX5_sharers_7 : decode cX5_sharers 7 = .ok (.ldc 76, 2) := by decide +kernel
theorem dX5_sharers_9 : decode cX5_sharers 9 = .ok (.ireturn, 1) := by decide +kernel
theorem dX5_sharers_10 : decode cX5_sharers 10 = .ok (.aload_n 0, 1) := by decide +kernel
theorem dX5_sharers_11 : decode cX5_sharers 11 = .ok (.getfield 25, 3) := by decide +kernel
theorem dX5_sharers_14 : decode cX5_sharers 14 = .ok (.iload_n 1, 1) := by decide +kernel
theorem dX5_sharers_15 : decode cX5_sharers 15 = .ok (.invokevirtual 100, 3) := by decide +kernel
theorem dX5_sharers_18 : decode cX5_sharers 18 = .ok (.ireturn, 1) := by decide +kernel
set_option maxRecDepth 20000 in
theorem ggX5_order_X0_isInOrder : GoodIn wsX5_order wsX0_isInOrder := goodIn_r _ [6, 7, 8, 9, 10, 5, 11, 12, 13, 14, 15, 16, 17, 18, 19, 20, 21, 22, 36, 37, 38, 39, 40] (by decide +kernel) (by decide +kernel)
set_option maxRecDepth 20000 in
theorem gX5_order_X0_isInOrder : GoodIn wsX5_order (wsV RX5 103 RX0 yX0_isInOrder wsX0_isInOrder) := goodIn_app (goodIn_of _ (by decide +kernel)) ggX5_order_X0_isInOrder
set_option maxRecDepth 20000 in
theorem ggX5_order_X5_asNumber : GoodIn wsX5_order wsX5_asNumber := goodIn_r _ [26] (by decide +kernel) (by decide +kernel)
set_option maxRecDepth 20000 in
theorem gX5_order_X5_asNumber : GoodIn wsX5_order (va_wsS RX5 107 yX5_asNumber wsX5_asNumber) := goodIn_app (goodIn_of _ (by decide +kernel)) ggX5_order_X5_asNumber
theorem dX5_order_0 : decode cX5_order 0 = .ok (.aload_n 0, 1) := by decide +kernel
theorem dX5_order_1 : decode cX5_order 1 = .ok (.getfield 25, 3) := by decide +kernel
theorem dX5_order_4 : decode cX5_order 4 = .ok (.invokevirtual 103, 3) := by decide +kernel
theorem dX5_order_7 : decode cX5_order 7 = .ok (.invokestatic 107, 3) := by decide +kernel
theorem dX5_order_10 : decode cX5_order 10 = .ok (.ireturn, 1) := by decide +kernel
set_option maxRecDepth 20000 in
theorem ggX5_step_X5_isScale : GoodIn wsX5_step wsX5_isScale := goodIn_r _ [7, 8, 9, 6, 10] (by decide +kernel) (by decide +kernel)
set_option maxRecDepth 20000 in
theorem gX5_step_X5_isScale : GoodIn wsX5_step (va_wsS RX5 111 yX5_isScale wsX5_isScale) := goodIn_app (goodIn_of _ (by decide +kernel)) ggX5_step_X5_isScale
set_option maxRecDepth 20000 in
theorem ggX5_step_X5_isStep : GoodIn wsX5_step wsX5_isStep := goodIn_r _ [13, 8, 9, 6, 10] (by decide +kernel) (by decide +kernel)
set_option maxRecDepth 20000 in
theorem gX5_step_X5_isStep : GoodIn wsX5_step (va_wsS RX5 114 yX5_isStep wsX5_isStep) := goodIn_app (goodIn_of _ (by decide +kernel)) ggX5_step_X5_isStep
set_option maxRecDepth 20000 in
theorem ggX5_step_X5_within : GoodIn wsX5_step wsX5_within := goodIn_r _ [10] (by decide +kernel) (by decide +kernel)
set_option maxRecDepth 20000 in
theorem gX5_step_X5_within : GoodIn wsX5_step (va_wsS RX5 61 yX5_within wsX5_within) := goodIn_app (goodIn_of _ (by decide +kernel)) ggX5_step_X5_within
set_option maxRecDepth 20000 in
theorem ggX5_step_X3_put : GoodIn wsX5_step wsX3_put := goodIn_r _ [18, 19, 20, 30, 31] (by decide +kernel) (by decide +kernel)
set_option maxRecDepth 20000 in
theorem gX5_step_X3_put : GoodIn wsX5_step (wsV RX5 117 RX3 yX3_put wsX3_put) := goodIn_app (goodIn_of _ (by decide +kernel)) ggX5_step_X3_put
theorem dX5_step_0 : decode cX5_step 0 = .ok (.iload_n 1, 1) := by decide +kernel
theorem dX5_step_1 : decode cX5_step 1 = .ok (.invokestatic 111, 3) := by decide +kernel
theorem dX5_step_4 : decode cX5_step 4 = .ok (.ifCond .eq 10, 3) := by decide +kernel
theorem dX5_step_7 : decode cX5_step 7 = .ok (.iload_n 2, 1) := by decide +kernel
theorem dX5_step_8 : decode cX5_step 8 = .ok (.invokestatic 114, 3) := by decide +kernel
theorem dX5_step_11 : decode cX5_step 11 = .ok (.ifCond .ne 6, 3) := by decide +kernel
theorem dX5_step_14 : decode cX5_step 14 = .ok (.ldc 76, 2) := by decide +kernel
theorem dX5_step_16 : decode cX5_step 16 = .ok (.ireturn, 1) := by decide +kernel
theorem dX5_step_17 : decode cX5_step 17 = .ok (.iload_n 3, 1) := by decide +kernel
theorem dX5_step_18 : decode cX5_step 18 = .ok (.iconst 1, 1) := by decide +kernel
theorem dX5_step_19 : decode cX5_step 19 = .ok (.sipush 999, 3) := by decide +kernel
theorem dX5_step_22 : decode cX5_step 22 = .ok (.invokestatic 61, 3) := by decide +kernel
theorem dX5_step_25 : decode cX5_step 25 = .ok (.ifCond .eq 15, 3) := by decide +kernel
theorem dX5_step_28 : decode cX5_step 28 = .ok (.iload 4, 2) := by decide +kernel
theorem dX5_step_30 : decode cX5_step 30 = .ok (.iconst 1, 1) := by decide +kernel
theorem dX5_step_31 : decode cX5_step 31 = .ok (.sipush 999, 3) := by decide +kernel
theorem dX5_step_34 : decode cX5_step 34 = .ok (.invokestatic 61, 3) := by decide +kernel
theorem dX5_step_37 : decode cX5_step 37 = .ok (.ifCond .ne 6, 3) := by decide +kernel
theorem dX5_step_40 : decode cX5_step 40 = .ok (.ldc 65, 2) := by decide +kernel
theorem dX5_step_42 : decode cX5_step 42 = .ok (.ireturn, 1) := by decide +kernel
theorem dX5_step_43 : decode cX5_step 43 = .ok (.iload_n 3, 1) := by decide +kernel
theorem dX5_step_44 : decode cX5_step 44 = .ok (.iconst 4, 1) := by decide +kernel
theorem dX5_step_45 : decode cX5_step 45 = .ok (.iload 4, 2) := by decide +kernel
theorem dX5_step_47 : decode cX5_step 47 = .ok (.imul, 1) := by decide +kernel
theorem dX5_step_48 : decode cX5_step 48 = .ok (.if_icmp .le 6, 3) := by decide +kernel
theorem dX5_step_51 : decode cX5_step 51 = .ok (.ldc 65, 2) := by decide +kernel
theorem dX5_step_53 : decode cX5_step 53 = .ok (.ireturn, 1) := by decide +kernel
theorem dX5_step_54 : decode cX5_step 54 = .ok (.aload_n 0, 1) := by decide +kernel
theorem dX5_step_55 : decode cX5_step 55 = .ok (.getfield 32, 3) := by decide +kernel
theorem dX5_step_58 : decode cX5_step 58 = .ok (.iload_n 1, 1) := by decide +kernel
theorem dX5_step_59 : decode cX5_step 59 = .ok (.iload_n 2, 1) := by decide +kernel
theorem dX5_step_60 : decode cX5_step 60 = .ok (.iload_n 3, 1) := by decide +kernel
theorem dX5_step_61 : decode cX5_step 61 = .ok (.iload 4, 2) := by decide +kernel
theorem dX5_step_63 : decode cX5_step 63 = .ok (.invokevirtual 117, 3) := by decide +kernel
theorem dX5_step_66 : decode cX5_step 66 = .ok (.iconst 1, 1) := by decide +kernel
theorem dX5_step_67 : decode cX5_step 67 = .ok (.ireturn, 1) := by decide +kernel
set_option maxRecDepth 20000 in
theorem ggX5_share_X5_isScale : GoodIn wsX5_share wsX5_isScale := goodIn_r _ [6, 7, 8, 5, 9] (by decide +kernel) (by decide +kernel)
set_option maxRecDepth 20000 in
theorem gX5_share_X5_isScale : GoodIn wsX5_share (va_wsS RX5 111 yX5_isScale wsX5_isScale) := goodIn_app (goodIn_of _ (by decide +kernel)) ggX5_share_X5_isScale
set_option maxRecDepth 20000 in
theorem ggX5_share_X5_isStep : GoodIn wsX5_share wsX5_isStep := goodIn_r _ [12, 7, 8, 5, 9] (by decide +kernel) (by decide +kernel)
set_option maxRecDepth 20000 in
theorem gX5_share_X5_isStep : GoodIn wsX5_share (va_wsS RX5 114 yX5_isStep wsX5_isStep) := goodIn_app (goodIn_of _ (by decide +kernel)) ggX5_share_X5_isStep
set_option maxRecDepth 20000 in
theorem ggX5_share_X3_partOf : GoodIn wsX5_share wsX3_partOf := goodIn_r _ [17, 18, 19, 29, 30] (by decide +kernel) (by decide +kernel)
set_option maxRecDepth 20000 in
theorem gX5_share_X3_partOf : GoodIn wsX5_share (wsV RX5 121 RX3 yX3_partOf wsX3_partOf) := goodIn_app (goodIn_of _ (by decide +kernel)) ggX5_share_X3_partOf
theorem dX5_share_0 : decode cX5_share 0 = .ok (.iload_n 1, 1) := by decide +kernel
theorem dX5_share_1 : decode cX5_share 1 = .ok (.invokestatic 111, 3) := by decide +kernel
theorem dX5_share_4 : decode cX5_share 4 = .ok (.ifCond .eq 10, 3) := by decide +kernel
theorem dX5_share_7 : decode cX5_share 7 = .ok (.iload_n 2, 1) := by decide +kernel
theorem dX5_share_8 : decode cX5_share 8 = .ok (.invokestatic 114, 3) := by decide +kernel
theorem dX5_share_11 : decode cX5_share 11 = .ok (.ifCond .ne 6, 3) := by decide +kernel
theorem dX5_share_14 : decode cX5_share 14 = .ok (.ldc 76, 2) := by decide +kernel
theorem dX5_share_16 : decode cX5_share 16 = .ok (.ireturn, 1) := by decide +kernel
theorem dX5_share_17 : decode cX5_share 17 = .ok (.aload_n 0, 1) := by decide +kernel
theorem dX5_share_18 : decode cX5_share 18 = .ok (.getfield 32, 3) := by decide +kernel
theorem dX5_share_21 : decode cX5_share 21 = .ok (.iload_n 1, 1) := by decide +kernel
theorem dX5_share_22 : decode cX5_share 22 = .ok (.iload_n 2, 1) := by decide +kernel
theorem dX5_share_23 : decode cX5_share 23 = .ok (.iload_n 3, 1) := by decide +kernel
theorem dX5_share_24 : decode cX5_share 24 = .ok (.invokevirtual 121, 3) := by decide +kernel
theorem dX5_share_27 : decode cX5_share 27 = .ok (.ireturn, 1) := by decide +kernel
set_option maxRecDepth 20000 in
theorem ggX5_use_X5_isScale : GoodIn wsX5_use wsX5_isScale := goodIn_r _ [6, 7, 8, 5, 9] (by decide +kernel) (by decide +kernel)
set_option maxRecDepth 20000 in
theorem gX5_use_X5_isScale : GoodIn wsX5_use (va_wsS RX5 111 yX5_isScale wsX5_isScale) := goodIn_app (goodIn_of _ (by decide +kernel)) ggX5_use_X5_isScale
theorem dX5_use_0 : decode cX5_use 0 = .ok (.iload_n 1, 1) := by decide +kernel
theorem dX5_use_1 : decode cX5_use 1 = .ok (.invokestatic 111, 3) := by decide +kernel
theorem dX5_use_4 : decode cX5_use 4 = .ok (.ifCond .ne 6, 3) := by decide +kernel
theorem dX5_use_7 : decode cX5_use 7 = .ok (.ldc 76, 2) := by decide +kernel
theorem dX5_use_9 : decode cX5_use 9 = .ok (.ireturn, 1) := by decide +kernel
theorem dX5_use_10 : decode cX5_use 10 = .ok (.aload_n 0, 1) := by decide +kernel
theorem dX5_use_11 : decode cX5_use 11 = .ok (.getfield 7, 3) := by decide +kernel
theorem dX5_use_14 : decode cX5_use 14 = .ok (.istore_n 2, 1) := by decide +kernel
theorem dX5_use_15 : decode cX5_use 15 = .ok (.aload_n 0, 1) := by decide +kernel
theorem dX5_use_16 : decode cX5_use 16 = .ok (.iload_n 1, 1) := by decide +kernel
theorem dX5_use_17 : decode cX5_use 17 = .ok (.putfield 7, 3) := by decide +kernel
theorem dX5_use_20 : decode cX5_use 20 = .ok (.iload_n 2, 1) := by decide +kernel
theorem dX5_use_21 : decode cX5_use 21 = .ok (.ireturn, 1) := by decide +kernel
set_option maxRecDepth 20000 in
theorem ggX5_pitch_X5_isPitch : GoodIn wsX5_pitch wsX5_isPitch := goodIn_r _ [6, 7, 8, 9, 5, 10] (by decide +kernel) (by decide +kernel)
set_option maxRecDepth 20000 in
theorem gX5_pitch_X5_isPitch : GoodIn wsX5_pitch (va_wsS RX5 125 yX5_isPitch wsX5_isPitch) := goodIn_app (goodIn_of _ (by decide +kernel)) ggX5_pitch_X5_isPitch
theorem dX5_pitch_0 : decode cX5_pitch 0 = .ok (.iload_n 1, 1) := by decide +kernel
theorem dX5_pitch_1 : decode cX5_pitch 1 = .ok (.invokestatic 125, 3) := by decide +kernel
theorem dX5_pitch_4 : decode cX5_pitch 4 = .ok (.ifCond .ne 6, 3) := by decide +kernel
theorem dX5_pitch_7 : decode cX5_pitch 7 = .ok (.ldc 65, 2) := by decide +kernel
theorem dX5_pitch_9 : decode cX5_pitch 9 = .ok (.ireturn, 1) := by decide +kernel
theorem dX5_pitch_10 : decode cX5_pitch 10 = .ok (.aload_n 0, 1) := by decide +kernel
theorem dX5_pitch_11 : decode cX5_pitch 11 = .ok (.getfield 13, 3) := by decide +kernel
theorem dX5_pitch_14 : decode cX5_pitch 14 = .ok (.istore_n 2, 1) := by decide +kernel
theorem dX5_pitch_15 : decode cX5_pitch 15 = .ok (.aload_n 0, 1) := by decide +kernel
theorem dX5_pitch_16 : decode cX5_pitch 16 = .ok (.iload_n 1, 1) := by decide +kernel
theorem dX5_pitch_17 : decode cX5_pitch 17 = .ok (.putfield 13, 3) := by decide +kernel
theorem dX5_pitch_20 : decode cX5_pitch 20 = .ok (.iload_n 2, 1) := by decide +kernel
theorem dX5_pitch_21 : decode cX5_pitch 21 = .ok (.ireturn, 1) := by decide +kernel
set_option maxRecDepth 20000 in
theorem ggX5_wrong_X5_allErrors : GoodIn wsX5_wrong wsX5_allErrors := goodIn_r _ [5, 6, 7, 8, 9, 10, 11, 12, 13, 14, 4, 15, 16, 17, 18, 19, 20, 21, 22, 23, 24, 25, 26, 27, 28, 29, 30, 31, 32, 33, 34, 35, 36, 37, 38, 39, 40, 41, 42, 43, 44, 45, 46, 47, 48, 49, 50, 51, 52, 53, 54, 55, 56, 57, 58] (by decide +kernel) (by decide +kernel)
set_option maxRecDepth 20000 in
theorem gX5_wrong_X5_allErrors : GoodIn wsX5_wrong (wsV RX5 128 RX5 yX5_allErrors wsX5_allErrors) := goodIn_app (goodIn_of _ (by decide +kernel)) ggX5_wrong_X5_allErrors
theorem dX5_wrong_0 : decode cX5_wrong 0 = .ok (.aload_n 0, 1) := by decide +kernel
theorem dX5_wrong_1 : decode cX5_wrong 1 = .ok (.invokevirtual 128, 3) := by decide +kernel
theorem dX5_wrong_4 : decode cX5_wrong 4 = .ok (.ireturn, 1) := by decide +kernel
set_option maxRecDepth 20000 in
theorem ggX5_tune_X0_has : GoodIn wsX5_tune wsX0_has := goodIn_r _ [7, 8, 59, 60, 61, 62, 63] (by decide +kernel) (by decide +kernel)
set_option maxRecDepth 20000 in
theorem gX5_tune_X0_has : GoodIn wsX5_tune (wsV RX5 69 RX0 yX0_has wsX0_has) := goodIn_app (goodIn_of _ (by decide +kernel)) ggX5_tune_X0_has
set_option maxRecDepth 20000 in
theorem ggX5_tune_X5_tuneOne : GoodIn wsX5_tune wsX5_tuneOne := goodIn_r _ [13, 1, 14, 15, 16, 17, 18, 19, 20, 21, 12, 22, 23, 24, 25, 26, 27, 28, 29, 30, 31, 32, 33, 34, 35, 6, 36, 37, 38, 39, 50, 51, 52, 53, 54, 55, 56, 57, 58, 59, 60, 61, 62, 63, 64, 65] (by decide +kernel) (by decide +kernel)
set_option maxRecDepth 20000 in
theorem gX5_tune_X5_tuneOne : GoodIn wsX5_tune (wsV RX5 132 RX5 yX5_tuneOne wsX5_tuneOne) := goodIn_app (goodIn_of _ (by decide +kernel)) ggX5_tune_X5_tuneOne
set_option maxRecDepth 20000 in
theorem ggX5_tune_X5_errorOf : GoodIn wsX5_tune wsX5_errorOf := goodIn_r _ [43, 1, 44, 45, 46, 6, 47, 48, 49, 34, 35, 36, 37, 38, 39, 19, 20, 21, 12, 22, 23, 24, 25, 26, 27, 28, 29, 30, 31, 32, 50, 51, 52, 53, 54, 55, 56, 57, 58, 59, 60, 61, 62, 63, 64, 65] (by decide +kernel) (by decide +kernel)
set_option maxRecDepth 20000 in
theorem gX5_tune_X5_errorOf : GoodIn wsX5_tune (wsV RX5 97 RX5 yX5_errorOf wsX5_errorOf) := goodIn_app (goodIn_of _ (by decide +kernel)) ggX5_tune_X5_errorOf
theorem dX5_tune_0 : decode cX5_tune 0 = .ok (.aload_n 0, 1) := by decide +kernel
theorem dX5_tune_1 : decode cX5_tune 1 = .ok (.getfield 25, 3) := by decide +kernel
theorem dX5_tune_4 : decode cX5_tune 4 = .ok (.iload_n 1, 1) := by decide +kernel
theorem dX5_tune_5 : decode cX5_tune 5 = .ok (.invokevirtual 69, 3) := by decide +kernel
theorem dX5_tune_8 : decode cX5_tune 8 = .ok (.ifCond .ne 6, 3) := by decide +kernel
theorem dX5_tune_11 : decode cX5_tune 11 = .ok (.ldc 76, 2) := by decide +kernel
theorem dX5_tune_13 : decode cX5_tune 13 = .ok (.ireturn, 1) := by decide +kernel
theorem dX5_tune_14 : decode cX5_tune 14 = .ok (.aload_n 0, 1) := by decide +kernel
theorem dX5_tune_15 : decode cX5_tune 15 = .ok (.iload_n 1, 1) := by decide +kernel
theorem dX5_tune_16 : decode cX5_tune 16 = .ok (.invokevirtual 132, 3) := by decide +kernel
theorem dX5_tune_19 : decode cX5_tune 19 = .ok (.aload_n 0, 1) := by decide +kernel
theorem dX5_tune_20 : decode cX5_tune 20 = .ok (.iload_n 1, 1) := by decide +kernel
theorem dX5_tune_21 : decode cX5_tune 21 = .ok (.invokevirtual 97, 3) := by decide +kernel
theorem dX5_tune_24 : decode cX5_tune 24 = .ok (.ireturn, 1) := by decide +kernel
set_option maxRecDepth 20000 in
theorem ggX5_tuneAll_X5_tuneOne : GoodIn wsX5_tuneAll wsX5_tuneOne := goodIn_r _ [7, 1, 8, 9, 10, 11, 12, 13, 14, 15, 6, 16, 17, 18, 19, 20, 21, 22, 23, 24, 25, 26, 27, 28, 29, 30, 31, 32, 33, 34, 49, 50, 51, 52, 53, 54, 55, 56, 57, 58, 59, 60, 61, 62, 63, 64] (by decide +kernel) (by decide +kernel)
set_option maxRecDepth 20000 in
theorem gX5_tuneAll_X5_tuneOne : GoodIn wsX5_tuneAll (wsV RX5 132 RX5 yX5_tuneOne wsX5_tuneOne) := goodIn_app (goodIn_of _ (by decide +kernel)) ggX5_tuneAll_X5_tuneOne
set_option maxRecDepth 20000 in
theorem ggX5_tuneAll_X5_allErrors : GoodIn wsX5_tuneAll wsX5_allErrors := goodIn_r _ [38, 1, 2, 8, 9, 10, 11, 39, 40, 41, 6, 42, 43, 44, 45, 30, 46, 47, 48, 28, 29, 31, 32, 33, 34, 13, 14, 15, 16, 17, 18, 19, 20, 21, 22, 23, 24, 25, 26, 49, 50, 51, 52, 53, 54, 55, 56, 57, 58, 59, 60, 61, 62, 63, 64] (by decide +kernel) (by decide +kernel)
set_option maxRecDepth 20000 in
theorem gX5_tuneAll_X5_allErrors : GoodIn wsX5_tuneAll (wsV RX5 128 RX5 yX5_allErrors wsX5_allErrors) := goodIn_app (goodIn_of _ (by decide +kernel)) ggX5_tuneAll_X5_allErrors
theorem dX5_tuneAll_0 : decode cX5_tuneAll 0 = .ok (.iconst 0, 1) := by decide +kernel
theorem dX5_tuneAll_1 : decode cX5_tuneAll 1 = .ok (.istore_n 1, 1) := by decide +kernel
theorem dX5_tuneAll_2 : decode cX5_tuneAll 2 = .ok (.iload_n 1, 1) := by decide +kernel
theorem dX5_tuneAll_3 : decode cX5_tuneAll 3 = .ok (.aload_n 0, 1) := by decide +kernel
theorem dX5_tuneAll_4 : decode cX5_tuneAll 4 = .ok (.getfield 25, 3) := by decide +kernel
theorem dX5_tuneAll_7 : decode cX5_tuneAll 7 = .ok (.getfield 66, 3) := by decide +kernel
theorem dX5_tuneAll_10 : decode cX5_tuneAll 10 = .ok (.if_icmp .ge 14, 3) := by decide +kernel
theorem dX5_tuneAll_13 : decode cX5_tuneAll 13 = .ok (.aload_n 0, 1) := by decide +kernel
theorem dX5_tuneAll_14 : decode cX5_tuneAll 14 = .ok (.iload_n 1, 1) := by decide +kernel
theorem dX5_tuneAll_15 : decode cX5_tuneAll 15 = .ok (.invokevirtual 132, 3) := by decide +kernel
theorem dX5_tuneAll_18 : decode cX5_tuneAll 18 = .ok (.iinc 1 1, 3) := by decide +kernel
theorem dX5_tuneAll_21 : decode cX5_tuneAll 21 = .ok (.goto (-19), 3) := by decide +kernel
theorem dX5_tuneAll_24 : decode cX5_tuneAll 24 = .ok (.aload_n 0, 1) := by decide +kernel
theorem dX5_tuneAll_25 : decode cX5_tuneAll 25 = .ok (.invokevirtual 128, 3) := by decide +kernel
theorem dX5_tuneAll_28 : decode cX5_tuneAll 28 = .ok (.ireturn, 1) := by decide +kernel
set_option maxRecDepth 20000 in
theorem ggX5_worst_X5_errorOf : GoodIn wsX5_worst wsX5_errorOf := goodIn_r _ [11, 5, 12, 13, 14, 15, 16, 17, 18, 19, 20, 21, 22, 23, 24, 25, 26, 27, 10, 28, 29, 30, 31, 32, 33, 34, 35, 36, 37, 38, 39, 40, 41, 42, 43, 44, 45, 46, 47, 48, 49, 50, 51, 52, 53, 54] (by decide +kernel) (by decide +kernel)
set_option maxRecDepth 20000 in
theorem gX5_worst_X5_errorOf : GoodIn wsX5_worst (wsV RX5 97 RX5 yX5_errorOf wsX5_errorOf) := goodIn_app (goodIn_of _ (by decide +kernel)) ggX5_worst_X5_errorOf
theorem dX5_worst_0 : decode cX5_worst 0 = .ok (.iconst 0, 1) := by decide +kernel
theorem dX5_worst_1 : decode cX5_worst 1 = .ok (.istore_n 1, 1) := by decide +kernel
theorem dX5_worst_2 : decode cX5_worst 2 = .ok (.aload_n 0, 1) := by decide +kernel
theorem dX5_worst_3 : decode cX5_worst 3 = .ok (.iconst 0, 1) := by decide +kernel
theorem dX5_worst_4 : decode cX5_worst 4 = .ok (.invokevirtual 97, 3) := by decide +kernel
theorem dX5_worst_7 : decode cX5_worst 7 = .ok (.invokestatic 136, 3) := by decide +kernel
theorem dX5_worst_10 : decode cX5_worst 10 = .ok (.istore_n 2, 1) := by decide +kernel
theorem dX5_worst_11 : decode cX5_worst 11 = .ok (.iconst 1, 1) := by decide +kernel
theorem dX5_worst_12 : decode cX5_worst 12 = .ok (.istore_n 3, 1) := by decide +kernel
theorem dX5_worst_13 : decode cX5_worst 13 = .ok (.iload_n 3, 1) := by decide +kernel
theorem dX5_worst_14 : decode cX5_worst 14 = .ok (.aload_n 0, 1) := by decide +kernel
theorem dX5_worst_15 : decode cX5_worst 15 = .ok (.getfield 25, 3) := by decide +kernel
theorem dX5_worst_18 : decode cX5_worst 18 = .ok (.getfield 66, 3) := by decide +kernel
theorem dX5_worst_21 : decode cX5_worst 21 = .ok (.if_icmp .ge 30, 3) := by decide +kernel
theorem dX5_worst_24 : decode cX5_worst 24 = .ok (.aload_n 0, 1) := by decide +kernel
theorem dX5_worst_25 : decode cX5_worst 25 = .ok (.iload_n 3, 1) := by decide +kernel
theorem dX5_worst_26 : decode cX5_worst 26 = .ok (.invokevirtual 97, 3) := by decide +kernel
theorem dX5_worst_29 : decode cX5_worst 29 = .ok (.invokestatic 136, 3) := by decide +kernel
theorem dX5_worst_32 : decode cX5_worst 32 = .ok (.istore 4, 2) := by decide +kernel
theorem dX5_worst_34 : decode cX5_worst 34 = .ok (.iload 4, 2) := by decide +kernel
theorem dX5_worst_36 : decode cX5_worst 36 = .ok (.iload_n 2, 1) := by decide +kernel
theorem dX5_worst_37 : decode cX5_worst 37 = .ok (.if_icmp .le 8, 3) := by decide +kernel
theorem dX5_worst_40 : decode cX5_worst 40 = .ok (.iload 4, 2) := by decide +kernel
theorem dX5_worst_42 : decode cX5_worst 42 = .ok (.istore_n 2, 1) := by decide +kernel
theorem dX5_worst_43 : decode cX5_worst 43 = .ok (.iload_n 3, 1) := by decide +kernel
theorem dX5_worst_44 : decode cX5_worst 44 = .ok (.istore_n 1, 1) := by decide +kernel
theorem dX5_worst_45 : decode cX5_worst 45 = .ok (.iinc 3 1, 3) := by decide +kernel
theorem dX5_worst_48 : decode cX5_worst 48 = .ok (.goto (-35), 3) := by decide +kernel
theorem dX5_worst_51 : decode cX5_worst 51 = .ok (.iload_n 1, 1) := by decide +kernel
theorem dX5_worst_52 : decode cX5_worst 52 = .ok (.ireturn, 1) := by decide +kernel
set_option maxRecDepth 20000 in
theorem ggX5_note_X5_isPiece : GoodIn wsX5_note wsX5_isPiece := goodIn_r _ [9, 10, 11, 8, 12] (by decide +kernel) (by decide +kernel)
set_option maxRecDepth 20000 in
theorem gX5_note_X5_isPiece : GoodIn wsX5_note (va_wsS RX5 141 yX5_isPiece wsX5_isPiece) := goodIn_app (goodIn_of _ (by decide +kernel)) ggX5_note_X5_isPiece
set_option maxRecDepth 20000 in
theorem ggX5_note_X5_within : GoodIn wsX5_note wsX5_within := goodIn_r _ [12] (by decide +kernel) (by decide +kernel)
set_option maxRecDepth 20000 in
theorem gX5_note_X5_within : GoodIn wsX5_note (va_wsS RX5 61 yX5_within wsX5_within) := goodIn_app (goodIn_of _ (by decide +kernel)) ggX5_note_X5_within
set_option maxRecDepth 20000 in
theorem ggX5_note_X1_lastBegin : GoodIn wsX5_note wsX1_lastBegin := goodIn_r _ [17, 18, 19, 20, 21, 22, 16, 23, 43, 44, 45, 46, 47] (by decide +kernel) (by decide +kernel)
set_option maxRecDepth 20000 in
theorem gX5_note_X1_lastBegin : GoodIn wsX5_note (wsV RX5 144 RX1 yX1_lastBegin wsX1_lastBegin) := goodIn_app (goodIn_of _ (by decide +kernel)) ggX5_note_X1_lastBegin
set_option maxRecDepth 20000 in
theorem ggX5_note_X1_isFull : GoodIn wsX5_note wsX1_isFull := goodIn_r _ [27, 18, 43, 44, 45, 46, 47] (by decide +kernel) (by decide +kernel)
set_option maxRecDepth 20000 in
theorem gX5_note_X1_isFull : GoodIn wsX5_note (wsV RX5 148 RX1 yX1_isFull wsX1_isFull) := goodIn_app (goodIn_of _ (by decide +kernel)) ggX5_note_X1_isFull
set_option maxRecDepth 20000 in
theorem ggX5_note_X1_append : GoodIn wsX5_note wsX1_append := goodIn_r _ [31, 32, 19, 33, 18, 20, 21, 22, 16, 23, 43, 44, 45, 46, 47] (by decide +kernel) (by decide +kernel)
set_option maxRecDepth 20000 in
theorem gX5_note_X1_append : GoodIn wsX5_note (wsV RX5 152 RX1 yX1_append wsX1_append) := goodIn_app (goodIn_of _ (by decide +kernel)) ggX5_note_X1_append
theorem dX5_note_0 : decode cX5_note 0 = .ok (.iload_n 1, 1) := by decide +kernel
theorem dX5_note_1 : decode cX5_note 1 = .ok (.invokestatic 141, 3) := by decide +kernel
theorem dX5_note_4 : decode cX5_note 4 = .ok (.ifCond .ne 6, 3) := by decide +kernel
theorem dX5_note_7 : decode cX5_note 7 = .ok (.ldc 76, 2) := by decide +kernel
theorem dX5_note_9 : decode cX5_note 9 = .ok (.ireturn, 1) := by decide +kernel
theorem dX5_note_10 : decode cX5_note 10 = .ok (.iload_n 2, 1) := by decide +kernel
theorem dX5_note_11 : decode cX5_note 11 = .ok (.iconst 0, 1) := by decide +kernel
theorem dX5_note_12 : decode cX5_note 12 = .ok (.bipush 23, 2) := by decide +kernel
theorem dX5_note_14 : decode cX5_note 14 = .ok (.invokestatic 61, 3) := by decide +kernel
theorem dX5_note_17 : decode cX5_note 17 = .ok (.ifCond .ne 6, 3) := by decide +kernel
theorem dX5_note_20 : decode cX5_note 20 = .ok (.ldc 65, 2) := by decide +kernel
theorem dX5_note_22 : decode cX5_note 22 = .ok (.ireturn, 1) := by decide +kernel
theorem dX5_note_23 : decode cX5_note 23 = .ok (.iload_n 3, 1) := by decide +kernel
theorem dX5_note_24 : decode cX5_note 24 = .ok (.iconst 0, 1) := by decide +kernel
theorem dX5_note_25 : decode cX5_note 25 = .ok (.sipush 999, 3) := by decide +kernel
theorem dX5_note_28 : decode cX5_note 28 = .ok (.invokestatic 61, 3) := by decide +kernel
theorem dX5_note_31 : decode cX5_note 31 = .ok (.ifCond .eq 14, 3) := by decide +kernel
theorem dX5_note_34 : decode cX5_note 34 = .ok (.iload 4, 2) := by decide +kernel
theorem dX5_note_36 : decode cX5_note 36 = .ok (.iconst 1, 1) := by decide +kernel
theorem dX5_note_37 : decode cX5_note 37 = .ok (.bipush 99, 2) := by decide +kernel
theorem dX5_note_39 : decode cX5_note 39 = .ok (.invokestatic 61, 3) := by decide +kernel
theorem dX5_note_42 : decode cX5_note 42 = .ok (.ifCond .ne 6, 3) := by decide +kernel
theorem dX5_note_45 : decode cX5_note 45 = .ok (.ldc 65, 2) := by decide +kernel
theorem dX5_note_47 : decode cX5_note 47 = .ok (.ireturn, 1) := by decide +kernel
theorem dX5_note_48 : decode cX5_note 48 = .ok (.iload_n 3, 1) := by decide +kernel
theorem dX5_note_49 : decode cX5_note 49 = .ok (.aload_n 0, 1) := by decide +kernel
theorem dX5_note_50 : decode cX5_note 50 = .ok (.getfield 41, 3) := by decide +kernel
theorem dX5_note_53 : decode cX5_note 53 = .ok (.iload_n 1, 1) := by decide +kernel
theorem dX5_note_54 : decode cX5_note 54 = .ok (.invokevirtual 144, 3) := by decide +kernel
theorem dX5_note_57 : decode cX5_note 57 = .ok (.if_icmp .ge 6, 3) := by decide +kernel
theorem dX5_note_60 : decode cX5_note 60 = .ok (.ldc 147, 2) := by decide +kernel
theorem dX5_note_62 : decode cX5_note 62 = .ok (.ireturn, 1) := by decide +kernel
theorem dX5_note_63 : decode cX5_note 63 = .ok (.aload_n 0, 1) := by decide +kernel
theorem dX5_note_64 : decode cX5_note 64 = .ok (.getfield 41, 3) := by decide +kernel
theorem dX5_note_67 : decode cX5_note 67 = .ok (.iload_n 1, 1) := by decide +kernel
theorem dX5_note_68 : decode cX5_note 68 = .ok (.invokevirtual 148, 3) := by decide +kernel
theorem dX5_note_71 : decode cX5_note 71 = .ok (.ifCond .eq 6, 3) := by decide +kernel
theorem dX5_note_74 : decode cX5_note 74 = .ok (.ldc 151, 2) := by decide +kernel
theorem dX5_note_76 : decode cX5_note 76 = .ok (.ireturn, 1) := by decide +kernel
theorem dX5_note_77 : decode cX5_note 77 = .ok (.aload_n 0, 1) := by decide +kernel
theorem dX5_note_78 : decode cX5_note 78 = .ok (.getfield 41, 3) := by decide +kernel
theorem dX5_note_81 : decode cX5_note 81 = .ok (.iload_n 1, 1) := by decide +kernel
theorem dX5_note_82 : decode cX5_note 82 = .ok (.iload_n 2, 1) := by decide +kernel
theorem dX5_note_83 : decode cX5_note 83 = .ok (.iload_n 3, 1) := by decide +kernel
theorem dX5_note_84 : decode cX5_note 84 = .ok (.iload 4, 2) := by decide +kernel
theorem dX5_note_86 : decode cX5_note 86 = .ok (.invokevirtual 152, 3) := by decide +kernel
theorem dX5_note_89 : decode cX5_note 89 = .ok (.ireturn, 1) := by decide +kernel
set_option maxRecDepth 20000 in
theorem ggX5_wipe_X5_isPiece : GoodIn wsX5_wipe wsX5_isPiece := goodIn_r _ [7, 8, 9, 6, 10] (by decide +kernel) (by decide +kernel)
set_option maxRecDepth 20000 in
theorem gX5_wipe_X5_isPiece : GoodIn wsX5_wipe (va_wsS RX5 141 yX5_isPiece wsX5_isPiece) := goodIn_app (goodIn_of _ (by decide +kernel)) ggX5_wipe_X5_isPiece
theorem dX5_wipe_0 : decode cX5_wipe 0 = .ok (.iload_n 1, 1) := by decide +kernel
theorem dX5_wipe_1 : decode cX5_wipe 1 = .ok (.invokestatic 141, 3) := by decide +kernel
theorem dX5_wipe_4 : decode cX5_wipe 4 = .ok (.ifCond .ne 6, 3) := by decide +kernel
theorem dX5_wipe_7 : decode cX5_wipe 7 = .ok (.ldc 76, 2) := by decide +kernel
theorem dX5_wipe_9 : decode cX5_wipe 9 = .ok (.ireturn, 1) := by decide +kernel
theorem dX5_wipe_10 : decode cX5_wipe 10 = .ok (.aload_n 0, 1) := by decide +kernel
theorem dX5_wipe_11 : decode cX5_wipe 11 = .ok (.getfield 41, 3) := by decide +kernel
theorem dX5_wipe_14 : decode cX5_wipe 14 = .ok (.getfield 156, 3) := by decide +kernel
theorem dX5_wipe_17 : decode cX5_wipe 17 = .ok (.iload_n 1, 1) := by decide +kernel
theorem dX5_wipe_18 : decode cX5_wipe 18 = .ok (.iaload, 1) := by decide +kernel
theorem dX5_wipe_19 : decode cX5_wipe 19 = .ok (.istore_n 2, 1) := by decide +kernel
theorem dX5_wipe_20 : decode cX5_wipe 20 = .ok (.aload_n 0, 1) := by decide +kernel
theorem dX5_wipe_21 : decode cX5_wipe 21 = .ok (.getfield 41, 3) := by decide +kernel
theorem dX5_wipe_24 : decode cX5_wipe 24 = .ok (.getfield 156, 3) := by decide +kernel
theorem dX5_wipe_27 : decode cX5_wipe 27 = .ok (.iload_n 1, 1) := by decide +kernel
theorem dX5_wipe_28 : decode cX5_wipe 28 = .ok (.iconst 0, 1) := by decide +kernel
theorem dX5_wipe_29 : decode cX5_wipe 29 = .ok (.iastore, 1) := by decide +kernel
theorem dX5_wipe_30 : decode cX5_wipe 30 = .ok (.iload_n 2, 1) := by decide +kernel
theorem dX5_wipe_31 : decode cX5_wipe 31 = .ok (.ireturn, 1) := by decide +kernel
set_option maxRecDepth 20000 in
theorem ggX5_rest_X5_within : GoodIn wsX5_rest wsX5_within := goodIn_r _ [6] (by decide +kernel) (by decide +kernel)
set_option maxRecDepth 20000 in
theorem gX5_rest_X5_within : GoodIn wsX5_rest (va_wsS RX5 61 yX5_within wsX5_within) := goodIn_app (goodIn_of _ (by decide +kernel)) ggX5_rest_X5_within
theorem dX5_rest_0 : decode cX5_rest 0 = .ok (.iload_n 1, 1) := by decide +kernel
theorem dX5_rest_1 : decode cX5_rest 1 = .ok (.iconst 0, 1) := by decide +kernel
theorem dX5_rest_2 : decode cX5_rest 2 = .ok (.bipush 20, 2) := by decide +kernel
theorem dX5_rest_4 : decode cX5_rest 4 = .ok (.invokestatic 61, 3) := by decide +kernel
theorem dX5_rest_7 : decode cX5_rest 7 = .ok (.ifCond .ne 6, 3) := by decide +kernel
theorem dX5_rest_10 : decode cX5_rest 10 = .ok (.ldc 65, 2) := by decide +kernel
theorem dX5_rest_12 : decode cX5_rest 12 = .ok (.ireturn, 1) := by decide +kernel
theorem dX5_rest_13 : decode cX5_rest 13 = .ok (.aload_n 0, 1) := by decide +kernel
theorem dX5_rest_14 : decode cX5_rest 14 = .ok (.getfield 16, 3) := by decide +kernel
theorem dX5_rest_17 : decode cX5_rest 17 = .ok (.istore_n 2, 1) := by decide +kernel
theorem dX5_rest_18 : decode cX5_rest 18 = .ok (.aload_n 0, 1) := by decide +kernel
theorem dX5_rest_19 : decode cX5_rest 19 = .ok (.iload_n 1, 1) := by decide +kernel
theorem dX5_rest_20 : decode cX5_rest 20 = .ok (.putfield 16, 3) := by decide +kernel
theorem dX5_rest_23 : decode cX5_rest 23 = .ok (.iload_n 2, 1) := by decide +kernel
theorem dX5_rest_24 : decode cX5_rest 24 = .ok (.ireturn, 1) := by decide +kernel
set_option maxRecDepth 20000 in
theorem ggX5_clashes_X5_isPiece : GoodIn wsX5_clashes wsX5_isPiece := goodIn_r _ [6, 7, 8, 5, 9] (by decide +kernel) (by decide +kernel)
set_option maxRecDepth 20000 in
theorem gX5_clashes_X5_isPiece : GoodIn wsX5_clashes (va_wsS RX5 141 yX5_isPiece wsX5_isPiece) := goodIn_app (goodIn_of _ (by decide +kernel)) ggX5_clashes_X5_isPiece
set_option maxRecDepth 20000 in
theorem ggX5_clashes_X1_countClashes : GoodIn wsX5_clashes wsX1_countClashes := goodIn_r _ [14, 15, 16, 17, 13, 18, 19, 20, 21, 22, 23, 24, 25, 26, 27, 28, 29, 30, 31, 32, 33, 34, 35, 36, 37, 38, 39, 40, 41, 42, 43, 44, 45, 46, 47, 48, 49, 50, 60, 61, 62, 63, 64, 65, 66, 67, 68, 69] (by decide +kernel) (by decide +kernel)
set_option maxRecDepth 20000 in
theorem gX5_clashes_X1_countClashes : GoodIn wsX5_clashes (wsV RX5 159 RX1 yX1_countClashes wsX1_countClashes) := goodIn_app (goodIn_of _ (by decide +kernel)) ggX5_clashes_X1_countClashes
theorem dX5_clashes_0 : decode cX5_clashes 0 = .ok (.iload_n 1, 1) := by decide +kernel
theorem dX5_clashes_1 : decode cX5_clashes 1 = .ok (.invokestatic 141, 3) := by decide +kernel
theorem dX5_clashes_4 : decode cX5_clashes 4 = .ok (.ifCond .ne 6, 3) := by decide +kernel
theorem dX5_clashes_7 : decode cX5_clashes 7 = .ok (.ldc 76, 2) := by decide +kernel
theorem dX5_clashes_9 : decode cX5_clashes 9 = .ok (.ireturn, 1) := by decide +kernel
theorem dX5_clashes_10 : decode cX5_clashes 10 = .ok (.aload_n 0, 1) := by decide +kernel
theorem dX5_clashes_11 : decode cX5_clashes 11 = .ok (.getfield 41, 3) := by decide +kernel
theorem dX5_clashes_14 : decode cX5_clashes 14 = .ok (.iload_n 1, 1) := by decide +kernel
theorem dX5_clashes_15 : decode cX5_clashes 15 = .ok (.invokevirtual 159, 3) := by decide +kernel
theorem dX5_clashes_18 : decode cX5_clashes 18 = .ok (.ireturn, 1) := by decide +kernel
set_option maxRecDepth 20000 in
theorem ggX5_clash_X5_isPiece : GoodIn wsX5_clash wsX5_isPiece := goodIn_r _ [6, 7, 8, 5, 9] (by decide +kernel) (by decide +kernel)
set_option maxRecDepth 20000 in
theorem gX5_clash_X5_isPiece : GoodIn wsX5_clash (va_wsS RX5 141 yX5_isPiece wsX5_isPiece) := goodIn_app (goodIn_of _ (by decide +kernel)) ggX5_clash_X5_isPiece
set_option maxRecDepth 20000 in
theorem ggX5_clash_X1_clashNumbered : GoodIn wsX5_clash wsX1_clashNumbered := goodIn_r _ [14, 15, 16, 17, 18, 13, 19, 20, 21, 22, 23, 24, 25, 26, 27, 28, 29, 30, 31, 32, 33, 34, 35, 36, 37, 38, 39, 40, 41, 42, 43, 44, 45, 46, 47, 48, 49, 50, 51, 61, 62, 63, 64, 65, 66, 67, 68, 69, 70] (by decide +kernel) (by decide +kernel)
set_option maxRecDepth 20000 in
theorem gX5_clash_X1_clashNumbered : GoodIn wsX5_clash (wsV RX5 162 RX1 yX1_clashNumbered wsX1_clashNumbered) := goodIn_app (goodIn_of _ (by decide +kernel)) ggX5_clash_X1_clashNumbered
theorem dX5_clash_0 : decode cX5_clash 0 = .ok (.iload_n 1, 1) := by decide +kernel
theorem dX5_clash_1 : decode cX5_clash 1 = .ok (.invokestatic 141, 3) := by decide +kernel
theorem dX5_clash_4 : decode cX5_clash 4 = .ok (.ifCond .ne 6, 3) := by decide +kernel
theorem dX5_clash_7 : decode cX5_clash 7 = .ok (.ldc 76, 2) := by decide +kernel
theorem dX5_clash_9 : decode cX5_clash 9 = .ok (.ireturn, 1) := by decide +kernel
theorem dX5_clash_10 : decode cX5_clash 10 = .ok (.aload_n 0, 1) := by decide +kernel
theorem dX5_clash_11 : decode cX5_clash 11 = .ok (.getfield 41, 3) := by decide +kernel
theorem dX5_clash_14 : decode cX5_clash 14 = .ok (.iload_n 1, 1) := by decide +kernel
theorem dX5_clash_15 : decode cX5_clash 15 = .ok (.iload_n 2, 1) := by decide +kernel
theorem dX5_clash_16 : decode cX5_clash 16 = .ok (.invokevirtual 162, 3) := by decide +kernel
theorem dX5_clash_19 : decode cX5_clash 19 = .ok (.ireturn, 1) := by decide +kernel
set_option maxRecDepth 20000 in
theorem ggX5_chokes_X5_isPiece : GoodIn wsX5_chokes wsX5_isPiece := goodIn_r _ [7, 8, 9, 6, 10] (by decide +kernel) (by decide +kernel)
set_option maxRecDepth 20000 in
theorem gX5_chokes_X5_isPiece : GoodIn wsX5_chokes (va_wsS RX5 141 yX5_isPiece wsX5_isPiece) := goodIn_app (goodIn_of _ (by decide +kernel)) ggX5_chokes_X5_isPiece
set_option maxRecDepth 20000 in
theorem ggX5_chokes_X1_countChokes : GoodIn wsX5_chokes wsX1_countChokes := goodIn_r _ [15, 16, 17, 18, 19, 20, 21, 14, 22, 23, 24, 25, 26, 27, 28, 29, 30, 31, 32, 33, 34, 35, 36, 37, 38, 39, 40, 41, 42, 43, 53, 54, 55, 56, 57, 58, 59, 60, 61, 62] (by decide +kernel) (by decide +kernel)
set_option maxRecDepth 20000 in
theorem gX5_chokes_X1_countChokes : GoodIn wsX5_chokes (wsV RX5 166 RX1 yX1_countChokes wsX1_countChokes) := goodIn_app (goodIn_of _ (by decide +kernel)) ggX5_chokes_X1_countChokes
theorem dX5_chokes_0 : decode cX5_chokes 0 = .ok (.iload_n 1, 1) := by decide +kernel
theorem dX5_chokes_1 : decode cX5_chokes 1 = .ok (.invokestatic 141, 3) := by decide +kernel
theorem dX5_chokes_4 : decode cX5_chokes 4 = .ok (.ifCond .ne 6, 3) := by decide +kernel
theorem dX5_chokes_7 : decode cX5_chokes 7 = .ok (.ldc 76, 2) := by decide +kernel
theorem dX5_chokes_9 : decode cX5_chokes 9 = .ok (.ireturn, 1) := by decide +kernel
theorem dX5_chokes_10 : decode cX5_chokes 10 = .ok (.aload_n 0, 1) := by decide +kernel
theorem dX5_chokes_11 : decode cX5_chokes 11 = .ok (.getfield 41, 3) := by decide +kernel
theorem dX5_chokes_14 : decode cX5_chokes 14 = .ok (.iload_n 1, 1) := by decide +kernel
theorem dX5_chokes_15 : decode cX5_chokes 15 = .ok (.aload_n 0, 1) := by decide +kernel
theorem dX5_chokes_16 : decode cX5_chokes 16 = .ok (.getfield 16, 3) := by decide +kernel
theorem dX5_chokes_19 : decode cX5_chokes 19 = .ok (.invokevirtual 166, 3) := by decide +kernel
theorem dX5_chokes_22 : decode cX5_chokes 22 = .ok (.ireturn, 1) := by decide +kernel
set_option maxRecDepth 20000 in
theorem ggX5_trills_X5_isPiece : GoodIn wsX5_trills wsX5_isPiece := goodIn_r _ [6, 7, 8, 5, 9] (by decide +kernel) (by decide +kernel)
set_option maxRecDepth 20000 in
theorem gX5_trills_X5_isPiece : GoodIn wsX5_trills (va_wsS RX5 141 yX5_isPiece wsX5_isPiece) := goodIn_app (goodIn_of _ (by decide +kernel)) ggX5_trills_X5_isPiece
set_option maxRecDepth 20000 in
theorem ggX5_trills_X1_countTrills : GoodIn wsX5_trills wsX1_countTrills := goodIn_r _ [14, 15, 16, 17, 18, 19, 13, 20, 21, 22, 23, 24, 25, 26, 27, 28, 29, 30, 31, 32, 33, 34, 35, 36, 37, 38, 39, 40, 41, 42, 43, 44, 45, 46, 47, 48, 49, 50, 60, 61, 62, 63, 64, 65, 66, 67, 68, 69] (by decide +kernel) (by decide +kernel)
set_option maxRecDepth 20000 in
theorem gX5_trills_X1_countTrills : GoodIn wsX5_trills (wsV RX5 169 RX1 yX1_countTrills wsX1_countTrills) := goodIn_app (goodIn_of _ (by decide +kernel)) ggX5_trills_X1_countTrills
theorem dX5_trills_0 : decode cX5_trills 0 = .ok (.iload_n 1, 1) := by decide +kernel
theorem dX5_trills_1 : decode cX5_trills 1 = .ok (.invokestatic 141, 3) := by decide +kernel
theorem dX5_trills_4 : decode cX5_trills 4 = .ok (.ifCond .ne 6, 3) := by decide +kernel
theorem dX5_trills_7 : decode cX5_trills 7 = .ok (.ldc 76, 2) := by decide +kernel
theorem dX5_trills_9 : decode cX5_trills 9 = .ok (.ireturn, 1) := by decide +kernel
theorem dX5_trills_10 : decode cX5_trills 10 = .ok (.aload_n 0, 1) := by decide +kernel
theorem dX5_trills_11 : decode cX5_trills 11 = .ok (.getfield 41, 3) := by decide +kernel
theorem dX5_trills_14 : decode cX5_trills 14 = .ok (.iload_n 1, 1) := by decide +kernel
theorem dX5_trills_15 : decode cX5_trills 15 = .ok (.iload_n 2, 1) := by decide +kernel
theorem dX5_trills_16 : decode cX5_trills 16 = .ok (.invokevirtual 169, 3) := by decide +kernel
theorem dX5_trills_19 : decode cX5_trills 19 = .ok (.ireturn, 1) := by decide +kernel
set_option maxRecDepth 20000 in
theorem ggX5_heard_X5_isPiece : GoodIn wsX5_heard wsX5_isPiece := goodIn_r _ [7, 8, 9, 6, 10] (by decide +kernel) (by decide +kernel)
set_option maxRecDepth 20000 in
theorem gX5_heard_X5_isPiece : GoodIn wsX5_heard (va_wsS RX5 141 yX5_isPiece wsX5_isPiece) := goodIn_app (goodIn_of _ (by decide +kernel)) ggX5_heard_X5_isPiece
set_option maxRecDepth 20000 in
theorem ggX5_heard_X5_isString : GoodIn wsX5_heard wsX5_isString := goodIn_r _ [13, 8, 9, 6, 10] (by decide +kernel) (by decide +kernel)
set_option maxRecDepth 20000 in
theorem gX5_heard_X5_isString : GoodIn wsX5_heard (va_wsS RX5 73 yX5_isString wsX5_isString) := goodIn_app (goodIn_of _ (by decide +kernel)) ggX5_heard_X5_isString
set_option maxRecDepth 20000 in
theorem ggX5_heard_X5_within : GoodIn wsX5_heard wsX5_within := goodIn_r _ [10] (by decide +kernel) (by decide +kernel)
set_option maxRecDepth 20000 in
theorem gX5_heard_X5_within : GoodIn wsX5_heard (va_wsS RX5 61 yX5_within wsX5_within) := goodIn_app (goodIn_of _ (by decide +kernel)) ggX5_heard_X5_within
set_option maxRecDepth 20000 in
theorem ggX5_heard_X1_keyHeard : GoodIn wsX5_heard wsX1_keyHeard := goodIn_r _ [18, 19, 20, 21, 22, 23, 24, 17, 25, 26, 27, 28, 29, 30, 31, 32, 33, 34, 35, 36, 37, 38, 39, 40, 41, 42, 43, 44, 45, 46, 47, 48, 49, 50, 51, 52, 53, 54, 55, 56, 57, 58, 59, 60, 61, 71, 72, 73, 74, 75, 76, 77, 78, 79, 80] (by decide +kernel) (by decide +kernel)
set_option maxRecDepth 20000 in
theorem gX5_heard_X1_keyHeard : GoodIn wsX5_heard (wsV RX5 173 RX1 yX1_keyHeard wsX1_keyHeard) := goodIn_app (goodIn_of _ (by decide +kernel)) ggX5_heard_X1_keyHeard
theorem dX5_heard_0 : decode cX5_heard 0 = .ok (.iload_n 1, 1) := by decide +kernel
theorem dX5_heard_1 : decode cX5_heard 1 = .ok (.invokestatic 141, 3) := by decide +kernel
theorem dX5_heard_4 : decode cX5_heard 4 = .ok (.ifCond .eq 10, 3) := by decide +kernel
theorem dX5_heard_7 : decode cX5_heard 7 = .ok (.iload_n 2, 1) := by decide +kernel
theorem dX5_heard_8 : decode cX5_heard 8 = .ok (.invokestatic 73, 3) := by decide +kernel
theorem dX5_heard_11 : decode cX5_heard 11 = .ok (.ifCond .ne 6, 3) := by decide +kernel
theorem dX5_heard_14 : decode cX5_heard 14 = .ok (.ldc 76, 2) := by decide +kernel
theorem dX5_heard_16 : decode cX5_heard 16 = .ok (.ireturn, 1) := by decide +kernel
theorem dX5_heard_17 : decode cX5_heard 17 = .ok (.iload_n 3, 1) := by decide +kernel
theorem dX5_heard_18 : decode cX5_heard 18 = .ok (.iconst 0, 1) := by decide +kernel
theorem dX5_heard_19 : decode cX5_heard 19 = .ok (.sipush 1100, 3) := by decide +kernel
theorem dX5_heard_22 : decode cX5_heard 22 = .ok (.invokestatic 61, 3) := by decide +kernel
theorem dX5_heard_25 : decode cX5_heard 25 = .ok (.ifCond .ne 6, 3) := by decide +kernel
theorem dX5_heard_28 : decode cX5_heard 28 = .ok (.ldc 65, 2) := by decide +kernel
theorem dX5_heard_30 : decode cX5_heard 30 = .ok (.ireturn, 1) := by decide +kernel
theorem dX5_heard_31 : decode cX5_heard 31 = .ok (.aload_n 0, 1) := by decide +kernel
theorem dX5_heard_32 : decode cX5_heard 32 = .ok (.getfield 41, 3) := by decide +kernel
theorem dX5_heard_35 : decode cX5_heard 35 = .ok (.iload_n 1, 1) := by decide +kernel
theorem dX5_heard_36 : decode cX5_heard 36 = .ok (.iload_n 2, 1) := by decide +kernel
theorem dX5_heard_37 : decode cX5_heard 37 = .ok (.iload_n 3, 1) := by decide +kernel
theorem dX5_heard_38 : decode cX5_heard 38 = .ok (.invokevirtual 173, 3) := by decide +kernel
theorem dX5_heard_41 : decode cX5_heard 41 = .ok (.ireturn, 1) := by decide +kernel
set_option maxRecDepth 20000 in
theorem ggX5_lost_X5_isPiece : GoodIn wsX5_lost wsX5_isPiece := goodIn_r _ [7, 8, 9, 6, 10] (by decide +kernel) (by decide +kernel)
set_option maxRecDepth 20000 in
theorem gX5_lost_X5_isPiece : GoodIn wsX5_lost (va_wsS RX5 141 yX5_isPiece wsX5_isPiece) := goodIn_app (goodIn_of _ (by decide +kernel)) ggX5_lost_X5_isPiece
set_option maxRecDepth 20000 in
theorem ggX5_lost_X0_has : GoodIn wsX5_lost wsX0_has := goodIn_r _ [15, 16, 78, 79, 80, 81, 82] (by decide +kernel) (by decide +kernel)
set_option maxRecDepth 20000 in
theorem gX5_lost_X0_has : GoodIn wsX5_lost (wsV RX5 69 RX0 yX0_has wsX0_has) := goodIn_app (goodIn_of _ (by decide +kernel)) ggX5_lost_X0_has
set_option maxRecDepth 20000 in
theorem ggX5_lost_X1_ticksLost : GoodIn wsX5_lost wsX1_ticksLost := goodIn_r _ [21, 22, 23, 24, 25, 26, 27, 28, 29, 30, 31, 32, 20, 33, 34, 35, 36, 37, 38, 39, 40, 41, 42, 43, 44, 45, 46, 47, 48, 49, 50, 51, 14, 52, 53, 54, 12, 13, 15, 16, 55, 56, 57, 58, 59, 60, 61, 62, 63, 64, 65, 66, 67, 68, 83, 84, 85, 86, 87, 78, 79, 80, 81, 82] (by decide +kernel) (by decide +kernel)
set_option maxRecDepth 20000 in
theorem gX5_lost_X1_ticksLost : GoodIn wsX5_lost (wsV RX5 177 RX1 yX1_ticksLost wsX1_ticksLost) := goodIn_app (goodIn_of _ (by decide +kernel)) ggX5_lost_X1_ticksLost
theorem dX5_lost_0 : decode cX5_lost 0 = .ok (.iload_n 1, 1) := by decide +kernel
theorem dX5_lost_1 : decode cX5_lost 1 = .ok (.invokestatic 141, 3) := by decide +kernel
theorem dX5_lost_4 : decode cX5_lost 4 = .ok (.ifCond .eq 14, 3) := by decide +kernel
theorem dX5_lost_7 : decode cX5_lost 7 = .ok (.aload_n 0, 1) := by decide +kernel
theorem dX5_lost_8 : decode cX5_lost 8 = .ok (.getfield 25, 3) := by decide +kernel
theorem dX5_lost_11 : decode cX5_lost 11 = .ok (.iload_n 2, 1) := by decide +kernel
theorem dX5_lost_12 : decode cX5_lost 12 = .ok (.invokevirtual 69, 3) := by decide +kernel
theorem dX5_lost_15 : decode cX5_lost 15 = .ok (.ifCond .ne 6, 3) := by decide +kernel
theorem dX5_lost_18 : decode cX5_lost 18 = .ok (.ldc 76, 2) := by decide +kernel
theorem dX5_lost_20 : decode cX5_lost 20 = .ok (.ireturn, 1) := by decide +kernel
theorem dX5_lost_21 : decode cX5_lost 21 = .ok (.aload_n 0, 1) := by decide +kernel
theorem dX5_lost_22 : decode cX5_lost 22 = .ok (.getfield 41, 3) := by decide +kernel
theorem dX5_lost_25 : decode cX5_lost 25 = .ok (.iload_n 1, 1) := by decide +kernel
theorem dX5_lost_26 : decode cX5_lost 26 = .ok (.iload_n 2, 1) := by decide +kernel
theorem dX5_lost_27 : decode cX5_lost 27 = .ok (.invokevirtual 177, 3) := by decide +kernel
theorem dX5_lost_30 : decode cX5_lost 30 = .ok (.ireturn, 1) := by decide +kernel
set_option maxRecDepth 20000 in
theorem ggX5_passes_X5_isPiece : GoodIn wsX5_passes wsX5_isPiece := goodIn_r _ [6, 7, 8, 5, 9] (by decide +kernel) (by decide +kernel)
set_option maxRecDepth 20000 in
theorem gX5_passes_X5_isPiece : GoodIn wsX5_passes (va_wsS RX5 141 yX5_isPiece wsX5_isPiece) := goodIn_app (goodIn_of _ (by decide +kernel)) ggX5_passes_X5_isPiece
set_option maxRecDepth 20000 in
theorem ggX5_passes_X1_allKeysThere : GoodIn wsX5_passes wsX1_allKeysThere := goodIn_r _ [14, 15, 16, 17, 18, 19, 13, 20, 21, 22, 23, 24, 25, 26, 27, 28, 29, 30, 31, 68, 69, 70, 71, 72, 73, 74, 75, 76, 77] (by decide +kernel) (by decide +kernel)
set_option maxRecDepth 20000 in
theorem gX5_passes_X1_allKeysThere : GoodIn wsX5_passes (wsV RX5 180 RX1 yX1_allKeysThere wsX1_allKeysThere) := goodIn_app (goodIn_of _ (by decide +kernel)) ggX5_passes_X1_allKeysThere
set_option maxRecDepth 20000 in
theorem ggX5_passes_X1_countClashes : GoodIn wsX5_passes wsX1_countClashes := goodIn_r _ [35, 17, 18, 19, 13, 20, 21, 22, 23, 24, 25, 36, 37, 38, 39, 15, 16, 40, 41, 42, 29, 43, 44, 45, 27, 28, 30, 31, 46, 47, 48, 49, 50, 51, 52, 53, 54, 55, 68, 69, 70, 71, 72, 73, 74, 75, 76, 77] (by decide +kernel) (by decide +kernel)
set_option maxRecDepth 20000 in
theorem gX5_passes_X1_countClashes : GoodIn wsX5_passes (wsV RX5 159 RX1 yX1_countClashes wsX1_countClashes) := goodIn_app (goodIn_of _ (by decide +kernel)) ggX5_passes_X1_countClashes
set_option maxRecDepth 20000 in
theorem ggX5_passes_X5_asNumber : GoodIn wsX5_passes wsX5_asNumber := goodIn_r _ [58] (by decide +kernel) (by decide +kernel)
set_option maxRecDepth 20000 in
theorem gX5_passes_X5_asNumber : GoodIn wsX5_passes (va_wsS RX5 107 yX5_asNumber wsX5_asNumber) := goodIn_app (goodIn_of _ (by decide +kernel)) ggX5_passes_X5_asNumber
theorem dX5_passes_0 : decode cX5_passes 0 = .ok (.iload_n 1, 1) := by decide +kernel
theorem dX5_passes_1 : decode cX5_passes 1 = .ok (.invokestatic 141, 3) := by decide +kernel
theorem dX5_passes_4 : decode cX5_passes 4 = .ok (.ifCond .ne 6, 3) := by decide +kernel
theorem dX5_passes_7 : decode cX5_passes 7 = .ok (.ldc 76, 2) := by decide +kernel
theorem dX5_passes_9 : decode cX5_passes 9 = .ok (.ireturn, 1) := by decide +kernel
theorem dX5_passes_10 : decode cX5_passes 10 = .ok (.aload_n 0, 1) := by decide +kernel
theorem dX5_passes_11 : decode cX5_passes 11 = .ok (.getfield 41, 3) := by decide +kernel
theorem dX5_passes_14 : decode cX5_passes 14 = .ok (.iload_n 1, 1) := by decide +kernel
theorem dX5_passes_15 : decode cX5_passes 15 = .ok (.invokevirtual 180, 3) := by decide +kernel
theorem dX5_passes_18 : decode cX5_passes 18 = .ok (.ifCond .eq 18, 3) := by decide +kernel
theorem dX5_passes_21 : decode cX5_passes 21 = .ok (.aload_n 0, 1) := by decide +kernel
theorem dX5_passes_22 : decode cX5_passes 22 = .ok (.getfield 41, 3) := by decide +kernel
theorem dX5_passes_25 : decode cX5_passes 25 = .ok (.iload_n 1, 1) := by decide +kernel
theorem dX5_passes_26 : decode cX5_passes 26 = .ok (.invokevirtual 159, 3) := by decide +kernel
theorem dX5_passes_29 : decode cX5_passes 29 = .ok (.ifCond .ne 7, 3) := by decide +kernel
theorem dX5_passes_32 : decode cX5_passes 32 = .ok (.iconst 1, 1) := by decide +kernel
theorem dX5_passes_33 : decode cX5_passes 33 = .ok (.goto 4, 3) := by decide +kernel
theorem dX5_passes_36 : decode cX5_passes 36 = .ok (.iconst 0, 1) := by decide +kernel
theorem dX5_passes_37 : decode cX5_passes 37 = .ok (.invokestatic 107, 3) := by decide +kernel
theorem dX5_passes_40 : decode cX5_passes 40 = .ok (.ireturn, 1) := by decide +kernel
set_option maxRecDepth 20000 in
theorem ggX5_book_X5_within : GoodIn wsX5_book wsX5_within := goodIn_r _ [6] (by decide +kernel) (by decide +kernel)
set_option maxRecDepth 20000 in
theorem gX5_book_X5_within : GoodIn wsX5_book (va_wsS RX5 61 yX5_within wsX5_within) := goodIn_app (goodIn_of _ (by decide +kernel)) ggX5_book_X5_within
theorem dX5_book_0 : decode cX5_book 0 = .ok (.iload_n 1, 1) := by decide +kernel
theorem dX5_book_1 : decode cX5_book 1 = .ok (.iconst 0, 1) := by decide +kernel
theorem dX5_book_2 : decode cX5_book 2 = .ok (.bipush 15, 2) := by decide +kernel
theorem dX5_book_4 : decode cX5_book 4 = .ok (.invokestatic 61, 3) := by decide +kernel
theorem dX5_book_7 : decode cX5_book 7 = .ok (.ifCond .ne 6, 3) := by decide +kernel
theorem dX5_book_10 : decode cX5_book 10 = .ok (.ldc 65, 2) := by decide +kernel
theorem dX5_book_12 : decode cX5_book 12 = .ok (.ireturn, 1) := by decide +kernel
theorem dX5_book_13 : decode cX5_book 13 = .ok (.aload_n 0, 1) := by decide +kernel
theorem dX5_book_14 : decode cX5_book 14 = .ok (.getfield 19, 3) := by decide +kernel
theorem dX5_book_17 : decode cX5_book 17 = .ok (.istore_n 2, 1) := by decide +kernel
theorem dX5_book_18 : decode cX5_book 18 = .ok (.aload_n 0, 1) := by decide +kernel
theorem dX5_book_19 : decode cX5_book 19 = .ok (.iload_n 1, 1) := by decide +kernel
theorem dX5_book_20 : decode cX5_book 20 = .ok (.putfield 19, 3) := by decide +kernel
theorem dX5_book_23 : decode cX5_book 23 = .ok (.iload_n 2, 1) := by decide +kernel
theorem dX5_book_24 : decode cX5_book 24 = .ok (.ireturn, 1) := by decide +kernel
set_option maxRecDepth 20000 in
theorem ggX5_together_X0_has : GoodIn wsX5_together wsX0_has := goodIn_r _ [11, 12, 72, 73, 74, 75, 76] (by decide +kernel) (by decide +kernel)
set_option maxRecDepth 20000 in
theorem gX5_together_X0_has : GoodIn wsX5_together (wsV RX5 69 RX0 yX0_has wsX0_has) := goodIn_app (goodIn_of _ (by decide +kernel)) ggX5_together_X0_has
set_option maxRecDepth 20000 in
theorem ggX5_together_X4_gather : GoodIn wsX5_together wsX4_gather := goodIn_r _ [17, 18, 19, 20, 21, 16, 22, 23, 24, 25, 26, 27, 28, 29, 30, 31, 32, 33, 34, 35, 36, 37, 38, 39, 40, 41, 42, 43, 44, 45, 46, 47, 48, 49, 50, 51, 52, 53, 54, 77, 78, 79, 80, 81, 82, 83, 84, 85, 86] (by decide +kernel) (by decide +kernel)
set_option maxRecDepth 20000 in
theorem gX5_together_X4_gather : GoodIn wsX5_together (wsV RX5 183 RX4 yX4_gather wsX4_gather) := goodIn_app (goodIn_of _ (by decide +kernel)) ggX5_together_X4_gather
set_option maxRecDepth 20000 in
theorem ggX5_together_X4_clashesOf : GoodIn wsX5_together wsX4_clashesOf := goodIn_r _ [58, 59, 60, 61, 16, 62, 18, 77, 78, 79, 80, 81] (by decide +kernel) (by decide +kernel)
set_option maxRecDepth 20000 in
theorem gX5_together_X4_clashesOf : GoodIn wsX5_together (wsV RX5 187 RX4 yX4_clashesOf wsX4_clashesOf) := goodIn_app (goodIn_of _ (by decide +kernel)) ggX5_together_X4_clashesOf
theorem dX5_together_0 : decode cX5_together 0 = .ok (.aload_n 0, 1) := by decide +kernel
theorem dX5_together_1 : decode cX5_together 1 = .ok (.getfield 25, 3) := by decide +kernel
theorem dX5_together_4 : decode cX5_together 4 = .ok (.iload_n 1, 1) := by decide +kernel
theorem dX5_together_5 : decode cX5_together 5 = .ok (.invokevirtual 69, 3) := by decide +kernel
theorem dX5_together_8 : decode cX5_together 8 = .ok (.ifCond .eq 14, 3) := by decide +kernel
theorem dX5_together_11 : decode cX5_together 11 = .ok (.aload_n 0, 1) := by decide +kernel
theorem dX5_together_12 : decode cX5_together 12 = .ok (.getfield 25, 3) := by decide +kernel
theorem dX5_together_15 : decode cX5_together 15 = .ok (.iload_n 2, 1) := by decide +kernel
theorem dX5_together_16 : decode cX5_together 16 = .ok (.invokevirtual 69, 3) := by decide +kernel
theorem dX5_together_19 : decode cX5_together 19 = .ok (.ifCond .ne 6, 3) := by decide +kernel
theorem dX5_together_22 : decode cX5_together 22 = .ok (.ldc 76, 2) := by decide +kernel
theorem dX5_together_24 : decode cX5_together 24 = .ok (.ireturn, 1) := by decide +kernel
theorem dX5_together_25 : decode cX5_together 25 = .ok (.iload_n 2, 1) := by decide +kernel
theorem dX5_together_26 : decode cX5_together 26 = .ok (.iload_n 1, 1) := by decide +kernel
theorem dX5_together_27 : decode cX5_together 27 = .ok (.if_icmp .ge 6, 3) := by decide +kernel
theorem dX5_together_30 : decode cX5_together 30 = .ok (.ldc 65, 2) := by decide +kernel
theorem dX5_together_32 : decode cX5_together 32 = .ok (.ireturn, 1) := by decide +kernel
theorem dX5_together_33 : decode cX5_together 33 = .ok (.aload_n 0, 1) := by decide +kernel
theorem dX5_together_34 : decode cX5_together 34 = .ok (.getfield 48, 3) := by decide +kernel
theorem dX5_together_37 : decode cX5_together 37 = .ok (.aload_n 0, 1) := by decide +kernel
theorem dX5_together_38 : decode cX5_together 38 = .ok (.getfield 41, 3) := by decide +kernel
theorem dX5_together_41 : decode cX5_together 41 = .ok (.aload_n 0, 1) := by decide +kernel
theorem dX5_together_42 : decode cX5_together 42 = .ok (.getfield 19, 3) := by decide +kernel
theorem dX5_together_45 : decode cX5_together 45 = .ok (.invokevirtual 183, 3) := by decide +kernel
theorem dX5_together_48 : decode cX5_together 48 = .ok (.aload_n 0, 1) := by decide +kernel
theorem dX5_together_49 : decode cX5_together 49 = .ok (.getfield 48, 3) := by decide +kernel
theorem dX5_together_52 : decode cX5_together 52 = .ok (.iload_n 1, 1) := by decide +kernel
theorem dX5_together_53 : decode cX5_together 53 = .ok (.iload_n 2, 1) := by decide +kernel
theorem dX5_together_54 : decode cX5_together 54 = .ok (.invokevirtual 187, 3) := by decide +kernel
theorem dX5_together_57 : decode cX5_together 57 = .ok (.ireturn, 1) := by decide +kernel
set_option maxRecDepth 20000 in
theorem ggX5_fewest_X5_isMost : GoodIn wsX5_fewest wsX5_isMost := goodIn_r _ [5, 6, 7, 4, 8] (by decide +kernel) (by decide +kernel)
set_option maxRecDepth 20000 in
theorem gX5_fewest_X5_isMost : GoodIn wsX5_fewest (va_wsS RX5 190 yX5_isMost wsX5_isMost) := goodIn_app (goodIn_of _ (by decide +kernel)) ggX5_fewest_X5_isMost
set_option maxRecDepth 20000 in
theorem ggX5_fewest_X5_findStrings : GoodIn wsX5_fewest wsX5_findStrings := goodIn_r _ [12, 13, 14, 15, 16, 17, 18, 19, 20, 21, 22, 23, 24, 25, 26, 27, 28, 29, 30, 31, 32, 33, 34, 35, 36, 37, 38, 39, 40, 41, 42, 43, 44, 45, 46, 47, 48, 49, 50, 51, 52, 53, 54, 55, 56, 57, 58, 59, 60, 61, 62, 63, 64, 65, 66, 67, 68, 69, 70, 71, 72, 73, 74, 75, 76, 77, 78, 79, 80, 81, 82, 83, 84, 85, 86, 87, 88, 89, 90, 91, 92, 93, 94, 95, 96, 97, 98, 99, 100, 101, 102, 103, 104, 105, 106, 107, 108, 109, 110, 111, 112] (by decide +kernel) (by decide +kernel)
set_option maxRecDepth 20000 in
theorem gX5_fewest_X5_findStrings : GoodIn wsX5_fewest (wsV RX5 193 RX5 yX5_findStrings wsX5_findStrings) := goodIn_app (goodIn_of _ (by decide +kernel)) ggX5_fewest_X5_findStrings
theorem dX5_fewest_0 : decode cX5_fewest 0 = .ok (.iload_n 1, 1) := by decide +kernel
theorem dX5_fewest_1 : decode cX5_fewest 1 = .ok (.invokestatic 190, 3) := by decide +kernel
theorem dX5_fewest_4 : decode cX5_fewest 4 = .ok (.ifCond .ne 6, 3) := by decide +kernel
theorem dX5_fewest_7 : decode cX5_fewest 7 = .ok (.ldc 65, 2) := by decide +kernel
theorem dX5_fewest_9 : decode cX5_fewest 9 = .ok (.ireturn, 1) := by decide +kernel
theorem dX5_fewest_10 : decode cX5_fewest 10 = .ok (.aload_n 0, 1) := by decide +kernel
theorem dX5_fewest_11 : decode cX5_fewest 11 = .ok (.iload_n 1, 1) := by decide +kernel
theorem dX5_fewest_12 : decode cX5_fewest 12 = .ok (.iconst 0, 1) := by decide +kernel
theorem dX5_fewest_13 : decode cX5_fewest 13 = .ok (.invokevirtual 193, 3) := by decide +kernel
theorem dX5_fewest_16 : decode cX5_fewest 16 = .ok (.ireturn, 1) := by decide +kernel
set_option maxRecDepth 20000 in
theorem ggX5_least_X5_isMost : GoodIn wsX5_least wsX5_isMost := goodIn_r _ [7, 8, 9, 6, 10] (by decide +kernel) (by decide +kernel)
set_option maxRecDepth 20000 in
theorem gX5_least_X5_isMost : GoodIn wsX5_least (va_wsS RX5 190 yX5_isMost wsX5_isMost) := goodIn_app (goodIn_of _ (by decide +kernel)) ggX5_least_X5_isMost
set_option maxRecDepth 20000 in
theorem ggX5_least_X5_within : GoodIn wsX5_least wsX5_within := goodIn_r _ [10] (by decide +kernel) (by decide +kernel)
set_option maxRecDepth 20000 in
theorem gX5_least_X5_within : GoodIn wsX5_least (va_wsS RX5 61 yX5_within wsX5_within) := goodIn_app (goodIn_of _ (by decide +kernel)) ggX5_least_X5_within
set_option maxRecDepth 20000 in
theorem ggX5_least_X5_findStrings : GoodIn wsX5_least wsX5_findStrings := goodIn_r _ [14, 3, 15, 16, 17, 18, 19, 20, 21, 22, 23, 24, 25, 26, 27, 28, 29, 30, 31, 32, 33, 34, 35, 36, 37, 38, 39, 40, 41, 42, 43, 44, 45, 46, 47, 48, 49, 50, 51, 52, 53, 54, 55, 56, 57, 58, 59, 60, 61, 62, 63, 64, 65, 66, 67, 68, 69, 70, 71, 72, 73, 74, 75, 76, 77, 78, 79, 80, 81, 82, 83, 84, 85, 86, 87, 88, 89, 91, 92, 93, 94, 95, 96, 97, 98, 99, 100, 101, 102, 103, 104, 105, 106, 107, 108, 109, 110, 111, 112, 113, 114] (by decide +kernel) (by decide +kernel)
set_option maxRecDepth 20000 in
theorem gX5_least_X5_findStrings : GoodIn wsX5_least (wsV RX5 193 RX5 yX5_findStrings wsX5_findStrings) := goodIn_app (goodIn_of _ (by decide +kernel)) ggX5_least_X5_findStrings
set_option maxRecDepth 20000 in
theorem ggX5_least_X4_leastWith : GoodIn wsX5_least wsX4_leastWith := goodIn_r _ [84, 67, 105, 106, 107, 108, 109] (by decide +kernel) (by decide +kernel)
set_option maxRecDepth 20000 in
theorem gX5_least_X4_leastWith : GoodIn wsX5_least (wsV RX5 197 RX4 yX4_leastWith wsX4_leastWith) := goodIn_app (goodIn_of _ (by decide +kernel)) ggX5_least_X4_leastWith
theorem dX5_least_0 : decode cX5_least 0 = .ok (.iload_n 1, 1) := by decide +kernel
theorem dX5_least_1 : decode cX5_least 1 = .ok (.invokestatic 190, 3) := by decide +kernel
theorem dX5_least_4 : decode cX5_least 4 = .ok (.ifCond .eq 13, 3) := by decide +kernel
theorem dX5_least_7 : decode cX5_least 7 = .ok (.iload_n 2, 1) := by decide +kernel
theorem dX5_least_8 : decode cX5_least 8 = .ok (.iconst 1, 1) := by decide +kernel
theorem dX5_least_9 : decode cX5_least 9 = .ok (.bipush 24, 2) := by decide +kernel
theorem dX5_least_11 : decode cX5_least 11 = .ok (.invokestatic 61, 3) := by decide +kernel
theorem dX5_least_14 : decode cX5_least 14 = .ok (.ifCond .ne 6, 3) := by decide +kernel
theorem dX5_least_17 : decode cX5_least 17 = .ok (.ldc 65, 2) := by decide +kernel
theorem dX5_least_19 : decode cX5_least 19 = .ok (.ireturn, 1) := by decide +kernel
theorem dX5_least_20 : decode cX5_least 20 = .ok (.aload_n 0, 1) := by decide +kernel
theorem dX5_least_21 : decode cX5_least 21 = .ok (.iload_n 1, 1) := by decide +kernel
theorem dX5_least_22 : decode cX5_least 22 = .ok (.iload_n 2, 1) := by decide +kernel
theorem dX5_least_23 : decode cX5_least 23 = .ok (.invokevirtual 193, 3) := by decide +kernel
theorem dX5_least_26 : decode cX5_least 26 = .ok (.istore_n 3, 1) := by decide +kernel
theorem dX5_least_27 : decode cX5_least 27 = .ok (.iload_n 3, 1) := by decide +kernel
theorem dX5_least_28 : decode cX5_least 28 = .ok (.ldc 196, 2) := by decide +kernel
theorem dX5_least_30 : decode cX5_least 30 = .ok (.if_icmp .ne 8, 3) := by decide +kernel
theorem dX5_least_33 : decode cX5_least 33 = .ok (.ldc 196, 2) := by decide +kernel
theorem dX5_least_35 : decode cX5_least 35 = .ok (.goto 11, 3) := by decide +kernel
theorem dX5_least_38 : decode cX5_least 38 = .ok (.aload_n 0, 1) := by decide +kernel
theorem dX5_least_39 : decode cX5_least 39 = .ok (.getfield 48, 3) := by decide +kernel
theorem dX5_least_42 : decode cX5_least 42 = .ok (.iload_n 3, 1) := by decide +kernel
theorem dX5_least_43 : decode cX5_least 43 = .ok (.invokevirtual 197, 3) := by decide +kernel
theorem dX5_least_46 : decode cX5_least 46 = .ok (.ireturn, 1) := by decide +kernel
set_option maxRecDepth 20000 in
theorem ggX5_group_X0_has : GoodIn wsX5_group wsX0_has := goodIn_r _ [11, 12, 121, 122, 123, 124, 125] (by decide +kernel) (by decide +kernel)
set_option maxRecDepth 20000 in
theorem gX5_group_X0_has : GoodIn wsX5_group (wsV RX5 69 RX0 yX0_has wsX0_has) := goodIn_app (goodIn_of _ (by decide +kernel)) ggX5_group_X0_has
set_option maxRecDepth 20000 in
theorem ggX5_group_X5_isMost : GoodIn wsX5_group wsX5_isMost := goodIn_r _ [16, 17, 18, 15, 19] (by decide +kernel) (by decide +kernel)
set_option maxRecDepth 20000 in
theorem gX5_group_X5_isMost : GoodIn wsX5_group (va_wsS RX5 190 yX5_isMost wsX5_isMost) := goodIn_app (goodIn_of _ (by decide +kernel)) ggX5_group_X5_isMost
set_option maxRecDepth 20000 in
theorem ggX5_group_X5_within : GoodIn wsX5_group wsX5_within := goodIn_r _ [19] (by decide +kernel) (by decide +kernel)
set_option maxRecDepth 20000 in
theorem gX5_group_X5_within : GoodIn wsX5_group (va_wsS RX5 61 yX5_within wsX5_within) := goodIn_app (goodIn_of _ (by decide +kernel)) ggX5_group_X5_within
set_option maxRecDepth 20000 in
theorem ggX5_group_X5_findStrings : GoodIn wsX5_group wsX5_findStrings := goodIn_r _ [23, 5, 24, 25, 1, 26, 27, 28, 29, 30, 31, 32, 33, 34, 35, 36, 37, 38, 39, 40, 41, 42, 43, 44, 45, 46, 47, 48, 49, 50, 51, 52, 53, 54, 55, 56, 57, 58, 59, 60, 61, 62, 63, 64, 65, 66, 67, 68, 69, 70, 71, 72, 73, 74, 75, 76, 77, 78, 79, 80, 81, 82, 83, 84, 85, 86, 87, 88, 89, 90, 91, 92, 93, 94, 95, 96, 97, 107, 108, 109, 110, 111, 112, 113, 114, 115, 121, 122, 123, 124, 125, 116, 117, 118, 119, 120, 126, 127, 128, 129, 130] (by decide +kernel) (by decide +kernel)
set_option maxRecDepth 20000 in
theorem gX5_group_X5_findStrings : GoodIn wsX5_group (wsV RX5 193 RX5 yX5_findStrings wsX5_findStrings) := goodIn_app (goodIn_of _ (by decide +kernel)) ggX5_group_X5_findStrings
set_option maxRecDepth 20000 in
theorem ggX5_group_X4_layOut : GoodIn wsX5_group wsX4_layOut := goodIn_r _ [101, 102, 103, 104, 105, 30, 106, 73, 74, 75, 81, 82, 83, 84, 32, 116, 117, 118, 119, 120] (by decide +kernel) (by decide +kernel)
set_option maxRecDepth 20000 in
theorem gX5_group_X4_layOut : GoodIn wsX5_group (wsV RX5 200 RX4 yX4_layOut wsX4_layOut) := goodIn_app (goodIn_of _ (by decide +kernel)) ggX5_group_X4_layOut
theorem dX5_group_0 : decode cX5_group 0 = .ok (.aload_n 0, 1) := by decide +kernel
theorem dX5_group_1 : decode cX5_group 1 = .ok (.getfield 25, 3) := by decide +kernel
theorem dX5_group_4 : decode cX5_group 4 = .ok (.iload_n 3, 1) := by decide +kernel
theorem dX5_group_5 : decode cX5_group 5 = .ok (.invokevirtual 69, 3) := by decide +kernel
theorem dX5_group_8 : decode cX5_group 8 = .ok (.ifCond .ne 6, 3) := by decide +kernel
theorem dX5_group_11 : decode cX5_group 11 = .ok (.ldc 76, 2) := by decide +kernel
theorem dX5_group_13 : decode cX5_group 13 = .ok (.ireturn, 1) := by decide +kernel
theorem dX5_group_14 : decode cX5_group 14 = .ok (.iload_n 1, 1) := by decide +kernel
theorem dX5_group_15 : decode cX5_group 15 = .ok (.invokestatic 190, 3) := by decide +kernel
theorem dX5_group_18 : decode cX5_group 18 = .ok (.ifCond .eq 13, 3) := by decide +kernel
theorem dX5_group_21 : decode cX5_group 21 = .ok (.iload_n 2, 1) := by decide +kernel
theorem dX5_group_22 : decode cX5_group 22 = .ok (.iconst 0, 1) := by decide +kernel
theorem dX5_group_23 : decode cX5_group 23 = .ok (.bipush 24, 2) := by decide +kernel
theorem dX5_group_25 : decode cX5_group 25 = .ok (.invokestatic 61, 3) := by decide +kernel
theorem dX5_group_28 : decode cX5_group 28 = .ok (.ifCond .ne 6, 3) := by decide +kernel
theorem dX5_group_31 : decode cX5_group 31 = .ok (.ldc 65, 2) := by decide +kernel
theorem dX5_group_33 : decode cX5_group 33 = .ok (.ireturn, 1) := by decide +kernel
theorem dX5_group_34 : decode cX5_group 34 = .ok (.aload_n 0, 1) := by decide +kernel
theorem dX5_group_35 : decode cX5_group 35 = .ok (.iload_n 1, 1) := by decide +kernel
theorem dX5_group_36 : decode cX5_group 36 = .ok (.iload_n 2, 1) := by decide +kernel
theorem dX5_group_37 : decode cX5_group 37 = .ok (.invokevirtual 193, 3) := by decide +kernel
theorem dX5_group_40 : decode cX5_group 40 = .ok (.istore 4, 2) := by decide +kernel
theorem dX5_group_42 : decode cX5_group 42 = .ok (.iload 4, 2) := by decide +kernel
theorem dX5_group_44 : decode cX5_group 44 = .ok (.ldc 196, 2) := by decide +kernel
theorem dX5_group_46 : decode cX5_group 46 = .ok (.if_icmp .ne 6, 3) := by decide +kernel
theorem dX5_group_49 : decode cX5_group 49 = .ok (.ldc 196, 2) := by decide +kernel
theorem dX5_group_51 : decode cX5_group 51 = .ok (.ireturn, 1) := by decide +kernel
theorem dX5_group_52 : decode cX5_group 52 = .ok (.aload_n 0, 1) := by decide +kernel
theorem dX5_group_53 : decode cX5_group 53 = .ok (.getfield 48, 3) := by decide +kernel
theorem dX5_group_56 : decode cX5_group 56 = .ok (.iload 4, 2) := by decide +kernel
theorem dX5_group_58 : decode cX5_group 58 = .ok (.invokevirtual 200, 3) := by decide +kernel
theorem dX5_group_61 : decode cX5_group 61 = .ok (.aload_n 0, 1) := by decide +kernel
theorem dX5_group_62 : decode cX5_group 62 = .ok (.getfield 48, 3) := by decide +kernel
theorem dX5_group_65 : decode cX5_group 65 = .ok (.getfield 203, 3) := by decide +kernel
theorem dX5_group_68 : decode cX5_group 68 = .ok (.iload_n 3, 1) := by decide +kernel
theorem dX5_group_69 : decode cX5_group 69 = .ok (.iaload, 1) := by decide +kernel
theorem dX5_group_70 : decode cX5_group 70 = .ok (.ireturn, 1) := by decide +kernel
set_option maxRecDepth 20000 in
theorem ggX5_setUp_X5_isMost : GoodIn wsX5_setUp wsX5_isMost := goodIn_r _ [11, 12, 13, 10, 14] (by decide +kernel) (by decide +kernel)
set_option maxRecDepth 20000 in
theorem gX5_setUp_X5_isMost : GoodIn wsX5_setUp (va_wsS RX5 190 yX5_isMost wsX5_isMost) := goodIn_app (goodIn_of _ (by decide +kernel)) ggX5_setUp_X5_isMost
set_option maxRecDepth 20000 in
theorem ggX5_setUp_X5_within : GoodIn wsX5_setUp wsX5_within := goodIn_r _ [14] (by decide +kernel) (by decide +kernel)
set_option maxRecDepth 20000 in
theorem gX5_setUp_X5_within : GoodIn wsX5_setUp (va_wsS RX5 61 yX5_within wsX5_within) := goodIn_app (goodIn_of _ (by decide +kernel)) ggX5_setUp_X5_within
set_option maxRecDepth 20000 in
theorem ggX5_setUp_X5_findStrings : GoodIn wsX5_setUp wsX5_findStrings := goodIn_r _ [18, 3, 19, 20, 4, 5, 21, 22, 23, 24, 25, 26, 27, 28, 29, 30, 31, 32, 33, 34, 35, 36, 37, 38, 39, 40, 41, 42, 43, 44, 45, 46, 47, 48, 49, 50, 51, 52, 53, 54, 55, 56, 57, 58, 59, 60, 61, 62, 63, 64, 65, 66, 67, 68, 69, 70, 71, 72, 73, 74, 75, 76, 77, 78, 79, 80, 81, 82, 83, 84, 85, 86, 87, 88, 89, 90, 91, 101, 102, 103, 104, 105, 106, 107, 108, 109, 110, 111, 112, 113, 114, 115, 116, 117, 118, 119, 120, 121, 122, 123, 124] (by decide +kernel) (by decide +kernel)
set_option maxRecDepth 20000 in
theorem gX5_setUp_X5_findStrings : GoodIn wsX5_setUp (wsV RX5 193 RX5 yX5_findStrings wsX5_findStrings) := goodIn_app (goodIn_of _ (by decide +kernel)) ggX5_setUp_X5_findStrings
set_option maxRecDepth 20000 in
theorem ggX5_setUp_X4_layOut : GoodIn wsX5_setUp wsX4_layOut := goodIn_r _ [95, 96, 97, 98, 99, 24, 100, 67, 68, 69, 75, 76, 77, 78, 26, 115, 116, 117, 118, 119] (by decide +kernel) (by decide +kernel)
set_option maxRecDepth 20000 in
theorem gX5_setUp_X4_layOut : GoodIn wsX5_setUp (wsV RX5 200 RX4 yX4_layOut wsX4_layOut) := goodIn_app (goodIn_of _ (by decide +kernel)) ggX5_setUp_X4_layOut
theorem dX5_setUp_0 : decode cX5_setUp 0 = .ok (.iload_n 1, 1) := by decide +kernel
theorem dX5_setUp_1 : decode cX5_setUp 1 = .ok (.invokestatic 190, 3) := by decide +kernel
theorem dX5_setUp_4 : decode cX5_setUp 4 = .ok (.ifCond .eq 13, 3) := by decide +kernel
theorem dX5_setUp_7 : decode cX5_setUp 7 = .ok (.iload_n 2, 1) := by decide +kernel
theorem dX5_setUp_8 : decode cX5_setUp 8 = .ok (.iconst 0, 1) := by decide +kernel
theorem dX5_setUp_9 : decode cX5_setUp 9 = .ok (.bipush 24, 2) := by decide +kernel
theorem dX5_setUp_11 : decode cX5_setUp 11 = .ok (.invokestatic 61, 3) := by decide +kernel
theorem dX5_setUp_14 : decode cX5_setUp 14 = .ok (.ifCond .ne 6, 3) := by decide +kernel
theorem dX5_setUp_17 : decode cX5_setUp 17 = .ok (.ldc 65, 2) := by decide +kernel
theorem dX5_setUp_19 : decode cX5_setUp 19 = .ok (.ireturn, 1) := by decide +kernel
theorem dX5_setUp_20 : decode cX5_setUp 20 = .ok (.aload_n 0, 1) := by decide +kernel
theorem dX5_setUp_21 : decode cX5_setUp 21 = .ok (.iload_n 1, 1) := by decide +kernel
theorem dX5_setUp_22 : decode cX5_setUp 22 = .ok (.iload_n 2, 1) := by decide +kernel
theorem dX5_setUp_23 : decode cX5_setUp 23 = .ok (.invokevirtual 193, 3) := by decide +kernel
theorem dX5_setUp_26 : decode cX5_setUp 26 = .ok (.istore_n 3, 1) := by decide +kernel
theorem dX5_setUp_27 : decode cX5_setUp 27 = .ok (.iload_n 3, 1) := by decide +kernel
theorem dX5_setUp_28 : decode cX5_setUp 28 = .ok (.ldc 196, 2) := by decide +kernel
theorem dX5_setUp_30 : decode cX5_setUp 30 = .ok (.if_icmp .ne 6, 3) := by decide +kernel
theorem dX5_setUp_33 : decode cX5_setUp 33 = .ok (.ldc 196, 2) := by decide +kernel
theorem dX5_setUp_35 : decode cX5_setUp 35 = .ok (.ireturn, 1) := by decide +kernel
theorem dX5_setUp_36 : decode cX5_setUp 36 = .ok (.aload_n 0, 1) := by decide +kernel
theorem dX5_setUp_37 : decode cX5_setUp 37 = .ok (.getfield 48, 3) := by decide +kernel
theorem dX5_setUp_40 : decode cX5_setUp 40 = .ok (.iload_n 3, 1) := by decide +kernel
theorem dX5_setUp_41 : decode cX5_setUp 41 = .ok (.invokevirtual 200, 3) := by decide +kernel
theorem dX5_setUp_44 : decode cX5_setUp 44 = .ok (.iconst 0, 1) := by decide +kernel
theorem dX5_setUp_45 : decode cX5_setUp 45 = .ok (.istore 4, 2) := by decide +kernel
theorem dX5_setUp_47 : decode cX5_setUp 47 = .ok (.iload 4, 2) := by decide +kernel
theorem dX5_setUp_49 : decode cX5_setUp 49 = .ok (.aload_n 0, 1) := by decide +kernel
theorem dX5_setUp_50 : decode cX5_setUp 50 = .ok (.getfield 25, 3) := by decide +kernel
theorem dX5_setUp_53 : decode cX5_setUp 53 = .ok (.getfield 66, 3) := by decide +kernel
theorem dX5_setUp_56 : decode cX5_setUp 56 = .ok (.if_icmp .ge 29, 3) := by decide +kernel
theorem dX5_setUp_59 : decode cX5_setUp 59 = .ok (.aload_n 0, 1) := by decide +kernel
theorem dX5_setUp_60 : decode cX5_setUp 60 = .ok (.getfield 25, 3) := by decide +kernel
theorem dX5_setUp_63 : decode cX5_setUp 63 = .ok (.getfield 77, 3) := by decide +kernel
theorem dX5_setUp_66 : decode cX5_setUp 66 = .ok (.iload 4, 2) := by decide +kernel
theorem dX5_setUp_68 : decode cX5_setUp 68 = .ok (.aload_n 0, 1) := by decide +kernel
theorem dX5_setUp_69 : decode cX5_setUp 69 = .ok (.getfield 48, 3) := by decide +kernel
theorem dX5_setUp_72 : decode cX5_setUp 72 = .ok (.getfield 203, 3) := by decide +kernel
theorem dX5_setUp_75 : decode cX5_setUp 75 = .ok (.iload 4, 2) := by decide +kernel
theorem dX5_setUp_77 : decode cX5_setUp 77 = .ok (.iaload, 1) := by decide +kernel
theorem dX5_setUp_78 : decode cX5_setUp 78 = .ok (.iastore, 1) := by decide +kernel
theorem dX5_setUp_79 : decode cX5_setUp 79 = .ok (.iinc 4 1, 3) := by decide +kernel
theorem dX5_setUp_82 : decode cX5_setUp 82 = .ok (.goto (-35), 3) := by decide +kernel
theorem dX5_setUp_85 : decode cX5_setUp 85 = .ok (.iload_n 3, 1) := by decide +kernel
theorem dX5_setUp_86 : decode cX5_setUp 86 = .ok (.ireturn, 1) := by decide +kernel
set_option maxRecDepth 20000 in
theorem ggX5_measure_X0_has : GoodIn wsX5_measure wsX0_has := goodIn_r _ [12, 13, 32, 33, 34, 35, 36] (by decide +kernel) (by decide +kernel)
set_option maxRecDepth 20000 in
theorem gX5_measure_X0_has : GoodIn wsX5_measure (wsV RX5 69 RX0 yX0_has wsX0_has) := goodIn_app (goodIn_of _ (by decide +kernel)) ggX5_measure_X0_has
set_option maxRecDepth 20000 in
theorem ggX5_measure_X5_within : GoodIn wsX5_measure wsX5_within := goodIn_r _ [17] (by decide +kernel) (by decide +kernel)
set_option maxRecDepth 20000 in
theorem gX5_measure_X5_within : GoodIn wsX5_measure (va_wsS RX5 61 yX5_within wsX5_within) := goodIn_app (goodIn_of _ (by decide +kernel)) ggX5_measure_X5_within
theorem dX5_measure_0 : decode cX5_measure 0 = .ok (.aload_n 0, 1) := by decide +kernel
theorem dX5_measure_1 : decode cX5_measure 1 = .ok (.getfield 25, 3) := by decide +kernel
theorem dX5_measure_4 : decode cX5_measure 4 = .ok (.iload_n 1, 1) := by decide +kernel
theorem dX5_measure_5 : decode cX5_measure 5 = .ok (.invokevirtual 69, 3) := by decide +kernel
theorem dX5_measure_8 : decode cX5_measure 8 = .ok (.ifCond .ne 6, 3) := by decide +kernel
theorem dX5_measure_11 : decode cX5_measure 11 = .ok (.ldc 76, 2) := by decide +kernel
theorem dX5_measure_13 : decode cX5_measure 13 = .ok (.ireturn, 1) := by decide +kernel
theorem dX5_measure_14 : decode cX5_measure 14 = .ok (.iload_n 2, 1) := by decide +kernel
theorem dX5_measure_15 : decode cX5_measure 15 = .ok (.ldc 196, 2) := by decide +kernel
theorem dX5_measure_17 : decode cX5_measure 17 = .ok (.if_icmp .eq 17, 3) := by decide +kernel
theorem dX5_measure_20 : decode cX5_measure 20 = .ok (.iload_n 2, 1) := by decide +kernel
theorem dX5_measure_21 : decode cX5_measure 21 = .ok (.bipush 100, 2) := by decide +kernel
theorem dX5_measure_23 : decode cX5_measure 23 = .ok (.ldc 206, 2) := by decide +kernel
theorem dX5_measure_25 : decode cX5_measure 25 = .ok (.invokestatic 61, 3) := by decide +kernel
theorem dX5_measure_28 : decode cX5_measure 28 = .ok (.ifCond .ne 6, 3) := by decide +kernel
theorem dX5_measure_31 : decode cX5_measure 31 = .ok (.ldc 65, 2) := by decide +kernel
theorem dX5_measure_33 : decode cX5_measure 33 = .ok (.ireturn, 1) := by decide +kernel
theorem dX5_measure_34 : decode cX5_measure 34 = .ok (.aload_n 0, 1) := by decide +kernel
theorem dX5_measure_35 : decode cX5_measure 35 = .ok (.getfield 57, 3) := by decide +kernel
theorem dX5_measure_38 : decode cX5_measure 38 = .ok (.getfield 207, 3) := by decide +kernel
theorem dX5_measure_41 : decode cX5_measure 41 = .ok (.iload_n 1, 1) := by decide +kernel
theorem dX5_measure_42 : decode cX5_measure 42 = .ok (.iaload, 1) := by decide +kernel
theorem dX5_measure_43 : decode cX5_measure 43 = .ok (.istore_n 3, 1) := by decide +kernel
theorem dX5_measure_44 : decode cX5_measure 44 = .ok (.aload_n 0, 1) := by decide +kernel
theorem dX5_measure_45 : decode cX5_measure 45 = .ok (.getfield 57, 3) := by decide +kernel
theorem dX5_measure_48 : decode cX5_measure 48 = .ok (.getfield 207, 3) := by decide +kernel
theorem dX5_measure_51 : decode cX5_measure 51 = .ok (.iload_n 1, 1) := by decide +kernel
theorem dX5_measure_52 : decode cX5_measure 52 = .ok (.iload_n 2, 1) := by decide +kernel
theorem dX5_measure_53 : decode cX5_measure 53 = .ok (.iastore, 1) := by decide +kernel
theorem dX5_measure_54 : decode cX5_measure 54 = .ok (.iload_n 3, 1) := by decide +kernel
theorem dX5_measure_55 : decode cX5_measure 55 = .ok (.ireturn, 1) := by decide +kernel
set_option maxRecDepth 20000 in
theorem ggX5_misfit_X5_isScale : GoodIn wsX5_misfit wsX5_isScale := goodIn_r _ [7, 8, 9, 6, 10] (by decide +kernel) (by decide +kernel)
set_option maxRecDepth 20000 in
theorem gX5_misfit_X5_isScale : GoodIn wsX5_misfit (va_wsS RX5 111 yX5_isScale wsX5_isScale) := goodIn_app (goodIn_of _ (by decide +kernel)) ggX5_misfit_X5_isScale
set_option maxRecDepth 20000 in
theorem ggX5_misfit_X5_isPitch : GoodIn wsX5_misfit wsX5_isPitch := goodIn_r _ [13, 14, 8, 9, 6, 10] (by decide +kernel) (by decide +kernel)
set_option maxRecDepth 20000 in
theorem gX5_misfit_X5_isPitch : GoodIn wsX5_misfit (va_wsS RX5 125 yX5_isPitch wsX5_isPitch) := goodIn_app (goodIn_of _ (by decide +kernel)) ggX5_misfit_X5_isPitch
set_option maxRecDepth 20000 in
theorem ggX5_misfit_X2_misfitAt : GoodIn wsX5_misfit wsX2_misfitAt := goodIn_r _ [19, 20, 21, 22, 23, 24, 25, 26, 27, 28, 29, 30, 31, 32, 33, 34, 35, 45, 46, 47, 48, 49, 50, 51, 52, 53, 54, 55, 56] (by decide +kernel) (by decide +kernel)
set_option maxRecDepth 20000 in
theorem gX5_misfit_X2_misfitAt : GoodIn wsX5_misfit (wsV RX5 210 RX2 yX2_misfitAt wsX2_misfitAt) := goodIn_app (goodIn_of _ (by decide +kernel)) ggX5_misfit_X2_misfitAt
theorem dX5_misfit_0 : decode cX5_misfit 0 = .ok (.iload_n 1, 1) := by decide +kernel
theorem dX5_misfit_1 : decode cX5_misfit 1 = .ok (.invokestatic 111, 3) := by decide +kernel
theorem dX5_misfit_4 : decode cX5_misfit 4 = .ok (.ifCond .ne 6, 3) := by decide +kernel
theorem dX5_misfit_7 : decode cX5_misfit 7 = .ok (.ldc 76, 2) := by decide +kernel
theorem dX5_misfit_9 : decode cX5_misfit 9 = .ok (.ireturn, 1) := by decide +kernel
theorem dX5_misfit_10 : decode cX5_misfit 10 = .ok (.iload_n 2, 1) := by decide +kernel
theorem dX5_misfit_11 : decode cX5_misfit 11 = .ok (.invokestatic 125, 3) := by decide +kernel
theorem dX5_misfit_14 : decode cX5_misfit 14 = .ok (.ifCond .ne 6, 3) := by decide +kernel
theorem dX5_misfit_17 : decode cX5_misfit 17 = .ok (.ldc 65, 2) := by decide +kernel
theorem dX5_misfit_19 : decode cX5_misfit 19 = .ok (.ireturn, 1) := by decide +kernel
theorem dX5_misfit_20 : decode cX5_misfit 20 = .ok (.aload_n 0, 1) := by decide +kernel
theorem dX5_misfit_21 : decode cX5_misfit 21 = .ok (.getfield 57, 3) := by decide +kernel
theorem dX5_misfit_24 : decode cX5_misfit 24 = .ok (.iload_n 1, 1) := by decide +kernel
theorem dX5_misfit_25 : decode cX5_misfit 25 = .ok (.iload_n 2, 1) := by decide +kernel
theorem dX5_misfit_26 : decode cX5_misfit 26 = .ok (.iconst (-1), 1) := by decide +kernel
theorem dX5_misfit_27 : decode cX5_misfit 27 = .ok (.invokevirtual 210, 3) := by decide +kernel
theorem dX5_misfit_30 : decode cX5_misfit 30 = .ok (.ireturn, 1) := by decide +kernel
set_option maxRecDepth 20000 in
theorem ggX5_found_X5_isScale : GoodIn wsX5_found wsX5_isScale := goodIn_r _ [10, 11, 12, 9, 13] (by decide +kernel) (by decide +kernel)
set_option maxRecDepth 20000 in
theorem gX5_found_X5_isScale : GoodIn wsX5_found (va_wsS RX5 111 yX5_isScale wsX5_isScale) := goodIn_app (goodIn_of _ (by decide +kernel)) ggX5_found_X5_isScale
set_option maxRecDepth 20000 in
theorem ggX5_found_X5_within : GoodIn wsX5_found wsX5_within := goodIn_r _ [13] (by decide +kernel) (by decide +kernel)
set_option maxRecDepth 20000 in
theorem gX5_found_X5_within : GoodIn wsX5_found (va_wsS RX5 61 yX5_within wsX5_within) := goodIn_app (goodIn_of _ (by decide +kernel)) ggX5_found_X5_within
set_option maxRecDepth 20000 in
theorem ggX5_found_X2_countMeasured : GoodIn wsX5_found wsX2_countMeasured := goodIn_r _ [18, 19, 20, 21, 22, 59, 60, 61, 62, 63, 64, 65, 66, 67, 68] (by decide +kernel) (by decide +kernel)
set_option maxRecDepth 20000 in
theorem gX5_found_X2_countMeasured : GoodIn wsX5_found (wsV RX5 213 RX2 yX2_countMeasured wsX2_countMeasured) := goodIn_app (goodIn_of _ (by decide +kernel)) ggX5_found_X2_countMeasured
set_option maxRecDepth 20000 in
theorem ggX5_found_X2_seek : GoodIn wsX5_found wsX2_seek := goodIn_r _ [26, 27, 28, 29, 30, 31, 32, 17, 33, 34, 35, 36, 37, 19, 20, 21, 22, 38, 39, 40, 41, 42, 43, 44, 45, 46, 47, 48, 49, 59, 60, 61, 62, 63, 64, 65, 66, 67, 68, 69, 70] (by decide +kernel) (by decide +kernel)
set_option maxRecDepth 20000 in
theorem gX5_found_X2_seek : GoodIn wsX5_found (wsV RX5 216 RX2 yX2_seek wsX2_seek) := goodIn_app (goodIn_of _ (by decide +kernel)) ggX5_found_X2_seek
theorem dX5_found_0 : decode cX5_found 0 = .ok (.iload_n 1, 1) := by decide +kernel
theorem dX5_found_1 : decode cX5_found 1 = .ok (.invokestatic 111, 3) := by decide +kernel
theorem dX5_found_4 : decode cX5_found 4 = .ok (.ifCond .ne 6, 3) := by decide +kernel
theorem dX5_found_7 : decode cX5_found 7 = .ok (.ldc 76, 2) := by decide +kernel
theorem dX5_found_9 : decode cX5_found 9 = .ok (.ireturn, 1) := by decide +kernel
theorem dX5_found_10 : decode cX5_found 10 = .ok (.iload_n 2, 1) := by decide +kernel
theorem dX5_found_11 : decode cX5_found 11 = .ok (.iconst 0, 1) := by decide +kernel
theorem dX5_found_12 : decode cX5_found 12 = .ok (.iconst 1, 1) := by decide +kernel
theorem dX5_found_13 : decode cX5_found 13 = .ok (.invokestatic 61, 3) := by decide +kernel
theorem dX5_found_16 : decode cX5_found 16 = .ok (.ifCond .ne 6, 3) := by decide +kernel
theorem dX5_found_19 : decode cX5_found 19 = .ok (.ldc 65, 2) := by decide +kernel
theorem dX5_found_21 : decode cX5_found 21 = .ok (.ireturn, 1) := by decide +kernel
theorem dX5_found_22 : decode cX5_found 22 = .ok (.aload_n 0, 1) := by decide +kernel
theorem dX5_found_23 : decode cX5_found 23 = .ok (.getfield 57, 3) := by decide +kernel
theorem dX5_found_26 : decode cX5_found 26 = .ok (.invokevirtual 213, 3) := by decide +kernel
theorem dX5_found_29 : decode cX5_found 29 = .ok (.iconst 1, 1) := by decide +kernel
theorem dX5_found_30 : decode cX5_found 30 = .ok (.if_icmp .ge 6, 3) := by decide +kernel
theorem dX5_found_33 : decode cX5_found 33 = .ok (.ldc 147, 2) := by decide +kernel
theorem dX5_found_35 : decode cX5_found 35 = .ok (.ireturn, 1) := by decide +kernel
theorem dX5_found_36 : decode cX5_found 36 = .ok (.aload_n 0, 1) := by decide +kernel
theorem dX5_found_37 : decode cX5_found 37 = .ok (.getfield 57, 3) := by decide +kernel
theorem dX5_found_40 : decode cX5_found 40 = .ok (.iload_n 1, 1) := by decide +kernel
theorem dX5_found_41 : decode cX5_found 41 = .ok (.iconst (-1), 1) := by decide +kernel
theorem dX5_found_42 : decode cX5_found 42 = .ok (.invokevirtual 216, 3) := by decide +kernel
theorem dX5_found_45 : decode cX5_found 45 = .ok (.iload_n 2, 1) := by decide +kernel
theorem dX5_found_46 : decode cX5_found 46 = .ok (.ifCond .ne 13, 3) := by decide +kernel
theorem dX5_found_49 : decode cX5_found 49 = .ok (.aload_n 0, 1) := by decide +kernel
theorem dX5_found_50 : decode cX5_found 50 = .ok (.getfield 57, 3) := by decide +kernel
theorem dX5_found_53 : decode cX5_found 53 = .ok (.getfield 220, 3) := by decide +kernel
theorem dX5_found_56 : decode cX5_found 56 = .ok (.goto 10, 3) := by decide +kernel
theorem dX5_found_59 : decode cX5_found 59 = .ok (.aload_n 0, 1) := by decide +kernel
theorem dX5_found_60 : decode cX5_found 60 = .ok (.getfield 57, 3) := by decide +kernel
theorem dX5_found_63 : decode cX5_found 63 = .ok (.getfield 223, 3) := by decide +kernel
theorem dX5_found_66 : decode cX5_found 66 = .ok (.ireturn, 1) := by decide +kernel
set_option maxRecDepth 20000 in
theorem ggX5_meant_X2_countMeasured : GoodIn wsX5_meant wsX2_countMeasured := goodIn_r _ [7, 8, 9, 10, 11, 52, 53, 54, 55, 56, 57, 58, 59, 60, 61] (by decide +kernel) (by decide +kernel)
set_option maxRecDepth 20000 in
theorem gX5_meant_X2_countMeasured : GoodIn wsX5_meant (wsV RX5 213 RX2 yX2_countMeasured wsX2_countMeasured) := goodIn_app (goodIn_of _ (by decide +kernel)) ggX5_meant_X2_countMeasured
set_option maxRecDepth 20000 in
theorem ggX5_meant_X2_scaleMeant : GoodIn wsX5_meant wsX2_scaleMeant := goodIn_r _ [15, 16, 17, 18, 19, 20, 6, 21, 22, 23, 24, 25, 26, 27, 28, 29, 30, 8, 9, 10, 11, 31, 32, 33, 34, 35, 36, 37, 38, 39, 40, 41, 42, 52, 53, 54, 55, 56, 57, 58, 59, 60, 61, 62, 63] (by decide +kernel) (by decide +kernel)
set_option maxRecDepth 20000 in
theorem gX5_meant_X2_scaleMeant : GoodIn wsX5_meant (wsV RX5 226 RX2 yX2_scaleMeant wsX2_scaleMeant) := goodIn_app (goodIn_of _ (by decide +kernel)) ggX5_meant_X2_scaleMeant
theorem dX5_meant_0 : decode cX5_meant 0 = .ok (.aload_n 0, 1) := by decide +kernel
theorem dX5_meant_1 : decode cX5_meant 1 = .ok (.getfield 57, 3) := by decide +kernel
theorem dX5_meant_4 : decode cX5_meant 4 = .ok (.invokevirtual 213, 3) := by decide +kernel
theorem dX5_meant_7 : decode cX5_meant 7 = .ok (.iconst 1, 1) := by decide +kernel
theorem dX5_meant_8 : decode cX5_meant 8 = .ok (.if_icmp .ge 6, 3) := by decide +kernel
theorem dX5_meant_11 : decode cX5_meant 11 = .ok (.ldc 147, 2) := by decide +kernel
theorem dX5_meant_13 : decode cX5_meant 13 = .ok (.ireturn, 1) := by decide +kernel
theorem dX5_meant_14 : decode cX5_meant 14 = .ok (.aload_n 0, 1) := by decide +kernel
theorem dX5_meant_15 : decode cX5_meant 15 = .ok (.getfield 57, 3) := by decide +kernel
theorem dX5_meant_18 : decode cX5_meant 18 = .ok (.invokevirtual 226, 3) := by decide +kernel
theorem dX5_meant_21 : decode cX5_meant 21 = .ok (.ireturn, 1) := by decide +kernel
set_option maxRecDepth 20000 in
theorem ggX5_added_X5_within : GoodIn wsX5_added wsX5_within := goodIn_r _ [8] (by decide +kernel) (by decide +kernel)
set_option maxRecDepth 20000 in
theorem gX5_added_X5_within : GoodIn wsX5_added (va_wsS RX5 61 yX5_within wsX5_within) := goodIn_app (goodIn_of _ (by decide +kernel)) ggX5_added_X5_within
set_option maxRecDepth 20000 in
theorem ggX5_added_X2_countMeasured : GoodIn wsX5_added wsX2_countMeasured := goodIn_r _ [13, 14, 15, 16, 17, 62, 63, 64, 65, 66, 67, 68, 69, 70, 71] (by decide +kernel) (by decide +kernel)
set_option maxRecDepth 20000 in
theorem gX5_added_X2_countMeasured : GoodIn wsX5_added (wsV RX5 213 RX2 yX2_countMeasured wsX2_countMeasured) := goodIn_app (goodIn_of _ (by decide +kernel)) ggX5_added_X2_countMeasured
set_option maxRecDepth 20000 in
theorem ggX5_added_X2_keyAdded : GoodIn wsX5_added wsX2_keyAdded := goodIn_r _ [21, 14, 15, 16, 17, 22, 23, 24, 25, 12, 26, 27, 28, 29, 30, 31, 32, 33, 34, 35, 36, 37, 38, 39, 40, 41, 42, 43, 44, 45, 46, 47, 48, 49, 50, 51, 52, 62, 63, 64, 65, 66, 67, 68, 69, 70, 71, 72, 73] (by decide +kernel) (by decide +kernel)
set_option maxRecDepth 20000 in
theorem gX5_added_X2_keyAdded : GoodIn wsX5_added (wsV RX5 229 RX2 yX2_keyAdded wsX2_keyAdded) := goodIn_app (goodIn_of _ (by decide +kernel)) ggX5_added_X2_keyAdded
theorem dX5_added_0 : decode cX5_added 0 = .ok (.iload_n 1, 1) := by decide +kernel
theorem dX5_added_1 : decode cX5_added 1 = .ok (.iconst 0, 1) := by decide +kernel
theorem dX5_added_2 : decode cX5_added 2 = .ok (.iconst 1, 1) := by decide +kernel
theorem dX5_added_3 : decode cX5_added 3 = .ok (.invokestatic 61, 3) := by decide +kernel
theorem dX5_added_6 : decode cX5_added 6 = .ok (.ifCond .ne 6, 3) := by decide +kernel
theorem dX5_added_9 : decode cX5_added 9 = .ok (.ldc 65, 2) := by decide +kernel
theorem dX5_added_11 : decode cX5_added 11 = .ok (.ireturn, 1) := by decide +kernel
theorem dX5_added_12 : decode cX5_added 12 = .ok (.aload_n 0, 1) := by decide +kernel
theorem dX5_added_13 : decode cX5_added 13 = .ok (.getfield 57, 3) := by decide +kernel
theorem dX5_added_16 : decode cX5_added 16 = .ok (.invokevirtual 213, 3) := by decide +kernel
theorem dX5_added_19 : decode cX5_added 19 = .ok (.iconst 2, 1) := by decide +kernel
theorem dX5_added_20 : decode cX5_added 20 = .ok (.if_icmp .ge 6, 3) := by decide +kernel
theorem dX5_added_23 : decode cX5_added 23 = .ok (.ldc 147, 2) := by decide +kernel
theorem dX5_added_25 : decode cX5_added 25 = .ok (.ireturn, 1) := by decide +kernel
theorem dX5_added_26 : decode cX5_added 26 = .ok (.aload_n 0, 1) := by decide +kernel
theorem dX5_added_27 : decode cX5_added 27 = .ok (.getfield 57, 3) := by decide +kernel
theorem dX5_added_30 : decode cX5_added 30 = .ok (.invokevirtual 229, 3) := by decide +kernel
theorem dX5_added_33 : decode cX5_added 33 = .ok (.istore_n 2, 1) := by decide +kernel
theorem dX5_added_34 : decode cX5_added 34 = .ok (.iload_n 1, 1) := by decide +kernel
theorem dX5_added_35 : decode cX5_added 35 = .ok (.ifCond .ne 7, 3) := by decide +kernel
theorem dX5_added_38 : decode cX5_added 38 = .ok (.iload_n 2, 1) := by decide +kernel
theorem dX5_added_39 : decode cX5_added 39 = .ok (.goto 10, 3) := by decide +kernel
theorem dX5_added_42 : decode cX5_added 42 = .ok (.aload_n 0, 1) := by decide +kernel
theorem dX5_added_43 : decode cX5_added 43 = .ok (.getfield 57, 3) := by decide +kernel
theorem dX5_added_46 : decode cX5_added 46 = .ok (.getfield 223, 3) := by decide +kernel
theorem dX5_added_49 : decode cX5_added 49 = .ok (.ireturn, 1) := by decide +kernel
set_option maxRecDepth 20000 in
theorem ggX5_bentLater_X5_within : GoodIn wsX5_bentLater wsX5_within := goodIn_r _ [8] (by decide +kernel) (by decide +kernel)
set_option maxRecDepth 20000 in
theorem gX5_bentLater_X5_within : GoodIn wsX5_bentLater (va_wsS RX5 61 yX5_within wsX5_within) := goodIn_app (goodIn_of _ (by decide +kernel)) ggX5_bentLater_X5_within
set_option maxRecDepth 20000 in
theorem ggX5_bentLater_X2_countMeasured : GoodIn wsX5_bentLater wsX2_countMeasured := goodIn_r _ [13, 14, 15, 16, 17, 62, 63, 64, 65, 66, 67, 68, 69, 70, 71] (by decide +kernel) (by decide +kernel)
set_option maxRecDepth 20000 in
theorem gX5_bentLater_X2_countMeasured : GoodIn wsX5_bentLater (wsV RX5 213 RX2 yX2_countMeasured wsX2_countMeasured) := goodIn_app (goodIn_of _ (by decide +kernel)) ggX5_bentLater_X2_countMeasured
set_option maxRecDepth 20000 in
theorem ggX5_bentLater_X2_keyBentLater : GoodIn wsX5_bentLater wsX2_keyBentLater := goodIn_r _ [21, 14, 15, 16, 17, 22, 23, 24, 25, 26, 27, 28, 29, 30, 12, 31, 32, 33, 34, 35, 36, 37, 38, 39, 40, 41, 42, 43, 44, 45, 46, 47, 48, 49, 50, 51, 52, 62, 63, 64, 65, 66, 67, 68, 69, 70, 71, 72, 73] (by decide +kernel) (by decide +kernel)
set_option maxRecDepth 20000 in
theorem gX5_bentLater_X2_keyBentLater : GoodIn wsX5_bentLater (wsV RX5 232 RX2 yX2_keyBentLater wsX2_keyBentLater) := goodIn_app (goodIn_of _ (by decide +kernel)) ggX5_bentLater_X2_keyBentLater
theorem dX5_bentLater_0 : decode cX5_bentLater 0 = .ok (.iload_n 1, 1) := by decide +kernel
theorem dX5_bentLater_1 : decode cX5_bentLater 1 = .ok (.iconst 0, 1) := by decide +kernel
theorem dX5_bentLater_2 : decode cX5_bentLater 2 = .ok (.ldc 206, 2) := by decide +kernel
theorem dX5_bentLater_4 : decode cX5_bentLater 4 = .ok (.invokestatic 61, 3) := by decide +kernel
theorem dX5_bentLater_7 : decode cX5_bentLater 7 = .ok (.ifCond .ne 6, 3) := by decide +kernel
theorem dX5_bentLater_10 : decode cX5_bentLater 10 = .ok (.ldc 65, 2) := by decide +kernel
theorem dX5_bentLater_12 : decode cX5_bentLater 12 = .ok (.ireturn, 1) := by decide +kernel
theorem dX5_bentLater_13 : decode cX5_bentLater 13 = .ok (.aload_n 0, 1) := by decide +kernel
theorem dX5_bentLater_14 : decode cX5_bentLater 14 = .ok (.getfield 57, 3) := by decide +kernel
theorem dX5_bentLater_17 : decode cX5_bentLater 17 = .ok (.invokevirtual 213, 3) := by decide +kernel
theorem dX5_bentLater_20 : decode cX5_bentLater 20 = .ok (.iconst 1, 1) := by decide +kernel
theorem dX5_bentLater_21 : decode cX5_bentLater 21 = .ok (.if_icmp .ge 6, 3) := by decide +kernel
theorem dX5_bentLater_24 : decode cX5_bentLater 24 = .ok (.ldc 147, 2) := by decide +kernel
theorem dX5_bentLater_26 : decode cX5_bentLater 26 = .ok (.ireturn, 1) := by decide +kernel
theorem dX5_bentLater_27 : decode cX5_bentLater 27 = .ok (.aload_n 0, 1) := by decide +kernel
theorem dX5_bentLater_28 : decode cX5_bentLater 28 = .ok (.getfield 57, 3) := by decide +kernel
theorem dX5_bentLater_31 : decode cX5_bentLater 31 = .ok (.iload_n 1, 1) := by decide +kernel
theorem dX5_bentLater_32 : decode cX5_bentLater 32 = .ok (.iload_n 2, 1) := by decide +kernel
theorem dX5_bentLater_33 : decode cX5_bentLater 33 = .ok (.invokevirtual 232, 3) := by decide +kernel
theorem dX5_bentLater_36 : decode cX5_bentLater 36 = .ok (.ireturn, 1) := by decide +kernel
set_option maxRecDepth 20000 in
theorem ggX5_count_X0_countStruck : GoodIn wsX5_count wsX0_countStruck := goodIn_r _ [11, 12, 13, 14, 10, 15, 16, 17, 54, 55, 56, 57, 58] (by decide +kernel) (by decide +kernel)
set_option maxRecDepth 20000 in
theorem gX5_count_X0_countStruck : GoodIn wsX5_count (wsV RX5 235 RX0 yX0_countStruck wsX0_countStruck) := goodIn_app (goodIn_of _ (by decide +kernel)) ggX5_count_X0_countStruck
set_option maxRecDepth 20000 in
theorem ggX5_count_X1_countNotes : GoodIn wsX5_count wsX1_countNotes := goodIn_r _ [22, 23, 59, 60, 61, 62, 63] (by decide +kernel) (by decide +kernel)
set_option maxRecDepth 20000 in
theorem gX5_count_X1_countNotes : GoodIn wsX5_count (wsV RX5 238 RX1 yX1_countNotes wsX1_countNotes) := goodIn_app (goodIn_of _ (by decide +kernel)) ggX5_count_X1_countNotes
set_option maxRecDepth 20000 in
theorem ggX5_count_J6_bitCount_0f7a4 : GoodIn wsX5_count wsJ6_bitCount_0f7a4 := goodIn_r _ [27, 28, 29, 30] (by decide +kernel) (by decide +kernel)
set_option maxRecDepth 20000 in
theorem gX5_count_J6_bitCount_0f7a4 : GoodIn wsX5_count (va_wsS RX5 241 yJ6_bitCount_0f7a4 wsJ6_bitCount_0f7a4) := goodIn_app (goodIn_of _ (by decide +kernel)) ggX5_count_J6_bitCount_0f7a4
set_option maxRecDepth 20000 in
theorem ggX5_count_X2_countMeasured : GoodIn wsX5_count wsX2_countMeasured := goodIn_r _ [35, 36, 37, 38, 39, 64, 65, 66, 67, 68, 54, 55, 56, 57, 58] (by decide +kernel) (by decide +kernel)
set_option maxRecDepth 20000 in
theorem gX5_count_X2_countMeasured : GoodIn wsX5_count (wsV RX5 213 RX2 yX2_countMeasured wsX2_countMeasured) := goodIn_app (goodIn_of _ (by decide +kernel)) ggX5_count_X2_countMeasured
set_option maxRecDepth 20000 in
theorem ggX5_count_X0_countBent : GoodIn wsX5_count wsX0_countBent := goodIn_r _ [43, 16, 44, 54, 55, 56, 57, 58] (by decide +kernel) (by decide +kernel)
set_option maxRecDepth 20000 in
theorem gX5_count_X0_countBent : GoodIn wsX5_count (wsV RX5 246 RX0 yX0_countBent wsX0_countBent) := goodIn_app (goodIn_of _ (by decide +kernel)) ggX5_count_X0_countBent
theorem dX5_count_0 : decode cX5_count 0 = .ok (.iload_n 1, 1) := by decide +kernel
theorem dX5_count_1 : decode cX5_count 1 = .ok (.tableswitch 87 0 5 #[39, 47, 55, 63, 71, 79], 39) := by decide +kernel
theorem dX5_count_40 : decode cX5_count 40 = .ok (.aload_n 0, 1) := by decide +kernel
theorem dX5_count_41 : decode cX5_count 41 = .ok (.getfield 25, 3) := by decide +kernel
theorem dX5_count_44 : decode cX5_count 44 = .ok (.getfield 66, 3) := by decide +kernel
theorem dX5_count_47 : decode cX5_count 47 = .ok (.ireturn, 1) := by decide +kernel
theorem dX5_count_48 : decode cX5_count 48 = .ok (.aload_n 0, 1) := by decide +kernel
theorem dX5_count_49 : decode cX5_count 49 = .ok (.getfield 25, 3) := by decide +kernel
theorem dX5_count_52 : decode cX5_count 52 = .ok (.invokevirtual 235, 3) := by decide +kernel
theorem dX5_count_55 : decode cX5_count 55 = .ok (.ireturn, 1) := by decide +kernel
theorem dX5_count_56 : decode cX5_count 56 = .ok (.aload_n 0, 1) := by decide +kernel
theorem dX5_count_57 : decode cX5_count 57 = .ok (.getfield 41, 3) := by decide +kernel
theorem dX5_count_60 : decode cX5_count 60 = .ok (.invokevirtual 238, 3) := by decide +kernel
theorem dX5_count_63 : decode cX5_count 63 = .ok (.ireturn, 1) := by decide +kernel
theorem dX5_count_64 : decode cX5_count 64 = .ok (.aload_n 0, 1) := by decide +kernel
theorem dX5_count_65 : decode cX5_count 65 = .ok (.getfield 19, 3) := by decide +kernel
theorem dX5_count_68 : decode cX5_count 68 = .ok (.invokestatic 241, 3) := by decide +kernel
theorem dX5_count_71 : decode cX5_count 71 = .ok (.ireturn, 1) := by decide +kernel
theorem dX5_count_72 : decode cX5_count 72 = .ok (.aload_n 0, 1) := by decide +kernel
theorem dX5_count_73 : decode cX5_count 73 = .ok (.getfield 57, 3) := by decide +kernel
theorem dX5_count_76 : decode cX5_count 76 = .ok (.invokevirtual 213, 3) := by decide +kernel
theorem dX5_count_79 : decode cX5_count 79 = .ok (.ireturn, 1) := by decide +kernel
theorem dX5_count_80 : decode cX5_count 80 = .ok (.aload_n 0, 1) := by decide +kernel
theorem dX5_count_81 : decode cX5_count 81 = .ok (.getfield 25, 3) := by decide +kernel
theorem dX5_count_84 : decode cX5_count 84 = .ok (.invokevirtual 246, 3) := by decide +kernel
theorem dX5_count_87 : decode cX5_count 87 = .ok (.ireturn, 1) := by decide +kernel
theorem dX5_count_88 : decode cX5_count 88 = .ok (.ldc 65, 2) := by decide +kernel
theorem dX5_count_90 : decode cX5_count 90 = .ok (.ireturn, 1) := by decide +kernel
set_option maxRecDepth 20000 in
theorem ggX5_goalOf_X3_goalAt : GoodIn wsX5_goalOf wsX3_goalAt := goodIn_r _ [8, 9, 10, 20, 21] (by decide +kernel) (by decide +kernel)
set_option maxRecDepth 20000 in
theorem gX5_goalOf_X3_goalAt : GoodIn wsX5_goalOf (wsV RX5 249 RX3 yX3_goalAt wsX3_goalAt) := goodIn_app (goodIn_of _ (by decide +kernel)) ggX5_goalOf_X3_goalAt
theorem dX5_goalOf_0 : decode cX5_goalOf 0 = .ok (.aload_n 0, 1) := by decide +kernel
theorem dX5_goalOf_1 : decode cX5_goalOf 1 = .ok (.getfield 32, 3) := by decide +kernel
theorem dX5_goalOf_4 : decode cX5_goalOf 4 = .ok (.aload_n 0, 1) := by decide +kernel
theorem dX5_goalOf_5 : decode cX5_goalOf 5 = .ok (.getfield 7, 3) := by decide +kernel
theorem dX5_goalOf_8 : decode cX5_goalOf 8 = .ok (.aload_n 0, 1) := by decide +kernel
theorem dX5_goalOf_9 : decode cX5_goalOf 9 = .ok (.getfield 13, 3) := by decide +kernel
theorem dX5_goalOf_12 : decode cX5_goalOf 12 = .ok (.iload_n 1, 1) := by decide +kernel
theorem dX5_goalOf_13 : decode cX5_goalOf 13 = .ok (.invokevirtual 249, 3) := by decide +kernel
theorem dX5_goalOf_16 : decode cX5_goalOf 16 = .ok (.ireturn, 1) := by decide +kernel
set_option maxRecDepth 20000 in
theorem ggX5_errorOf_X0_toneOf : GoodIn wsX5_errorOf wsX0_toneOf := goodIn_r _ [6, 7, 8, 9, 10, 5, 11, 12, 13, 14, 39, 40, 41, 42, 43] (by decide +kernel) (by decide +kernel)
set_option maxRecDepth 20000 in
theorem gX5_errorOf_X0_toneOf : GoodIn wsX5_errorOf (wsV RX5 90 RX0 yX0_toneOf wsX0_toneOf) := goodIn_app (goodIn_of _ (by decide +kernel)) ggX5_errorOf_X0_toneOf
set_option maxRecDepth 20000 in
theorem ggX5_errorOf_X5_goalOf : GoodIn wsX5_errorOf wsX5_goalOf := goodIn_r _ [19, 20, 21, 22, 23, 24, 25, 26, 27, 28, 29, 30, 31, 32, 33, 34, 35, 36, 37, 38, 44, 45] (by decide +kernel) (by decide +kernel)
set_option maxRecDepth 20000 in
theorem gX5_errorOf_X5_goalOf : GoodIn wsX5_errorOf (wsV RX5 94 RX5 yX5_goalOf wsX5_goalOf) := goodIn_app (goodIn_of _ (by decide +kernel)) ggX5_errorOf_X5_goalOf
theorem dX5_errorOf_0 : decode cX5_errorOf 0 = .ok (.aload_n 0, 1) := by decide +kernel
theorem dX5_errorOf_1 : decode cX5_errorOf 1 = .ok (.getfield 25, 3) := by decide +kernel
theorem dX5_errorOf_4 : decode cX5_errorOf 4 = .ok (.iload_n 1, 1) := by decide +kernel
theorem dX5_errorOf_5 : decode cX5_errorOf 5 = .ok (.invokevirtual 90, 3) := by decide +kernel
theorem dX5_errorOf_8 : decode cX5_errorOf 8 = .ok (.aload_n 0, 1) := by decide +kernel
theorem dX5_errorOf_9 : decode cX5_errorOf 9 = .ok (.iload_n 1, 1) := by decide +kernel
theorem dX5_errorOf_10 : decode cX5_errorOf 10 = .ok (.invokevirtual 94, 3) := by decide +kernel
theorem dX5_errorOf_13 : decode cX5_errorOf 13 = .ok (.isub, 1) := by decide +kernel
theorem dX5_errorOf_14 : decode cX5_errorOf 14 = .ok (.ireturn, 1) := by decide +kernel
set_option maxRecDepth 20000 in
theorem ggX5_allErrors_X5_errorOf : GoodIn wsX5_allErrors wsX5_errorOf := goodIn_r _ [11, 1, 12, 13, 14, 15, 16, 17, 18, 19, 20, 21, 22, 23, 24, 25, 26, 27, 10, 28, 29, 30, 31, 32, 33, 34, 35, 36, 37, 38, 39, 40, 41, 42, 43, 44, 45, 46, 47, 48, 49, 50, 51, 52, 53, 54] (by decide +kernel) (by decide +kernel)
set_option maxRecDepth 20000 in
theorem gX5_allErrors_X5_errorOf : GoodIn wsX5_allErrors (wsV RX5 97 RX5 yX5_errorOf wsX5_errorOf) := goodIn_app (goodIn_of _ (by decide +kernel)) ggX5_allErrors_X5_errorOf
theorem dX5_allErrors_0 : decode cX5_allErrors 0 = .ok (.iconst 0, 1) := by decide +kernel
theorem dX5_allErrors_1 : decode cX5_allErrors 1 = .ok (.istore_n 1, 1) := by decide +kernel
theorem dX5_allErrors_2 : decode cX5_allErrors 2 = .ok (.iconst 0, 1) := by decide +kernel
theorem dX5_allErrors_3 : decode cX5_allErrors 3 = .ok (.istore_n 2, 1) := by decide +kernel
theorem dX5_allErrors_4 : decode cX5_allErrors 4 = .ok (.iload_n 2, 1) := by decide +kernel
theorem dX5_allErrors_5 : decode cX5_allErrors 5 = .ok (.aload_n 0, 1) := by decide +kernel
theorem dX5_allErrors_6 : decode cX5_allErrors 6 = .ok (.getfield 25, 3) := by decide +kernel
theorem dX5_allErrors_9 : decode cX5_allErrors 9 = .ok (.getfield 66, 3) := by decide +kernel
theorem dX5_allErrors_12 : decode cX5_allErrors 12 = .ok (.if_icmp .ge 20, 3) := by decide +kernel
theorem dX5_allErrors_15 : decode cX5_allErrors 15 = .ok (.iload_n 1, 1) := by decide +kernel
theorem dX5_allErrors_16 : decode cX5_allErrors 16 = .ok (.aload_n 0, 1) := by decide +kernel
theorem dX5_allErrors_17 : decode cX5_allErrors 17 = .ok (.iload_n 2, 1) := by decide +kernel
theorem dX5_allErrors_18 : decode cX5_allErrors 18 = .ok (.invokevirtual 97, 3) := by decide +kernel
theorem dX5_allErrors_21 : decode cX5_allErrors 21 = .ok (.invokestatic 136, 3) := by decide +kernel
theorem dX5_allErrors_24 : decode cX5_allErrors 24 = .ok (.iadd, 1) := by decide +kernel
theorem dX5_allErrors_25 : decode cX5_allErrors 25 = .ok (.istore_n 1, 1) := by decide +kernel
theorem dX5_allErrors_26 : decode cX5_allErrors 26 = .ok (.iinc 2 1, 3) := by decide +kernel
theorem dX5_allErrors_29 : decode cX5_allErrors 29 = .ok (.goto (-25), 3) := by decide +kernel
theorem dX5_allErrors_32 : decode cX5_allErrors 32 = .ok (.iload_n 1, 1) := by decide +kernel
theorem dX5_allErrors_33 : decode cX5_allErrors 33 = .ok (.ireturn, 1) := by decide +kernel
set_option maxRecDepth 20000 in
theorem ggX5_tuneOne_X5_goalOf : GoodIn wsX5_tuneOne wsX5_goalOf := goodIn_r _ [11, 12, 13, 14, 15, 16, 17, 18, 19, 20, 21, 30, 31, 32, 33, 34, 35, 36, 37, 38, 44, 45] (by decide +kernel) (by decide +kernel)
set_option maxRecDepth 20000 in
theorem gX5_tuneOne_X5_goalOf : GoodIn wsX5_tuneOne (wsV RX5 94 RX5 yX5_goalOf wsX5_goalOf) := goodIn_app (goodIn_of _ (by decide +kernel)) ggX5_tuneOne_X5_goalOf
set_option maxRecDepth 20000 in
theorem ggX5_tuneOne_X0_toneBent : GoodIn wsX5_tuneOne wsX0_toneBent := goodIn_r _ [26, 27, 28, 29, 39, 40, 41, 42, 43] (by decide +kernel) (by decide +kernel)
set_option maxRecDepth 20000 in
theorem gX5_tuneOne_X0_toneBent : GoodIn wsX5_tuneOne (wsV RX5 252 RX0 yX0_toneBent wsX0_toneBent) := goodIn_app (goodIn_of _ (by decide +kernel)) ggX5_tuneOne_X0_toneBent
theorem dX5_tuneOne_0 : decode cX5_tuneOne 0 = .ok (.aload_n 0, 1) := by decide +kernel
theorem dX5_tuneOne_1 : decode cX5_tuneOne 1 = .ok (.iload_n 1, 1) := by decide +kernel
theorem dX5_tuneOne_2 : decode cX5_tuneOne 2 = .ok (.invokevirtual 94, 3) := by decide +kernel
theorem dX5_tuneOne_5 : decode cX5_tuneOne 5 = .ok (.istore_n 2, 1) := by decide +kernel
theorem dX5_tuneOne_6 : decode cX5_tuneOne 6 = .ok (.iconst 0, 1) := by decide +kernel
theorem dX5_tuneOne_7 : decode cX5_tuneOne 7 = .ok (.istore_n 3, 1) := by decide +kernel
theorem dX5_tuneOne_8 : decode cX5_tuneOne 8 = .ok (.aload_n 0, 1) := by decide +kernel
theorem dX5_tuneOne_9 : decode cX5_tuneOne 9 = .ok (.getfield 25, 3) := by decide +kernel
theorem dX5_tuneOne_12 : decode cX5_tuneOne 12 = .ok (.iload_n 1, 1) := by decide +kernel
theorem dX5_tuneOne_13 : decode cX5_tuneOne 13 = .ok (.iconst 0, 1) := by decide +kernel
theorem dX5_tuneOne_14 : decode cX5_tuneOne 14 = .ok (.invokevirtual 252, 3) := by decide +kernel
theorem dX5_tuneOne_17 : decode cX5_tuneOne 17 = .ok (.iload_n 2, 1) := by decide +kernel
theorem dX5_tuneOne_18 : decode cX5_tuneOne 18 = .ok (.isub, 1) := by decide +kernel
theorem dX5_tuneOne_19 : decode cX5_tuneOne 19 = .ok (.invokestatic 136, 3) := by decide +kernel
theorem dX5_tuneOne_22 : decode cX5_tuneOne 22 = .ok (.istore 4, 2) := by decide +kernel
theorem dX5_tuneOne_24 : decode cX5_tuneOne 24 = .ok (.iconst 1, 1) := by decide +kernel
theorem dX5_tuneOne_25 : decode cX5_tuneOne 25 = .ok (.istore 5, 2) := by decide +kernel
theorem dX5_tuneOne_27 : decode cX5_tuneOne 27 = .ok (.iload 5, 2) := by decide +kernel
theorem dX5_tuneOne_29 : decode cX5_tuneOne 29 = .ok (.bipush 40, 2) := by decide +kernel
theorem dX5_tuneOne_31 : decode cX5_tuneOne 31 = .ok (.if_icmp .gt 73, 3) := by decide +kernel
theorem dX5_tuneOne_34 : decode cX5_tuneOne 34 = .ok (.aload_n 0, 1) := by decide +kernel
theorem dX5_tuneOne_35 : decode cX5_tuneOne 35 = .ok (.getfield 25, 3) := by decide +kernel
theorem dX5_tuneOne_38 : decode cX5_tuneOne 38 = .ok (.iload_n 1, 1) := by decide +kernel
theorem dX5_tuneOne_39 : decode cX5_tuneOne 39 = .ok (.iload 5, 2) := by decide +kernel
theorem dX5_tuneOne_41 : decode cX5_tuneOne 41 = .ok (.ineg, 1) := by decide +kernel
theorem dX5_tuneOne_42 : decode cX5_tuneOne 42 = .ok (.invokevirtual 252, 3) := by decide +kernel
theorem dX5_tuneOne_45 : decode cX5_tuneOne 45 = .ok (.iload_n 2, 1) := by decide +kernel
theorem dX5_tuneOne_46 : decode cX5_tuneOne 46 = .ok (.isub, 1) := by decide +kernel
theorem dX5_tuneOne_47 : decode cX5_tuneOne 47 = .ok (.invokestatic 136, 3) := by decide +kernel
theorem dX5_tuneOne_50 : decode cX5_tuneOne 50 = .ok (.istore 6, 2) := by decide +kernel
theorem dX5_tuneOne_52 : decode cX5_tuneOne 52 = .ok (.iload 6, 2) := by decide +kernel
theorem dX5_tuneOne_54 : decode cX5_tuneOne 54 = .ok (.iload 4, 2) := by decide +kernel
theorem dX5_tuneOne_56 : decode cX5_tuneOne 56 = .ok (.if_icmp .ge 11, 3) := by decide +kernel
theorem dX5_tuneOne_59 : decode cX5_tuneOne 59 = .ok (.iload 5, 2) := by decide +kernel
theorem dX5_tuneOne_61 : decode cX5_tuneOne 61 = .ok (.ineg, 1) := by decide +kernel
theorem dX5_tuneOne_62 : decode cX5_tuneOne 62 = .ok (.istore_n 3, 1) := by decide +kernel
theorem dX5_tuneOne_63 : decode cX5_tuneOne 63 = .ok (.iload 6, 2) := by decide +kernel
theorem dX5_tuneOne_65 : decode cX5_tuneOne 65 = .ok (.istore 4, 2) := by decide +kernel
theorem dX5_tuneOne_67 : decode cX5_tuneOne 67 = .ok (.aload_n 0, 1) := by decide +kernel
theorem dX5_tuneOne_68 : decode cX5_tuneOne 68 = .ok (.getfield 25, 3) := by decide +kernel
theorem dX5_tuneOne_71 : decode cX5_tuneOne 71 = .ok (.iload_n 1, 1) := by decide +kernel
theorem dX5_tuneOne_72 : decode cX5_tuneOne 72 = .ok (.iload 5, 2) := by decide +kernel
theorem dX5_tuneOne_74 : decode cX5_tuneOne 74 = .ok (.invokevirtual 252, 3) := by decide +kernel
theorem dX5_tuneOne_77 : decode cX5_tuneOne 77 = .ok (.iload_n 2, 1) := by decide +kernel
theorem dX5_tuneOne_78 : decode cX5_tuneOne 78 = .ok (.isub, 1) := by decide +kernel
theorem dX5_tuneOne_79 : decode cX5_tuneOne 79 = .ok (.invokestatic 136, 3) := by decide +kernel
theorem dX5_tuneOne_82 : decode cX5_tuneOne 82 = .ok (.istore 7, 2) := by decide +kernel
theorem dX5_tuneOne_84 : decode cX5_tuneOne 84 = .ok (.iload 7, 2) := by decide +kernel
theorem dX5_tuneOne_86 : decode cX5_tuneOne 86 = .ok (.iload 4, 2) := by decide +kernel
theorem dX5_tuneOne_88 : decode cX5_tuneOne 88 = .ok (.if_icmp .ge 10, 3) := by decide +kernel
theorem dX5_tuneOne_91 : decode cX5_tuneOne 91 = .ok (.iload 5, 2) := by decide +kernel
theorem dX5_tuneOne_93 : decode cX5_tuneOne 93 = .ok (.istore_n 3, 1) := by decide +kernel
theorem dX5_tuneOne_94 : decode cX5_tuneOne 94 = .ok (.iload 7, 2) := by decide +kernel
theorem dX5_tuneOne_96 : decode cX5_tuneOne 96 = .ok (.istore 4, 2) := by decide +kernel
theorem dX5_tuneOne_98 : decode cX5_tuneOne 98 = .ok (.iinc 5 1, 3) := by decide +kernel
theorem dX5_tuneOne_101 : decode cX5_tuneOne 101 = .ok (.goto (-74), 3) := by decide +kernel
theorem dX5_tuneOne_104 : decode cX5_tuneOne 104 = .ok (.aload_n 0, 1) := by decide +kernel
theorem dX5_tuneOne_105 : decode cX5_tuneOne 105 = .ok (.getfield 25, 3) := by decide +kernel
theorem dX5_tuneOne_108 : decode cX5_tuneOne 108 = .ok (.getfield 84, 3) := by decide +kernel
theorem dX5_tuneOne_111 : decode cX5_tuneOne 111 = .ok (.iload_n 1, 1) := by decide +kernel
theorem dX5_tuneOne_112 : decode cX5_tuneOne 112 = .ok (.iload_n 3, 1) := by decide +kernel
theorem dX5_tuneOne_113 : decode cX5_tuneOne 113 = .ok (.iastore, 1) := by decide +kernel
theorem dX5_tuneOne_114 : decode cX5_tuneOne 114 = .ok (.return_, 1) := by decide +kernel
set_option maxRecDepth 20000 in
theorem ggX5_findStrings_X4_gather : GoodIn wsX5_findStrings wsX4_gather := goodIn_r _ [10, 11, 12, 13, 14, 9, 15, 16, 17, 18, 19, 20, 21, 22, 23, 24, 25, 26, 27, 28, 29, 30, 31, 32, 33, 34, 35, 36, 37, 38, 39, 40, 41, 42, 43, 44, 45, 46, 47, 91, 92, 93, 94, 95, 96, 97, 98, 99, 100] (by decide +kernel) (by decide +kernel)
set_option maxRecDepth 20000 in
theorem gX5_findStrings_X4_gather : GoodIn wsX5_findStrings (wsV RX5 183 RX4 yX4_gather wsX4_gather) := goodIn_app (goodIn_of _ (by decide +kernel)) ggX5_findStrings_X4_gather
set_option maxRecDepth 20000 in
theorem ggX5_findStrings_X4_solve : GoodIn wsX5_findStrings wsX4_solve := goodIn_r _ [51, 52, 53, 54, 55, 56, 57, 58, 9, 59, 41, 42, 43, 44, 60, 61, 62, 63, 11, 91, 92, 93, 94, 95] (by decide +kernel) (by decide +kernel)
set_option maxRecDepth 20000 in
theorem gX5_findStrings_X4_solve : GoodIn wsX5_findStrings (wsV RX5 255 RX4 yX4_solve wsX4_solve) := goodIn_app (goodIn_of _ (by decide +kernel)) ggX5_findStrings_X4_solve
set_option maxRecDepth 20000 in
theorem ggX5_findStrings_X4_fewestStrings : GoodIn wsX5_findStrings wsX4_fewestStrings := goodIn_r _ [67, 52, 68, 69, 70, 9, 71, 54, 91, 92, 93, 94, 95] (by decide +kernel) (by decide +kernel)
set_option maxRecDepth 20000 in
theorem gX5_findStrings_X4_fewestStrings : GoodIn wsX5_findStrings (wsV RX5 258 RX4 yX4_fewestStrings wsX4_fewestStrings) := goodIn_app (goodIn_of _ (by decide +kernel)) ggX5_findStrings_X4_fewestStrings
set_option maxRecDepth 20000 in
theorem ggX5_findStrings_X4_bestStrings : GoodIn wsX5_findStrings wsX4_bestStrings := goodIn_r _ [75, 76, 55, 52, 68, 69, 70, 9, 71, 54, 91, 92, 93, 94, 95] (by decide +kernel) (by decide +kernel)
set_option maxRecDepth 20000 in
theorem gX5_findStrings_X4_bestStrings : GoodIn wsX5_findStrings (wsV RX5 261 RX4 yX4_bestStrings wsX4_bestStrings) := goodIn_app (goodIn_of _ (by decide +kernel)) ggX5_findStrings_X4_bestStrings
theorem dX5_findStrings_0 : decode cX5_findStrings 0 = .ok (.aload_n 0, 1) := by decide +kernel
theorem dX5_findStrings_1 : decode cX5_findStrings 1 = .ok (.getfield 48, 3) := by decide +kernel
theorem dX5_findStrings_4 : decode cX5_findStrings 4 = .ok (.aload_n 0, 1) := by decide +kernel
theorem dX5_findStrings_5 : decode cX5_findStrings 5 = .ok (.getfield 41, 3) := by decide +kernel
theorem dX5_findStrings_8 : decode cX5_findStrings 8 = .ok (.aload_n 0, 1) := by decide +kernel
theorem dX5_findStrings_9 : decode cX5_findStrings 9 = .ok (.getfield 19, 3) := by decide +kernel
theorem dX5_findStrings_12 : decode cX5_findStrings 12 = .ok (.invokevirtual 183, 3) := by decide +kernel
theorem dX5_findStrings_15 : decode cX5_findStrings 15 = .ok (.aload_n 0, 1) := by decide +kernel
theorem dX5_findStrings_16 : decode cX5_findStrings 16 = .ok (.getfield 48, 3) := by decide +kernel
theorem dX5_findStrings_19 : decode cX5_findStrings 19 = .ok (.aload_n 0, 1) := by decide +kernel
theorem dX5_findStrings_20 : decode cX5_findStrings 20 = .ok (.getfield 25, 3) := by decide +kernel
theorem dX5_findStrings_23 : decode cX5_findStrings 23 = .ok (.getfield 66, 3) := by decide +kernel
theorem dX5_findStrings_26 : decode cX5_findStrings 26 = .ok (.iload_n 1, 1) := by decide +kernel
theorem dX5_findStrings_27 : decode cX5_findStrings 27 = .ok (.invokevirtual 255, 3) := by decide +kernel
theorem dX5_findStrings_30 : decode cX5_findStrings 30 = .ok (.iload_n 2, 1) := by decide +kernel
theorem dX5_findStrings_31 : decode cX5_findStrings 31 = .ok (.ifCond .ne 13, 3) := by decide +kernel
theorem dX5_findStrings_34 : decode cX5_findStrings 34 = .ok (.aload_n 0, 1) := by decide +kernel
theorem dX5_findStrings_35 : decode cX5_findStrings 35 = .ok (.getfield 48, 3) := by decide +kernel
theorem dX5_findStrings_38 : decode cX5_findStrings 38 = .ok (.invokevirtual 258, 3) := by decide +kernel
theorem dX5_findStrings_41 : decode cX5_findStrings 41 = .ok (.goto 11, 3) := by decide +kernel
theorem dX5_findStrings_44 : decode cX5_findStrings 44 = .ok (.aload_n 0, 1) := by decide +kernel
theorem dX5_findStrings_45 : decode cX5_findStrings 45 = .ok (.getfield 48, 3) := by decide +kernel
theorem dX5_findStrings_48 : decode cX5_findStrings 48 = .ok (.iload_n 2, 1) := by decide +kernel
theorem dX5_findStrings_49 : decode cX5_findStrings 49 = .ok (.invokevirtual 261, 3) := by decide +kernel
theorem dX5_findStrings_52 : decode cX5_findStrings 52 = .ok (.ireturn, 1) := by decide +kernel
theorem dX5_within_0 : decode cX5_within 0 = .ok (.iload_n 1, 1) := by decide +kernel
theorem dX5_within_1 : decode cX5_within 1 = .ok (.iload_n 0, 1) := by decide +kernel
theorem dX5_within_2 : decode cX5_within 2 = .ok (.if_icmp .gt 12, 3) := by decide +kernel
theorem dX5_within_5 : decode cX5_within 5 = .ok (.iload_n 0, 1) := by decide +kernel
theorem dX5_within_6 : decode cX5_within 6 = .ok (.iload_n 2, 1) := by decide +kernel
theorem dX5_within_7 : decode cX5_within 7 = .ok (.if_icmp .gt 7, 3) := by decide +kernel
theorem dX5_within_10 : decode cX5_within 10 = .ok (.iconst 1, 1) := by decide +kernel
theorem dX5_within_11 : decode cX5_within 11 = .ok (.goto 4, 3) := by decide +kernel
theorem dX5_within_14 : decode cX5_within 14 = .ok (.iconst 0, 1) := by decide +kernel
theorem dX5_within_15 : decode cX5_within 15 = .ok (.ireturn, 1) := by decide +kernel
set_option maxRecDepth 20000 in
theorem ggX5_isString_X5_within : GoodIn wsX5_isString wsX5_within := goodIn_r _ [4] (by decide +kernel) (by decide +kernel)
set_option maxRecDepth 20000 in
theorem gX5_isString_X5_within : GoodIn wsX5_isString (va_wsS RX5 61 yX5_within wsX5_within) := goodIn_app (goodIn_of _ (by decide +kernel)) ggX5_isString_X5_within
theorem dX5_isString_0 : decode cX5_isString 0 = .ok (.iload_n 0, 1) := by decide +kernel
theorem dX5_isString_1 : decode cX5_isString 1 = .ok (.iconst 0, 1) := by decide +kernel
theorem dX5_isString_2 : decode cX5_isString 2 = .ok (.bipush 23, 2) := by decide +kernel
theorem dX5_isString_4 : decode cX5_isString 4 = .ok (.invokestatic 61, 3) := by decide +kernel
theorem dX5_isString_7 : decode cX5_isString 7 = .ok (.ireturn, 1) := by decide +kernel
set_option maxRecDepth 20000 in
theorem ggX5_isScale_X5_within : GoodIn wsX5_isScale wsX5_within := goodIn_r _ [4] (by decide +kernel) (by decide +kernel)
set_option maxRecDepth 20000 in
theorem gX5_isScale_X5_within : GoodIn wsX5_isScale (va_wsS RX5 61 yX5_within wsX5_within) := goodIn_app (goodIn_of _ (by decide +kernel)) ggX5_isScale_X5_within
theorem dX5_isScale_0 : decode cX5_isScale 0 = .ok (.iload_n 0, 1) := by decide +kernel
theorem dX5_isScale_1 : decode cX5_isScale 1 = .ok (.iconst 0, 1) := by decide +kernel
theorem dX5_isScale_2 : decode cX5_isScale 2 = .ok (.iconst 4, 1) := by decide +kernel
theorem dX5_isScale_3 : decode cX5_isScale 3 = .ok (.invokestatic 61, 3) := by decide +kernel
theorem dX5_isScale_6 : decode cX5_isScale 6 = .ok (.ireturn, 1) := by decide +kernel
set_option maxRecDepth 20000 in
theorem ggX5_isStep_X5_within : GoodIn wsX5_isStep wsX5_within := goodIn_r _ [4] (by decide +kernel) (by decide +kernel)
set_option maxRecDepth 20000 in
theorem gX5_isStep_X5_within : GoodIn wsX5_isStep (va_wsS RX5 61 yX5_within wsX5_within) := goodIn_app (goodIn_of _ (by decide +kernel)) ggX5_isStep_X5_within
theorem dX5_isStep_0 : decode cX5_isStep 0 = .ok (.iload_n 0, 1) := by decide +kernel
theorem dX5_isStep_1 : decode cX5_isStep 1 = .ok (.iconst 0, 1) := by decide +kernel
theorem dX5_isStep_2 : decode cX5_isStep 2 = .ok (.bipush 11, 2) := by decide +kernel
theorem dX5_isStep_4 : decode cX5_isStep 4 = .ok (.invokestatic 61, 3) := by decide +kernel
theorem dX5_isStep_7 : decode cX5_isStep 7 = .ok (.ireturn, 1) := by decide +kernel
set_option maxRecDepth 20000 in
theorem ggX5_isPitch_X5_within : GoodIn wsX5_isPitch wsX5_within := goodIn_r _ [5] (by decide +kernel) (by decide +kernel)
set_option maxRecDepth 20000 in
theorem gX5_isPitch_X5_within : GoodIn wsX5_isPitch (va_wsS RX5 61 yX5_within wsX5_within) := goodIn_app (goodIn_of _ (by decide +kernel)) ggX5_isPitch_X5_within
theorem dX5_isPitch_0 : decode cX5_isPitch 0 = .ok (.iload_n 0, 1) := by decide +kernel
theorem dX5_isPitch_1 : decode cX5_isPitch 1 = .ok (.sipush 1000, 3) := by decide +kernel
theorem dX5_isPitch_4 : decode cX5_isPitch 4 = .ok (.ldc_w 264, 3) := by decide +kernel
theorem dX5_isPitch_7 : decode cX5_isPitch 7 = .ok (.invokestatic 61, 3) := by decide +kernel
theorem dX5_isPitch_10 : decode cX5_isPitch 10 = .ok (.ireturn, 1) := by decide +kernel
set_option maxRecDepth 20000 in
theorem ggX5_isPiece_X5_within : GoodIn wsX5_isPiece wsX5_within := goodIn_r _ [4] (by decide +kernel) (by decide +kernel)
set_option maxRecDepth 20000 in
theorem gX5_isPiece_X5_within : GoodIn wsX5_isPiece (va_wsS RX5 61 yX5_within wsX5_within) := goodIn_app (goodIn_of _ (by decide +kernel)) ggX5_isPiece_X5_within
theorem dX5_isPiece_0 : decode cX5_isPiece 0 = .ok (.iload_n 0, 1) := by decide +kernel
theorem dX5_isPiece_1 : decode cX5_isPiece 1 = .ok (.iconst 0, 1) := by decide +kernel
theorem dX5_isPiece_2 : decode cX5_isPiece 2 = .ok (.iconst 3, 1) := by decide +kernel
theorem dX5_isPiece_3 : decode cX5_isPiece 3 = .ok (.invokestatic 61, 3) := by decide +kernel
theorem dX5_isPiece_6 : decode cX5_isPiece 6 = .ok (.ireturn, 1) := by decide +kernel
set_option maxRecDepth 20000 in
theorem ggX5_isMost_X5_within : GoodIn wsX5_isMost wsX5_within := goodIn_r _ [4] (by decide +kernel) (by decide +kernel)
set_option maxRecDepth 20000 in
theorem gX5_isMost_X5_within : GoodIn wsX5_isMost (va_wsS RX5 61 yX5_within wsX5_within) := goodIn_app (goodIn_of _ (by decide +kernel)) ggX5_isMost_X5_within
theorem dX5_isMost_0 : decode cX5_isMost 0 = .ok (.iload_n 0, 1) := by decide +kernel
theorem dX5_isMost_1 : decode cX5_isMost 1 = .ok (.iconst 1, 1) := by decide +kernel
theorem dX5_isMost_2 : decode cX5_isMost 2 = .ok (.bipush 6, 2) := by decide +kernel
theorem dX5_isMost_4 : decode cX5_isMost 4 = .ok (.invokestatic 61, 3) := by decide +kernel
theorem dX5_isMost_7 : decode cX5_isMost 7 = .ok (.ireturn, 1) := by decide +kernel
theorem dX5_asNumber_0 : decode cX5_asNumber 0 = .ok (.iload_n 0, 1) := by decide +kernel
theorem dX5_asNumber_1 : decode cX5_asNumber 1 = .ok (.ifCond .eq 7, 3) := by decide +kernel
theorem dX5_asNumber_4 : decode cX5_asNumber 4 = .ok (.iconst 1, 1) := by decide +kernel
theorem dX5_asNumber_5 : decode cX5_asNumber 5 = .ok (.goto 4, 3) := by decide +kernel
theorem dX5_asNumber_8 : decode cX5_asNumber 8 = .ok (.iconst 0, 1) := by decide +kernel
theorem dX5_asNumber_9 : decode cX5_asNumber 9 = .ok (.ireturn, 1) := by decide +kernel
end
section
/-! numbers: an Int as a Java int -/
def iI (z : Int) : Int32 := Int32.ofInt z
def lI (z : Int) : Int64 := Int64.ofInt z
def rg (z : Int) : Prop := -2147483648 ≤ z ∧ z ≤ 2147483647
def bZ : Bool → Int
  | true => 1
  | false => 0
def aZ (z : Int) : Int := if z < 0 then -z else z
def aF (f : Int → Int) : Nat → Int32 := fun j => iI (f j)
def uZ (f : Int → Int) (i v : Int) : Int → Int := fun j => if j = i then v else f j
theorem iI_toInt {z : Int} (h : rg z) : (iI z).toInt = z := by
  unfold iI
  rw [Int32.toInt_ofInt, show Int32.size = 4294967296 from rfl]
  unfold rg at h
  apply Int.bmod_eq_of_le <;> omega
theorem lI_toInt {z : Int} (h : rg z) : (lI z).toInt = z := by
  unfold lI
  rw [Int64.toInt_ofInt, show Int64.size = 18446744073709551616 from rfl]
  unfold rg at h
  apply Int.bmod_eq_of_le <;> omega
theorem iI_of (x : Int32) : x = iI x.toInt := by unfold iI; exact (Int32.ofInt_toInt x).symm
theorem rg_of (x : Int32) : rg x.toInt := by
  have h1 := Int32.le_toInt x
  have h2 := Int32.toInt_lt x
  unfold rg
  omega
theorem iI_add (a b : Int) : iI a + iI b = iI (a + b) := by unfold iI; exact (Int32.ofInt_add a b).symm
theorem iI_sub (a b : Int) : iI a - iI b = iI (a - b) := by unfold iI; exact (Int32.ofInt_sub a b).symm
theorem iI_mul (a b : Int) : iI a * iI b = iI (a * b) := by unfold iI; exact (Int32.ofInt_mul a b).symm
theorem iI_neg (a : Int) : -iI a = iI (-a) := by unfold iI; exact (Int32.ofInt_neg a).symm
theorem iI_lt {a b : Int} (ha : rg a) (hb : rg b) : iI a < iI b ↔ a < b := by rw [Int32.lt_iff_toInt_lt, iI_toInt ha, iI_toInt hb]
theorem iI_le {a b : Int} (ha : rg a) (hb : rg b) : iI a ≤ iI b ↔ a ≤ b := by rw [Int32.le_iff_toInt_le, iI_toInt ha, iI_toInt hb]
theorem iI_eq {a b : Int} (ha : rg a) (hb : rg b) : iI a = iI b ↔ a = b := by rw [← Int32.toInt_inj, iI_toInt ha, iI_toInt hb]
theorem lI_lt {a b : Int} (ha : rg a) (hb : rg b) : lI a < lI b ↔ a < b := by rw [Int64.lt_iff_toInt_lt, lI_toInt ha, lI_toInt hb]
theorem lI_eq {a b : Int} (ha : rg a) (hb : rg b) : lI a = lI b ↔ a = b := by rw [← Int64.toInt_inj, lI_toInt ha, lI_toInt hb]
theorem iI_0 : (0 : Int32) = iI 0 := by decide
theorem iI_l {a : Int} (ha : rg a) : (iI a).toInt64 = lI a := by
  rw [← Int64.toInt_inj, lI_toInt ha, Int32.toInt_toInt64, iI_toInt ha]
theorem rg_s {z : Int} (h1 : -2147483648 ≤ z) (h2 : z ≤ 2147483647) : rg z := ⟨h1, h2⟩
theorem iI_div {a b : Int} (ha : 0 ≤ a) (ha2 : a ≤ 2147483647) (hb : 0 < b) (hb2 : b ≤ 2147483647) : iI a / iI b = iI (a / b) := by
  have h1 : a / b ≤ a := Int.ediv_le_self b ha
  have h2 : 0 ≤ a / b := Int.ediv_nonneg ha (Int.le_of_lt hb)
  rw [← Int32.toInt_inj, iI_toInt (⟨by omega, by omega⟩), Int32.toInt_div, iI_toInt ⟨by omega, by omega⟩, iI_toInt ⟨by omega, by omega⟩, Int.tdiv_eq_ediv_of_nonneg ha]
  apply Int.bmod_eq_of_le <;> omega
theorem iI_clamp {i : Int} (h0 : 0 ≤ i) (h1 : i ≤ 2147483647) : ((iI i).toNatClampNeg : Int) = i := by
  show (((iI i).toInt.toNat : Nat) : Int) = i
  rw [iI_toInt ⟨by omega, h1⟩]
  omega
theorem iI_in {i : Int} {n : Nat} (h0 : 0 ≤ i) (h1 : i < n) (h2 : i ≤ 2147483647) : vp_in (iI i) n := by
  rw [vp_in_iff, iI_toInt ⟨by omega, h2⟩]
  omega
theorem aF_at (f : Int → Int) {i : Int} (h0 : 0 ≤ i) (h2 : i ≤ 2147483647) : aF f (iI i).toNatClampNeg = iI (f i) := by
  unfold aF
  rw [iI_clamp h0 h2]
theorem aF_upd (f : Int → Int) {i v : Int} (h0 : 0 ≤ i) (h2 : i ≤ 2147483647) : upd (aF f) (iI i).toNatClampNeg (iI v) = aF (uZ f i v) := by
  have e := iI_clamp h0 h2
  funext j
  unfold upd aF uZ
  by_cases h : j = (iI i).toNatClampNeg
  · have : (j : Int) = i := by rw [h]; exact e
    simp [h, e]
  · have : ¬ (j : Int) = i := by omega
    simp [h, this]
theorem bZ_b (b : Bool) : 0 ≤ bZ b ∧ bZ b ≤ 1 := by cases b <;> decide
theorem bZ_0 {b : Bool} : iI (bZ b) = 0 ↔ b = false := by cases b <;> decide
theorem aZ_b (z : Int) : 0 ≤ aZ z ∧ (aZ z = z ∨ aZ z = -z) := by unfold aZ; split <;> omega
theorem aZ_i {z : Int} (h : rg z) : (if 0 ≤ iI z then iI z else 0 - iI z) = iI (aZ z) := by
  have e : (0 ≤ iI z) ↔ 0 ≤ z := by rw [iI_0, iI_le ⟨by decide, by decide⟩ h]
  unfold aZ
  by_cases h0 : 0 ≤ z
  · rw [if_pos (e.mpr h0), if_neg (by omega)]
  · rw [if_neg (fun q => h0 (e.mp q)), if_pos (by omega), iI_0, iI_sub, Int.zero_sub]
theorem mx_i {a b : Int} (ha : rg a) (hb : rg b) : (if iI a < iI b then iI b else iI a) = iI (max a b) := by
  by_cases h : a < b
  · rw [if_pos ((iI_lt ha hb).mpr h), show max a b = b by omega]
  · rw [if_neg (fun q => h ((iI_lt ha hb).mp q)), show max a b = a by omega]
theorem mn_i {a b : Int} (ha : rg a) (hb : rg b) : (if iI b < iI a then iI b else iI a) = iI (min a b) := by
  by_cases h : b < a
  · rw [if_pos ((iI_lt hb ha).mpr h), show min a b = b by omega]
  · rw [if_neg (fun q => h ((iI_lt hb ha).mp q)), show min a b = a by omega]
end
section
section ZR
variable {p : Program} {l : Launch} {e : Env} {R : Room} {s : State} {m : MethodId} {args : Array Value} {below : List Frame} {meth : Method} {c : Code} {H : Heap} {locs : List Loc} {cells slots : Nat} {Q : State → Prop}
variable {cc : ByteArray} {pc : Nat} {ls : Array Slot} {rest : List Value} {D : va_G} {cl : List vw_C} {A : Nat → Prop} {tys : List (ClassId × FieldType)} {ws : va_W} {H0 : Heap}

theorem z_iadd (hx : p.tables.exec = Jvm.exec) (hb : c.code = cc) {a b : Int} (hdg : decode cc pc = .ok (.iadd, 1)) (k : W p l e R s m args below meth c H locs cells slots Q (F0 m (pc + 1) ls (.int (iI (a + b)) :: rest))) : W p l e R s m args below meth c H locs cells slots Q (F0 m pc ls (.int (iI b) :: .int (iI a) :: rest)) := lv_iadd hx hb hdg (by rw [iI_add]; exact k)
theorem z_isub (hx : p.tables.exec = Jvm.exec) (hb : c.code = cc) {a b : Int} (hdg : decode cc pc = .ok (.isub, 1)) (k : W p l e R s m args below meth c H locs cells slots Q (F0 m (pc + 1) ls (.int (iI (a - b)) :: rest))) : W p l e R s m args below meth c H locs cells slots Q (F0 m pc ls (.int (iI b) :: .int (iI a) :: rest)) := lv_isub hx hb hdg (by rw [iI_sub]; exact k)
theorem z_imul (hx : p.tables.exec = Jvm.exec) (hb : c.code = cc) {a b : Int} (hdg : decode cc pc = .ok (.imul, 1)) (k : W p l e R s m args below meth c H locs cells slots Q (F0 m (pc + 1) ls (.int (iI (a * b)) :: rest))) : W p l e R s m args below meth c H locs cells slots Q (F0 m pc ls (.int (iI b) :: .int (iI a) :: rest)) := lv_imul hx hb hdg (by rw [iI_mul]; exact k)
theorem z_ineg (hx : p.tables.exec = Jvm.exec) (hb : c.code = cc) {a : Int} (hdg : decode cc pc = .ok (.ineg, 1)) (k : W p l e R s m args below meth c H locs cells slots Q (F0 m (pc + 1) ls (.int (iI (-a)) :: rest))) : W p l e R s m args below meth c H locs cells slots Q (F0 m pc ls (.int (iI a) :: rest)) := lv_ineg hx hb hdg (by first | (rw [iI_neg]; exact k) | (rw [iI_0, iI_sub, Int.zero_sub]; exact k))
theorem z_idiv (hx : p.tables.exec = Jvm.exec) (hb : c.code = cc) {a b : Int} (hdg : decode cc pc = .ok (.idiv, 1)) (h : 0 ≤ a ∧ a ≤ 2147483647 ∧ 0 < b ∧ b ≤ 2147483647) (k : W p l e R s m args below meth c H locs cells slots Q (F0 m (pc + 1) ls (.int (iI (a / b)) :: rest))) : W p l e R s m args below meth c H locs cells slots Q (F0 m pc ls (.int (iI b) :: .int (iI a) :: rest)) := by
  obtain ⟨h1, h2, h3, h4⟩ := h
  refine lv_idiv hx hb hdg (fun q => ?_) (by rw [iI_div h1 h2 h3 h4]; exact k)
  rw [iI_0, iI_eq ⟨by omega, by omega⟩ ⟨by omega, by omega⟩] at q
  omega
theorem z_irem (hx : p.tables.exec = Jvm.exec) (hb : c.code = cc) {a b : Int} (hdg : decode cc pc = .ok (.irem, 1)) (h : 0 ≤ a ∧ a ≤ 2147483647 ∧ 0 < b ∧ b ≤ 2147483647) (k : W p l e R s m args below meth c H locs cells slots Q (F0 m (pc + 1) ls (.int (iI (a % b)) :: rest))) : W p l e R s m args below meth c H locs cells slots Q (F0 m pc ls (.int (iI b) :: .int (iI a) :: rest)) := by
  obtain ⟨h1, h2, h3, h4⟩ := h
  refine lv_irem hx hb hdg (fun q => ?_) (by rw [iI_div h1 h2 h3 h4, iI_mul, iI_sub, show a - a / b * b = a % b by rw [Int.emod_def, Int.mul_comm]]; exact k)
  rw [iI_0, iI_eq ⟨by omega, by omega⟩ ⟨by omega, by omega⟩] at q
  omega
theorem z_icmp_eq (hx : p.tables.exec = Jvm.exec) (hb : c.code = cc) {a b off : Int} {tgt : Nat} (hdg : decode cc pc = .ok (.if_icmp .eq off, 3)) (ht : (pc : Int) + off = (tgt : Int)) (h : -2147483648 ≤ a ∧ a ≤ 2147483647 ∧ -2147483648 ≤ b ∧ b ≤ 2147483647) (kt : a = b → W p l e R s m args below meth c H locs cells slots Q (F0 m tgt ls (rest))) (kf : a ≠ b → W p l e R s m args below meth c H locs cells slots Q (F0 m (pc + 3) ls (rest))) : W p l e R s m args below meth c H locs cells slots Q (F0 m pc ls (.int (iI b) :: .int (iI a) :: rest)) := by
  have ha2 : rg a := ⟨h.1, h.2.1⟩
  have hb2 : rg b := ⟨h.2.2.1, h.2.2.2⟩
  exact lv_icmp_eq hx hb hdg ht (fun q => kt ((iI_eq ha2 hb2).mp q)) (fun q => kf (fun z => q ((iI_eq ha2 hb2).mpr z)))
theorem z_if_eq (hx : p.tables.exec = Jvm.exec) (hb : c.code = cc) {a off : Int} {tgt : Nat} (hdg : decode cc pc = .ok (.ifCond .eq off, 3)) (ht : (pc : Int) + off = (tgt : Int)) (h : -2147483648 ≤ a ∧ a ≤ 2147483647) (kt : a = 0 → W p l e R s m args below meth c H locs cells slots Q (F0 m tgt ls (rest))) (kf : a ≠ 0 → W p l e R s m args below meth c H locs cells slots Q (F0 m (pc + 3) ls (rest))) : W p l e R s m args below meth c H locs cells slots Q (F0 m pc ls (.int (iI a) :: rest)) := by
  have ha2 : rg a := h
  have hb2 : rg 0 := ⟨by decide, by decide⟩
  have e := iI_eq ha2 hb2
  refine lv_if_eq hx hb hdg ht (fun q => kt ?_) (fun q => kf ?_)
  · rw [iI_0, e] at q; omega
  · rw [iI_0, e] at q; omega
theorem z_icmp_ne (hx : p.tables.exec = Jvm.exec) (hb : c.code = cc) {a b off : Int} {tgt : Nat} (hdg : decode cc pc = .ok (.if_icmp .ne off, 3)) (ht : (pc : Int) + off = (tgt : Int)) (h : -2147483648 ≤ a ∧ a ≤ 2147483647 ∧ -2147483648 ≤ b ∧ b ≤ 2147483647) (kt : a ≠ b → W p l e R s m args below meth c H locs cells slots Q (F0 m tgt ls (rest))) (kf : a = b → W p l e R s m args below meth c H locs cells slots Q (F0 m (pc + 3) ls (rest))) : W p l e R s m args below meth c H locs cells slots Q (F0 m pc ls (.int (iI b) :: .int (iI a) :: rest)) := by
  have ha2 : rg a := ⟨h.1, h.2.1⟩
  have hb2 : rg b := ⟨h.2.2.1, h.2.2.2⟩
  exact lv_icmp_ne hx hb hdg ht (fun q => kt (fun z => q ((iI_eq ha2 hb2).mpr z))) (fun q => kf ((iI_eq ha2 hb2).mp q))
theorem z_if_ne (hx : p.tables.exec = Jvm.exec) (hb : c.code = cc) {a off : Int} {tgt : Nat} (hdg : decode cc pc = .ok (.ifCond .ne off, 3)) (ht : (pc : Int) + off = (tgt : Int)) (h : -2147483648 ≤ a ∧ a ≤ 2147483647) (kt : a ≠ 0 → W p l e R s m args below meth c H locs cells slots Q (F0 m tgt ls (rest))) (kf : a = 0 → W p l e R s m args below meth c H locs cells slots Q (F0 m (pc + 3) ls (rest))) : W p l e R s m args below meth c H locs cells slots Q (F0 m pc ls (.int (iI a) :: rest)) := by
  have ha2 : rg a := h
  have hb2 : rg 0 := ⟨by decide, by decide⟩
  have e := iI_eq ha2 hb2
  refine lv_if_ne hx hb hdg ht (fun q => kt ?_) (fun q => kf ?_)
  · rw [iI_0, e] at q; omega
  · rw [iI_0, e] at q; omega
theorem z_icmp_lt (hx : p.tables.exec = Jvm.exec) (hb : c.code = cc) {a b off : Int} {tgt : Nat} (hdg : decode cc pc = .ok (.if_icmp .lt off, 3)) (ht : (pc : Int) + off = (tgt : Int)) (h : -2147483648 ≤ a ∧ a ≤ 2147483647 ∧ -2147483648 ≤ b ∧ b ≤ 2147483647) (kt : a < b → W p l e R s m args below meth c H locs cells slots Q (F0 m tgt ls (rest))) (kf : b ≤ a → W p l e R s m args below meth c H locs cells slots Q (F0 m (pc + 3) ls (rest))) : W p l e R s m args below meth c H locs cells slots Q (F0 m pc ls (.int (iI b) :: .int (iI a) :: rest)) := by
  have ha2 : rg a := ⟨h.1, h.2.1⟩
  have hb2 : rg b := ⟨h.2.2.1, h.2.2.2⟩
  exact lv_icmp_lt hx hb hdg ht (fun q => kt ((iI_lt ha2 hb2).mp q)) (fun q => kf (by have z : ¬ (a < b) := fun z => q ((iI_lt ha2 hb2).mpr z); omega))
theorem z_if_lt (hx : p.tables.exec = Jvm.exec) (hb : c.code = cc) {a off : Int} {tgt : Nat} (hdg : decode cc pc = .ok (.ifCond .lt off, 3)) (ht : (pc : Int) + off = (tgt : Int)) (h : -2147483648 ≤ a ∧ a ≤ 2147483647) (kt : a < 0 → W p l e R s m args below meth c H locs cells slots Q (F0 m tgt ls (rest))) (kf : 0 ≤ a → W p l e R s m args below meth c H locs cells slots Q (F0 m (pc + 3) ls (rest))) : W p l e R s m args below meth c H locs cells slots Q (F0 m pc ls (.int (iI a) :: rest)) := by
  have ha2 : rg a := h
  have hb2 : rg 0 := ⟨by decide, by decide⟩
  have e := iI_lt ha2 hb2
  refine lv_if_lt hx hb hdg ht (fun q => kt ?_) (fun q => kf ?_)
  · rw [iI_0, e] at q; omega
  · rw [iI_0, e] at q; omega
theorem z_icmp_ge (hx : p.tables.exec = Jvm.exec) (hb : c.code = cc) {a b off : Int} {tgt : Nat} (hdg : decode cc pc = .ok (.if_icmp .ge off, 3)) (ht : (pc : Int) + off = (tgt : Int)) (h : -2147483648 ≤ a ∧ a ≤ 2147483647 ∧ -2147483648 ≤ b ∧ b ≤ 2147483647) (kt : b ≤ a → W p l e R s m args below meth c H locs cells slots Q (F0 m tgt ls (rest))) (kf : a < b → W p l e R s m args below meth c H locs cells slots Q (F0 m (pc + 3) ls (rest))) : W p l e R s m args below meth c H locs cells slots Q (F0 m pc ls (.int (iI b) :: .int (iI a) :: rest)) := by
  have ha2 : rg a := ⟨h.1, h.2.1⟩
  have hb2 : rg b := ⟨h.2.2.1, h.2.2.2⟩
  exact lv_icmp_ge hx hb hdg ht (fun q => kt ((iI_le hb2 ha2).mp q)) (fun q => kf (by have z : ¬ (b ≤ a) := fun z => q ((iI_le hb2 ha2).mpr z); omega))
theorem z_if_ge (hx : p.tables.exec = Jvm.exec) (hb : c.code = cc) {a off : Int} {tgt : Nat} (hdg : decode cc pc = .ok (.ifCond .ge off, 3)) (ht : (pc : Int) + off = (tgt : Int)) (h : -2147483648 ≤ a ∧ a ≤ 2147483647) (kt : 0 ≤ a → W p l e R s m args below meth c H locs cells slots Q (F0 m tgt ls (rest))) (kf : a < 0 → W p l e R s m args below meth c H locs cells slots Q (F0 m (pc + 3) ls (rest))) : W p l e R s m args below meth c H locs cells slots Q (F0 m pc ls (.int (iI a) :: rest)) := by
  have ha2 : rg a := h
  have hb2 : rg 0 := ⟨by decide, by decide⟩
  have e := iI_le hb2 ha2
  refine lv_if_ge hx hb hdg ht (fun q => kt ?_) (fun q => kf ?_)
  · rw [iI_0, e] at q; omega
  · rw [iI_0, e] at q; omega
theorem z_icmp_gt (hx : p.tables.exec = Jvm.exec) (hb : c.code = cc) {a b off : Int} {tgt : Nat} (hdg : decode cc pc = .ok (.if_icmp .gt off, 3)) (ht : (pc : Int) + off = (tgt : Int)) (h : -2147483648 ≤ a ∧ a ≤ 2147483647 ∧ -2147483648 ≤ b ∧ b ≤ 2147483647) (kt : b < a → W p l e R s m args below meth c H locs cells slots Q (F0 m tgt ls (rest))) (kf : a ≤ b → W p l e R s m args below meth c H locs cells slots Q (F0 m (pc + 3) ls (rest))) : W p l e R s m args below meth c H locs cells slots Q (F0 m pc ls (.int (iI b) :: .int (iI a) :: rest)) := by
  have ha2 : rg a := ⟨h.1, h.2.1⟩
  have hb2 : rg b := ⟨h.2.2.1, h.2.2.2⟩
  exact lv_icmp_gt hx hb hdg ht (fun q => kt ((iI_lt hb2 ha2).mp q)) (fun q => kf (by have z : ¬ (b < a) := fun z => q ((iI_lt hb2 ha2).mpr z); omega))
theorem z_if_gt (hx : p.tables.exec = Jvm.exec) (hb : c.code = cc) {a off : Int} {tgt : Nat} (hdg : decode cc pc = .ok (.ifCond .gt off, 3)) (ht : (pc : Int) + off = (tgt : Int)) (h : -2147483648 ≤ a ∧ a ≤ 2147483647) (kt : 0 < a → W p l e R s m args below meth c H locs cells slots Q (F0 m tgt ls (rest))) (kf : a ≤ 0 → W p l e R s m args below meth c H locs cells slots Q (F0 m (pc + 3) ls (rest))) : W p l e R s m args below meth c H locs cells slots Q (F0 m pc ls (.int (iI a) :: rest)) := by
  have ha2 : rg a := h
  have hb2 : rg 0 := ⟨by decide, by decide⟩
  have e := iI_lt hb2 ha2
  refine lv_if_gt hx hb hdg ht (fun q => kt ?_) (fun q => kf ?_)
  · rw [iI_0, e] at q; omega
  · rw [iI_0, e] at q; omega
theorem z_icmp_le (hx : p.tables.exec = Jvm.exec) (hb : c.code = cc) {a b off : Int} {tgt : Nat} (hdg : decode cc pc = .ok (.if_icmp .le off, 3)) (ht : (pc : Int) + off = (tgt : Int)) (h : -2147483648 ≤ a ∧ a ≤ 2147483647 ∧ -2147483648 ≤ b ∧ b ≤ 2147483647) (kt : a ≤ b → W p l e R s m args below meth c H locs cells slots Q (F0 m tgt ls (rest))) (kf : b < a → W p l e R s m args below meth c H locs cells slots Q (F0 m (pc + 3) ls (rest))) : W p l e R s m args below meth c H locs cells slots Q (F0 m pc ls (.int (iI b) :: .int (iI a) :: rest)) := by
  have ha2 : rg a := ⟨h.1, h.2.1⟩
  have hb2 : rg b := ⟨h.2.2.1, h.2.2.2⟩
  exact lv_icmp_le hx hb hdg ht (fun q => kt ((iI_le ha2 hb2).mp q)) (fun q => kf (by have z : ¬ (a ≤ b) := fun z => q ((iI_le ha2 hb2).mpr z); omega))
theorem z_if_le (hx : p.tables.exec = Jvm.exec) (hb : c.code = cc) {a off : Int} {tgt : Nat} (hdg : decode cc pc = .ok (.ifCond .le off, 3)) (ht : (pc : Int) + off = (tgt : Int)) (h : -2147483648 ≤ a ∧ a ≤ 2147483647) (kt : a ≤ 0 → W p l e R s m args below meth c H locs cells slots Q (F0 m tgt ls (rest))) (kf : 0 < a → W p l e R s m args below meth c H locs cells slots Q (F0 m (pc + 3) ls (rest))) : W p l e R s m args below meth c H locs cells slots Q (F0 m pc ls (.int (iI a) :: rest)) := by
  have ha2 : rg a := h
  have hb2 : rg 0 := ⟨by decide, by decide⟩
  have e := iI_le ha2 hb2
  refine lv_if_le hx hb hdg ht (fun q => kt ?_) (fun q => kf ?_)
  · rw [iI_0, e] at q; omega
  · rw [iI_0, e] at q; omega
theorem z_ifb_eq (hx : p.tables.exec = Jvm.exec) (hb : c.code = cc) {b : Bool} {off : Int} {tgt : Nat} (hdg : decode cc pc = .ok (.ifCond .eq off, 3)) (ht : (pc : Int) + off = (tgt : Int)) (kt : b = false → W p l e R s m args below meth c H locs cells slots Q (F0 m tgt ls (rest))) (kf : b = true → W p l e R s m args below meth c H locs cells slots Q (F0 m (pc + 3) ls (rest))) : W p l e R s m args below meth c H locs cells slots Q (F0 m pc ls (.int (iI (bZ b)) :: rest)) := lv_if_eq hx hb hdg ht (fun q => kt (bZ_0.mp q)) (fun q => kf (by cases b; exact absurd (bZ_0.mpr rfl) q; rfl))
theorem z_ifb_ne (hx : p.tables.exec = Jvm.exec) (hb : c.code = cc) {b : Bool} {off : Int} {tgt : Nat} (hdg : decode cc pc = .ok (.ifCond .ne off, 3)) (ht : (pc : Int) + off = (tgt : Int)) (kt : b = true → W p l e R s m args below meth c H locs cells slots Q (F0 m tgt ls (rest))) (kf : b = false → W p l e R s m args below meth c H locs cells slots Q (F0 m (pc + 3) ls (rest))) : W p l e R s m args below meth c H locs cells slots Q (F0 m pc ls (.int (iI (bZ b)) :: rest)) := lv_if_ne hx hb hdg ht (fun q => kt (by cases b; exact absurd (bZ_0.mpr rfl) q; rfl)) (fun q => kf (bZ_0.mp q))

theorem z_ldc (hx : p.tables.exec = Jvm.exec) (hb : c.code = cc) {own : String} {index : Nat} {v : Int32} {n : Int} (hown : s.vm.findClass own = some m.cls) (hc : (Jvm.Cond.constant own index v).before args s = true) (hv : v = iI n) (hdg : decode cc pc = .ok (.ldc index, 2)) (k : W p l e R s m args below meth c H locs cells slots Q (F0 m (pc + 2) ls (.int (iI n) :: rest))) : W p l e R s m args below meth c H locs cells slots Q (F0 m pc ls (rest)) := lv_ldc hx hb hown hc hdg (by rw [hv]; exact k)
theorem z_ldcw (hx : p.tables.exec = Jvm.exec) (hb : c.code = cc) {own : String} {index : Nat} {v : Int32} {n : Int} (hown : s.vm.findClass own = some m.cls) (hc : (Jvm.Cond.constant own index v).before args s = true) (hv : v = iI n) (hdg : decode cc pc = .ok (.ldc_w index, 3)) (k : W p l e R s m args below meth c H locs cells slots Q (F0 m (pc + 3) ls (.int (iI n) :: rest))) : W p l e R s m args below meth c H locs cells slots Q (F0 m pc ls (rest)) := lv_ldcw hx hb hown hc hdg (by rw [hv]; exact k)
theorem z_ldc2 (hx : p.tables.exec = Jvm.exec) (hb : c.code = cc) {own : String} {index : Nat} {v : Int64} {n : Int} (hown : s.vm.findClass own = some m.cls) (hc : (Jvm.Cond.constantLong own index v).before args s = true) (hv : v = lI n) (hdg : decode cc pc = .ok (.ldc2_w index, 3)) (k : W p l e R s m args below meth c H locs cells slots Q (F0 m (pc + 3) ls (.long (lI n) :: rest))) : W p l e R s m args below meth c H locs cells slots Q (F0 m pc ls (rest)) := lv_ldc2 hx hb hown hc hdg (by rw [hv]; exact k)
theorem z_i2l (hx : p.tables.exec = Jvm.exec) (hb : c.code = cc) {a : Int} (hdg : decode cc pc = .ok (.i2l, 1)) (h : -2147483648 ≤ a ∧ a ≤ 2147483647) (k : W p l e R s m args below meth c H locs cells slots Q (F0 m (pc + 1) ls (.long (lI a) :: rest))) : W p l e R s m args below meth c H locs cells slots Q (F0 m pc ls (.int (iI a) :: rest)) := lv_i2l hx hb hdg (iI_l h) k
theorem z_iald (hx : p.tables.exec = Jvm.exec) (hb : c.code = cc) (hK : va_K D cl tys s) (hP : va_P D cl ws H) (q0 t0 : Nat) {cA : ClassId} {n a : Nat} {f : Int → Int} (ha : ws[q0]? = some (a, .inl (cA, n, .inl (aF f)))) (ht : tys[t0]? = some (cA, .int)) {i : Int} (hi : 0 ≤ i ∧ i < n ∧ i ≤ 2147483647) (hdg : decode cc pc = .ok (.iaload, 1)) (k : W p l e R s m args below meth c H locs cells slots Q (F0 m (pc + 1) ls (.int (iI (f i)) :: rest))) : W p l e R s m args below meth c H locs cells slots Q (F0 m pc ls (.int (iI i) :: .ref a :: rest)) := va_iald hx hb hK hP q0 t0 ha ht (iI_in hi.1 hi.2.1 hi.2.2) hdg (by rw [aF_at f hi.1 hi.2.2]; exact k)
theorem z_iast (hx : p.tables.exec = Jvm.exec) (hb : c.code = cc) (hK : va_K D cl tys s) (hP : va_P D cl ws H) (hD : va_D A ws) (hS : va_S A H0 H locs) (q0 t0 : Nat) {cA : ClassId} {n a : Nat} {f : Int → Int} (ha : ws[q0]? = some (a, .inl (cA, n, .inl (aF f)))) (ht : tys[t0]? = some (cA, .int)) {i v : Int} (hi : 0 ≤ i ∧ i < n ∧ i ≤ 2147483647) (hdg : decode cc pc = .ok (.iastore, 1)) (kk : ∀ (H1 : Heap) (locs1 : List Loc), va_P D cl (ws.set q0 (a, .inl (cA, n, .inl (aF (uZ f i v))))) H1 → va_D A (ws.set q0 (a, .inl (cA, n, .inl (aF (uZ f i v))))) → va_S A H0 H1 locs1 → W p l e R s m args below meth c H1 locs1 cells slots Q (F0 m (pc + 1) ls (rest))) : W p l e R s m args below meth c H locs cells slots Q (F0 m pc ls (.int (iI v) :: .int (iI i) :: .ref a :: rest)) := by
  refine va_iast hx hb hK hP hD hS q0 t0 ha ht (iI_in hi.1 hi.2.1 hi.2.2) hdg ?_
  rw [aF_upd f hi.1 hi.2.2]
  exact kk
theorem z_abs (hx : p.tables.exec = Jvm.exec) (hb : c.code = cc) (hml : c.maxLocals = ls.size) {own : String} {index : Nat} (hown : s.vm.findClass own = some m.cls) (hlink : (Cond.methodLink own index Lib.Math.abs.name).before args s = true) (hstat : (Cond.static Lib.Math.abs.name).before args s = true) (hini : (Cond.initialized "java/lang/Math").before args s = true) (hcode : (Cond.code Lib.Math.abs.name Lib.Math.abs.code 1 (some .int)).before args s = true) (hframes : 1 ≤ R.frames) (hlocals : (rest.map fun v => v.category).sum + 13 ≤ R.locals) (hc : cells ≤ R.cells) (hs : slots ≤ R.slots) {a : Int} (h : -2147483648 ≤ a ∧ a ≤ 2147483647) (hdg : decode cc pc = .ok (.invokestatic index, 3)) (kk : W p l e R s m args below meth c H locs cells slots Q (F0 m (pc + 3) ls (.int (iI (aZ a)) :: rest))) : W p l e R s m args below meth c H locs cells slots Q (F0 m pc ls (.int (iI a) :: rest)) := va_mabs hx hb hml hown hlink hstat hini hcode hframes hlocals hc hs hdg (by rw [aZ_i h]; exact kk)
theorem z_max (hx : p.tables.exec = Jvm.exec) (hb : c.code = cc) (hml : c.maxLocals = ls.size) {own : String} {index : Nat} (hown : s.vm.findClass own = some m.cls) (hlink : (Cond.methodLink own index Lib.Math.max.name).before args s = true) (hstat : (Cond.static Lib.Math.max.name).before args s = true) (hini : (Cond.initialized "java/lang/Math").before args s = true) (hcode : (Cond.code Lib.Math.max.name Lib.Math.max.code 2 (some .int)).before args s = true) (hframes : 1 ≤ R.frames) (hlocals : (rest.map fun v => v.category).sum + 13 ≤ R.locals) (hc : cells ≤ R.cells) (hs : slots ≤ R.slots) {a b : Int} (h : -2147483648 ≤ a ∧ a ≤ 2147483647 ∧ -2147483648 ≤ b ∧ b ≤ 2147483647) (hdg : decode cc pc = .ok (.invokestatic index, 3)) (kk : W p l e R s m args below meth c H locs cells slots Q (F0 m (pc + 3) ls (.int (iI (max a b)) :: rest))) : W p l e R s m args below meth c H locs cells slots Q (F0 m pc ls (.int (iI b) :: .int (iI a) :: rest)) := va_mmax hx hb hml hown hlink hstat hini hcode hframes hlocals hc hs hdg (by rw [mx_i ⟨h.1, h.2.1⟩ ⟨h.2.2.1, h.2.2.2⟩]; exact kk)
theorem z_min (hx : p.tables.exec = Jvm.exec) (hb : c.code = cc) (hml : c.maxLocals = ls.size) {own : String} {index : Nat} (hown : s.vm.findClass own = some m.cls) (hlink : (Cond.methodLink own index Lib.Math.min.name).before args s = true) (hstat : (Cond.static Lib.Math.min.name).before args s = true) (hini : (Cond.initialized "java/lang/Math").before args s = true) (hcode : (Cond.code Lib.Math.min.name Lib.Math.min.code 2 (some .int)).before args s = true) (hframes : 1 ≤ R.frames) (hlocals : (rest.map fun v => v.category).sum + 13 ≤ R.locals) (hc : cells ≤ R.cells) (hs : slots ≤ R.slots) {a b : Int} (h : -2147483648 ≤ a ∧ a ≤ 2147483647 ∧ -2147483648 ≤ b ∧ b ≤ 2147483647) (hdg : decode cc pc = .ok (.invokestatic index, 3)) (kk : W p l e R s m args below meth c H locs cells slots Q (F0 m (pc + 3) ls (.int (iI (min a b)) :: rest))) : W p l e R s m args below meth c H locs cells slots Q (F0 m pc ls (.int (iI b) :: .int (iI a) :: rest)) := va_mmin hx hb hml hown hlink hstat hini hcode hframes hlocals hc hs hdg (by rw [mn_i ⟨h.1, h.2.1⟩ ⟨h.2.2.1, h.2.2.2⟩]; exact kk)
end ZR

/-! contracts: a method over one world, whose cells stay where they are -/
def zP (D : va_G) (cy : ClassId) (w0 : va_W) (sz : Nat) (av : List Value) : Array Value → State → Prop := va_Pc av (fun U => U.heap.size = sz ∧ va_P D vwCl w0 U.heap ∧ va_K D vwCl [(cy, .int)] U ∧ va_D (fun _ => True) w0)
def zB (D : va_G) (cy : ClassId) (w1 : va_W) (A : Nat → Prop) (_ : Unit) (t : State) : Prop := va_P D vwCl w1 t.heap ∧ va_K D vwCl [(cy, .int)] t ∧ va_D A w1
def zQi (D : va_G) (cy : ClassId) (w1 : va_W) (A : Nat → Prop) (r : Int) : Array Value → State → Outcome → State → Prop := va_Qi (fun (x : Int32) (_ : Unit) => x = iI r) (zB D cy w1 A) A
def zQv (D : va_G) (cy : ClassId) (w1 : va_W) (A : Nat → Prop) : Array Value → State → Outcome → State → Prop := va_Qv (fun (_ : Unit) => True) (zB D cy w1 A) A
def MI (l : Launch) (D : va_G) (cy : ClassId) (y : MethodName) (ws : List Cond) (rm : Room) (av : List Value) (w0 : va_W) (r : Int) (w1 : va_W) : Prop := ∀ sz : Nat, Met l y ws rm (zP D cy w0 sz av) (zQi D cy w1 (va_A w0 sz) r) 0 0 (va_A w0 sz)
def MV (l : Launch) (D : va_G) (cy : ClassId) (y : MethodName) (ws : List Cond) (rm : Room) (av : List Value) (w0 : va_W) (w1 : va_W) : Prop := ∀ sz : Nat, Met l y ws rm (zP D cy w0 sz av) (zQv D cy w1 (va_A w0 sz)) 0 0 (va_A w0 sz)
theorem zP_blind {D : va_G} {cy : ClassId} {w0 : va_W} {sz : Nat} {av : List Value} : FrameBlind (zP D cy w0 sz av) := fun a U g mk q => by
  obtain ⟨q0, q1, qP, qK, qD⟩ := q
  exact ⟨q0, q1, qP, va_K.moved (u := U) (U := U.calling g mk a) (Vm.Alike.refl U.vm) qK, qD⟩
/-- what a method's walk stands on -/
def Cx (p : Program) (s : State) (m : MethodId) (meth : Method) (c : Code) (cc : ByteArray) (nL : Nat) (ret : Option FieldType) (ws : List Cond) (own : String) (args : Array Value) : Prop :=
  p.tables.exec = Jvm.exec ∧ c.code = cc ∧ c.maxLocals = nL ∧ meth.sig.returnType = ret ∧ (∀ w ∈ ws, w.before args s = true) ∧ s.vm.findClass own = some m.cls ∧ meth.locks = false
section ZC
variable {l : Launch} {D : va_G} {cy : ClassId} {y : MethodName} {ws ws' : List Cond} {rm : Room} {av : List Value} {w0 w1 : va_W} {r : Int} {cc : ByteArray} {maxL : Nat} {ret : Option FieldType}
theorem MI.ofW (hy : plainName y.cls = true) (hw : ws = Cond.code y cc maxL ret :: ws') (hav : (lg_sl av).length ≤ maxL)
    (body : ∀ (p : Program) (e : Env) (s : State) (m : MethodId) (below : List Frame) (meth : Method) (c : Code) (A : Nat → Prop) (ls : Array Slot), Cx p s m meth c cc maxL ret ws y.cls av.toArray → va_K D vwCl [(cy, .int)] s → va_P D vwCl w0 s.heap → va_D A w0 → (∀ q, s.heap.size ≤ q → A q) → va_S A s.heap s.heap [] → lv_has ls maxL (lv_args 0 av) → W p l e rm s m av.toArray below meth c s.heap [] 0 0 (MQ below (zQi D cy w1 A r) av.toArray s 0 0 A) (F0 m 0 ls [])) : MI l D cy y ws rm av w0 r w1 := by
  intro sz
  refine Met.ofW hy hw ?_
  intro p e s m args below meth c s₁ B hml hv
  obtain ⟨rfl, hsz, hP, hK, hD0⟩ := hv
  subst hsz
  rw [lg_entry_eq]
  exact body p e s m below meth c (va_A w0 s.heap.size) _ ⟨B.exec, B.bytes, hml, B.returns, atoms_spec (ws := ws) B.pre, findClass_of_methodNamed B.named, B.notSynchronized⟩ hK hP (hD0.self) (fun q h => Or.inr h) va_S.rf (lv_entry av hav)
theorem MV.ofW (hy : plainName y.cls = true) (hw : ws = Cond.code y cc maxL ret :: ws') (hav : (lg_sl av).length ≤ maxL)
    (body : ∀ (p : Program) (e : Env) (s : State) (m : MethodId) (below : List Frame) (meth : Method) (c : Code) (A : Nat → Prop) (ls : Array Slot), Cx p s m meth c cc maxL ret ws y.cls av.toArray → va_K D vwCl [(cy, .int)] s → va_P D vwCl w0 s.heap → va_D A w0 → (∀ q, s.heap.size ≤ q → A q) → va_S A s.heap s.heap [] → lv_has ls maxL (lv_args 0 av) → W p l e rm s m av.toArray below meth c s.heap [] 0 0 (MQ below (zQv D cy w1 A) av.toArray s 0 0 A) (F0 m 0 ls [])) : MV l D cy y ws rm av w0 w1 := by
  intro sz
  refine Met.ofW hy hw ?_
  intro p e s m args below meth c s₁ B hml hv
  obtain ⟨rfl, hsz, hP, hK, hD0⟩ := hv
  subst hsz
  rw [lg_entry_eq]
  exact body p e s m below meth c (va_A w0 s.heap.size) _ ⟨B.exec, B.bytes, hml, B.returns, atoms_spec (ws := ws) B.pre, findClass_of_methodNamed B.named, B.notSynchronized⟩ hK hP (hD0.self) (fun q h => Or.inr h) va_S.rf (lv_entry av hav)
end ZC
section ZD
variable {p : Program} {l : Launch} {e : Env} {R : Room} {s : State} {m : MethodId} {args : Array Value} {below : List Frame} {meth : Method} {c : Code} {H : Heap} {locs : List Loc} {cells slots : Nat} {Q : State → Prop}
variable {cc : ByteArray} {pc nL : Nat} {ls : Array Slot} {D : va_G} {cy : ClassId} {A : Nat → Prop} {H0 : Heap} {rt : Option FieldType} {Ts : List Cond} {own : String}
theorem z_iret {w1 : va_W} {r v : Int} (X : Cx p s m meth c cc nL (some .int) Ts own args) (hK : va_K D vwCl [(cy, .int)] s) (hP : va_P D vwCl w1 H) (hD : va_D A w1) (hS : va_S A s.heap H locs) (hdg : decode cc pc = .ok (.ireturn, 1)) (hv : v = r) : W p l e R s m args below meth c H locs 0 0 (MQ below (zQi D cy w1 A r) args s 0 0 A) (F0 m pc ls [.int (iI v)]) := by
  obtain ⟨hx, hb, hml, hr, hts, hown, hlocks⟩ := X
  subst hv
  exact W.iret hx hb hr (fun t ht hW => ⟨⟨iI v, (), rfl, rfl, by rw [ht]; exact hP, va_K.moved hW.alike hK, hD⟩, hS.F ht⟩) hS.2.2 hdg
theorem z_zret {w1 : va_W} {r : Int} {b : Bool} (X : Cx p s m meth c cc nL (some .boolean) Ts own args) (hK : va_K D vwCl [(cy, .int)] s) (hP : va_P D vwCl w1 H) (hD : va_D A w1) (hS : va_S A s.heap H locs) (hdg : decode cc pc = .ok (.ireturn, 1)) (hv : bZ b = r) : W p l e R s m args below meth c H locs 0 0 (MQ below (zQi D cy w1 A r) args s 0 0 A) (F0 m pc ls [.int (iI (bZ b))]) := by
  obtain ⟨hx, hb, hml, hr, hts, hown, hlocks⟩ := X
  subst hv
  exact W.zret hx hb hr (by cases b <;> decide) (fun t ht hW => ⟨⟨iI (bZ b), (), rfl, rfl, by rw [ht]; exact hP, va_K.moved hW.alike hK, hD⟩, hS.F ht⟩) hS.2.2 hdg
theorem z_vret {w1 : va_W} (X : Cx p s m meth c cc nL none Ts own args) (hK : va_K D vwCl [(cy, .int)] s) (hP : va_P D vwCl w1 H) (hD : va_D A w1) (hS : va_S A s.heap H locs) (hdg : decode cc pc = .ok (.return_, 1)) : W p l e R s m args below meth c H locs 0 0 (MQ below (zQv D cy w1 A) args s 0 0 A) (F0 m pc ls []) := by
  obtain ⟨hx, hb, hml, hr, hts, hown, hlocks⟩ := X
  exact W.vret hx hb hr (fun t ht hW => ⟨⟨(), rfl, trivial, by rw [ht]; exact hP, va_K.moved hW.alike hK, hD⟩, hS.F ht⟩) hS.2.2 hdg

theorem z_callVi {y : MethodName} {bytes : ByteArray} {maxL n index : Nat} {ret : Option FieldType} {ws ws' : List Cond} {rm : Room} {As rest : List Value} {w0 w1 : va_W} {r : Int}  {b ci q0 : Nat} {C : String} {fs : List Value} {T : u_T} {N : Nat} (X : Cx p s m meth c cc nL rt Ts own args) (hK : va_K D vwCl [(cy, .int)] s) (hP : va_P D vwCl w0 H) (hD : va_D A w0) (hA : ∀ q, s.heap.size ≤ q → A q) (hS : va_S A s.heap H locs) (hls : ls.size = nL) (hG : GoodIn Ts (wsV own index C y ws)) (hw : ws = Cond.code y bytes maxL ret :: ws') (hrm : rm.cells = 0 ∧ rm.slots = 0) (hd : y.cls = C ∧ y.cls ≠ "java/lang/invoke/MethodHandle" ∧ y.cls ≠ "java/lang/invoke/VarHandle" ∧ (parseMethodDescriptor y.desc).map (fun d => d.parameters.length) = some n) (hR : rm.frames + 1 ≤ R.frames ∧ 8 + (maxL + 11) + rm.locals ≤ R.locals) (hc : vwCl[ci]? = some (C, T, N)) (he : w0[q0]? = some (b, .inr (ci, fs))) (hn : As.length = n) (hroom : (rest.map fun v => v.category).sum ≤ 8) (hcl : cells ≤ R.cells ∧ slots ≤ R.slots) {st : List Value} (hst : st = As.reverse ++ .ref b :: rest) (hdg : decode cc pc = .ok (.invokevirtual index, 3)) (hM : MI l D cy y ws rm (.ref b :: As) w0 r w1)
    (kk : ∀ (H1 : Heap) (locs1 : List Loc), va_P D vwCl w1 H1 → va_D A w1 → va_S A s.heap H1 locs1 → W p l e R s m args below meth c H1 locs1 cells slots Q (F0 m (pc + 3) ls (.int (iI r) :: rest))) : W p l e R s m args below meth c H locs cells slots Q (F0 m pc ls st) := by
  obtain ⟨hx, hb, hml, hr, hts, hown, hlocks⟩ := X
  subst hst
  have hFc : ∀ q, va_A w0 H.size q → A q := by
    intro q h
    rcases h with ⟨k, e, h⟩ | h
    · exact hD.2 k (q, e) h
    · exact hA q (Nat.le_trans hS.1 h)
  refine va_calli (va_runV (As := As) (rest := rest) ⟨hx, hb, hml, hown, hts⟩ (hM H.size) (cwV n hts hG hw hrm.1 hrm.2 hd hR) ⟨zP_blind, va_recv (q0 := q0) hK hP hc he, fun U hU hW => ⟨rfl, by rw [hU], by rw [hU]; exact hP, va_K.moved hW.alike hK, hD.weaken (fun _ _ _ _ => trivial)⟩⟩ rfl hn hls rfl (lv_room hroom) hdg hcl) hS (fun q _ h => hFc q h) hFc ?_
  intro x9 u t H1 locs1 ht hvm hw9 hB hz1 hk1 hS1
  obtain ⟨hP1, hK1, hD1⟩ := hB
  rw [ht] at hP1
  have hw9 : x9 = iI r := hw9
  subst hw9
  exact kk H1 locs1 hP1 (hD1.weaken (fun k q _ h => hFc q.1 h)) hS1

theorem z_callSi {y : MethodName} {bytes : ByteArray} {maxL n index : Nat} {ret : Option FieldType} {ws ws' : List Cond} {rm : Room} {As rest : List Value} {w0 w1 : va_W} {r : Int}  (X : Cx p s m meth c cc nL rt Ts own args) (hK : va_K D vwCl [(cy, .int)] s) (hP : va_P D vwCl w0 H) (hD : va_D A w0) (hA : ∀ q, s.heap.size ≤ q → A q) (hS : va_S A s.heap H locs) (hls : ls.size = nL) (hG : GoodIn Ts (va_wsS own index y ws)) (hw : ws = Cond.code y bytes maxL ret :: ws') (hrm : rm.cells = 0 ∧ rm.slots = 0) (hd : y.cls ≠ "java/lang/invoke/MethodHandle" ∧ y.cls ≠ "java/lang/invoke/VarHandle" ∧ (parseMethodDescriptor y.desc).map (fun d => d.parameters.length) = some n) (hR : rm.frames + 1 ≤ R.frames ∧ 8 + (maxL + 11) + rm.locals ≤ R.locals) (hn : As.length = n) (hroom : (rest.map fun v => v.category).sum ≤ 8) (hcl : cells ≤ R.cells ∧ slots ≤ R.slots) {st : List Value} (hst : st = As.reverse ++ rest) (hdg : decode cc pc = .ok (.invokestatic index, 3)) (hM : MI l D cy y ws rm As w0 r w1)
    (kk : ∀ (H1 : Heap) (locs1 : List Loc), va_P D vwCl w1 H1 → va_D A w1 → va_S A s.heap H1 locs1 → W p l e R s m args below meth c H1 locs1 cells slots Q (F0 m (pc + 3) ls (.int (iI r) :: rest))) : W p l e R s m args below meth c H locs cells slots Q (F0 m pc ls st) := by
  obtain ⟨hx, hb, hml, hr, hts, hown, hlocks⟩ := X
  subst hst
  have hFc : ∀ q, va_A w0 H.size q → A q := by
    intro q h
    rcases h with ⟨k, e, h⟩ | h
    · exact hD.2 k (q, e) h
    · exact hA q (Nat.le_trans hS.1 h)
  refine va_calli (va_runS (As := As) (rest := rest) ⟨hx, hb, hml, hown, hts⟩ (hM H.size) (va_cwS n hts hG hw hrm.1 hrm.2 hd hR) ⟨zP_blind, fun U hU hW => ⟨rfl, by rw [hU], by rw [hU]; exact hP, va_K.moved hW.alike hK, hD.weaken (fun _ _ _ _ => trivial)⟩⟩ rfl hn hls rfl (lv_room hroom) hdg hcl) hS (fun q _ h => hFc q h) hFc ?_
  intro x9 u t H1 locs1 ht hvm hw9 hB hz1 hk1 hS1
  obtain ⟨hP1, hK1, hD1⟩ := hB
  rw [ht] at hP1
  have hw9 : x9 = iI r := hw9
  subst hw9
  exact kk H1 locs1 hP1 (hD1.weaken (fun k q _ h => hFc q.1 h)) hS1

theorem z_callVv {y : MethodName} {bytes : ByteArray} {maxL n index : Nat} {ret : Option FieldType} {ws ws' : List Cond} {rm : Room} {As rest : List Value} {w0 w1 : va_W}  {b ci q0 : Nat} {C : String} {fs : List Value} {T : u_T} {N : Nat} (X : Cx p s m meth c cc nL rt Ts own args) (hK : va_K D vwCl [(cy, .int)] s) (hP : va_P D vwCl w0 H) (hD : va_D A w0) (hA : ∀ q, s.heap.size ≤ q → A q) (hS : va_S A s.heap H locs) (hls : ls.size = nL) (hG : GoodIn Ts (wsV own index C y ws)) (hw : ws = Cond.code y bytes maxL ret :: ws') (hrm : rm.cells = 0 ∧ rm.slots = 0) (hd : y.cls = C ∧ y.cls ≠ "java/lang/invoke/MethodHandle" ∧ y.cls ≠ "java/lang/invoke/VarHandle" ∧ (parseMethodDescriptor y.desc).map (fun d => d.parameters.length) = some n) (hR : rm.frames + 1 ≤ R.frames ∧ 8 + (maxL + 11) + rm.locals ≤ R.locals) (hc : vwCl[ci]? = some (C, T, N)) (he : w0[q0]? = some (b, .inr (ci, fs))) (hn : As.length = n) (hroom : (rest.map fun v => v.category).sum ≤ 8) (hcl : cells ≤ R.cells ∧ slots ≤ R.slots) {st : List Value} (hst : st = As.reverse ++ .ref b :: rest) (hdg : decode cc pc = .ok (.invokevirtual index, 3)) (hM : MV l D cy y ws rm (.ref b :: As) w0 w1)
    (kk : ∀ (H1 : Heap) (locs1 : List Loc), va_P D vwCl w1 H1 → va_D A w1 → va_S A s.heap H1 locs1 → W p l e R s m args below meth c H1 locs1 cells slots Q (F0 m (pc + 3) ls (rest))) : W p l e R s m args below meth c H locs cells slots Q (F0 m pc ls st) := by
  obtain ⟨hx, hb, hml, hr, hts, hown, hlocks⟩ := X
  subst hst
  have hFc : ∀ q, va_A w0 H.size q → A q := by
    intro q h
    rcases h with ⟨k, e, h⟩ | h
    · exact hD.2 k (q, e) h
    · exact hA q (Nat.le_trans hS.1 h)
  refine va_callv (va_runV (As := As) (rest := rest) ⟨hx, hb, hml, hown, hts⟩ (hM H.size) (cwV n hts hG hw hrm.1 hrm.2 hd hR) ⟨zP_blind, va_recv (q0 := q0) hK hP hc he, fun U hU hW => ⟨rfl, by rw [hU], by rw [hU]; exact hP, va_K.moved hW.alike hK, hD.weaken (fun _ _ _ _ => trivial)⟩⟩ rfl hn hls rfl (lv_room hroom) hdg hcl) hS (fun q _ h => hFc q h) hFc ?_
  intro u t H1 locs1 ht hvm hw9 hB hz1 hk1 hS1
  obtain ⟨hP1, hK1, hD1⟩ := hB
  rw [ht] at hP1
  skip
  skip
  exact kk H1 locs1 hP1 (hD1.weaken (fun k q _ h => hFc q.1 h)) hS1

theorem z_callSv {y : MethodName} {bytes : ByteArray} {maxL n index : Nat} {ret : Option FieldType} {ws ws' : List Cond} {rm : Room} {As rest : List Value} {w0 w1 : va_W}  (X : Cx p s m meth c cc nL rt Ts own args) (hK : va_K D vwCl [(cy, .int)] s) (hP : va_P D vwCl w0 H) (hD : va_D A w0) (hA : ∀ q, s.heap.size ≤ q → A q) (hS : va_S A s.heap H locs) (hls : ls.size = nL) (hG : GoodIn Ts (va_wsS own index y ws)) (hw : ws = Cond.code y bytes maxL ret :: ws') (hrm : rm.cells = 0 ∧ rm.slots = 0) (hd : y.cls ≠ "java/lang/invoke/MethodHandle" ∧ y.cls ≠ "java/lang/invoke/VarHandle" ∧ (parseMethodDescriptor y.desc).map (fun d => d.parameters.length) = some n) (hR : rm.frames + 1 ≤ R.frames ∧ 8 + (maxL + 11) + rm.locals ≤ R.locals) (hn : As.length = n) (hroom : (rest.map fun v => v.category).sum ≤ 8) (hcl : cells ≤ R.cells ∧ slots ≤ R.slots) {st : List Value} (hst : st = As.reverse ++ rest) (hdg : decode cc pc = .ok (.invokestatic index, 3)) (hM : MV l D cy y ws rm As w0 w1)
    (kk : ∀ (H1 : Heap) (locs1 : List Loc), va_P D vwCl w1 H1 → va_D A w1 → va_S A s.heap H1 locs1 → W p l e R s m args below meth c H1 locs1 cells slots Q (F0 m (pc + 3) ls (rest))) : W p l e R s m args below meth c H locs cells slots Q (F0 m pc ls st) := by
  obtain ⟨hx, hb, hml, hr, hts, hown, hlocks⟩ := X
  subst hst
  have hFc : ∀ q, va_A w0 H.size q → A q := by
    intro q h
    rcases h with ⟨k, e, h⟩ | h
    · exact hD.2 k (q, e) h
    · exact hA q (Nat.le_trans hS.1 h)
  refine va_callv (va_runS (As := As) (rest := rest) ⟨hx, hb, hml, hown, hts⟩ (hM H.size) (va_cwS n hts hG hw hrm.1 hrm.2 hd hR) ⟨zP_blind, fun U hU hW => ⟨rfl, by rw [hU], by rw [hU]; exact hP, va_K.moved hW.alike hK, hD.weaken (fun _ _ _ _ => trivial)⟩⟩ rfl hn hls rfl (lv_room hroom) hdg hcl) hS (fun q _ h => hFc q h) hFc ?_
  intro u t H1 locs1 ht hvm hw9 hB hz1 hk1 hS1
  obtain ⟨hP1, hK1, hD1⟩ := hB
  rw [ht] at hP1
  skip
  skip
  exact kk H1 locs1 hP1 (hD1.weaken (fun k q _ h => hFc q.1 h)) hS1

end ZD
end
section
/-! the two worlds, by the addresses of their cells and what they hold; what always holds of the state -/
def wT (q : Nat → Nat) (cy : ClassId) (nK : Int) (st : Int → Int) (le : Int → Int) (be : Int → Int) (te : Int → Int) (ab : Int → Int) (bl : Int → Int) (ka : Int → Int) (bg : Int → Int) (ln : Int → Int) (ns : Int → Int) (me : Int → Int) (sc : Int) (pi : Int) (re : Int) (bk : Int) (pa : Int → Int) (lz : Int → Int) (go : Int → Int) (ss : Int) (sm : Int) (pf : Int) (mf : Int) : va_W := [(q 0, .inr (5, [.ref (q 1), .ref (q 6), .ref (q 9), .ref (q 14), .ref (q 18), .int (iI sc), .int (iI pi), .int (iI re), .int (iI bk)])), (q 1, .inr (0, [.int (iI nK), .ref (q 2), .ref (q 3), .ref (q 4), .ref (q 5)])), (q 2, .inl (cy, 24, .inl (aF st))), (q 3, .inl (cy, 24, .inl (aF le))), (q 4, .inl (cy, 24, .inl (aF be))), (q 5, .inl (cy, 24, .inl (aF te))), (q 6, .inr (3, [.ref (q 7), .ref (q 8)])), (q 7, .inl (cy, 60, .inl (aF ab))), (q 8, .inl (cy, 60, .inl (aF bl))), (q 9, .inr (1, [.ref (q 1), .ref (q 10), .ref (q 11), .ref (q 12), .ref (q 13)])), (q 10, .inl (cy, 160, .inl (aF ka))), (q 11, .inl (cy, 160, .inl (aF bg))), (q 12, .inl (cy, 160, .inl (aF ln))), (q 13, .inl (cy, 4, .inl (aF ns))), (q 14, .inr (4, [.ref (q 15), .ref (q 16), .ref (q 17), .int (iI ss), .int (iI sm)])), (q 15, .inl (cy, 576, .inl (aF pa))), (q 16, .inl (cy, 625, .inl (aF lz))), (q 17, .inl (cy, 24, .inl (aF go))), (q 18, .inr (2, [.ref (q 1), .ref (q 6), .ref (q 19), .int (iI pf), .int (iI mf)])), (q 19, .inl (cy, 24, .inl (aF me)))]
def wM (q : Nat → Nat) (cy : ClassId) (nK : Int) (st : Int → Int) (le : Int → Int) (be : Int → Int) (te : Int → Int) (ab : Int → Int) (bl : Int → Int) (ka : Int → Int) (bg : Int → Int) (ln : Int → Int) (ns : Int → Int) (me : Int → Int) (sc : Int) (pi : Int) (re : Int) (bk : Int) (th : Int) (co : Int → Int) (bs : Int → Int) (gr : Int → Int) (lo : Int) : va_W := [(q 0, .inr (6, [.int (iI th), .int (iI nK), .ref (q 1), .ref (q 2), .ref (q 3), .ref (q 4), .ref (q 5), .ref (q 6), .int (iI sc), .int (iI pi), .ref (q 7), .ref (q 8), .ref (q 9), .ref (q 10), .int (iI re), .int (iI bk), .ref (q 11), .ref (q 12), .ref (q 13), .ref (q 14), .int (iI lo)])), (q 1, .inl (cy, 24, .inl (aF st))), (q 2, .inl (cy, 24, .inl (aF le))), (q 3, .inl (cy, 24, .inl (aF be))), (q 4, .inl (cy, 24, .inl (aF te))), (q 5, .inl (cy, 60, .inl (aF ab))), (q 6, .inl (cy, 60, .inl (aF bl))), (q 7, .inl (cy, 4, .inl (aF ns))), (q 8, .inl (cy, 160, .inl (aF ka))), (q 9, .inl (cy, 160, .inl (aF bg))), (q 10, .inl (cy, 160, .inl (aF ln))), (q 11, .inl (cy, 24, .inl (aF me))), (q 12, .inl (cy, 576, .inl (aF co))), (q 13, .inl (cy, 650, .inl (aF bs))), (q 14, .inl (cy, 24, .inl (aF gr)))]
def okS (nK : Int) (st : Int → Int) (le : Int → Int) (be : Int → Int) (te : Int → Int) (ab : Int → Int) (bl : Int → Int) (ka : Int → Int) (bg : Int → Int) (ln : Int → Int) (ns : Int → Int) (me : Int → Int) (sc : Int) (pi : Int) (re : Int) (bk : Int) : Prop := (1 ≤ nK ∧ nK ≤ 24) ∧ (∀ j, 0 ≤ st j ∧ st j ≤ 23) ∧ (∀ j, 500 ≤ le j ∧ le j ≤ 9999) ∧ (∀ j, -40 ≤ be j ∧ be j ≤ 40) ∧ (∀ j, 100 ≤ te j ∧ te j ≤ 20000) ∧ (∀ j, 1 ≤ ab j ∧ ab j ≤ 999) ∧ (∀ j, 1 ≤ bl j ∧ bl j ≤ 999 ∧ ab j ≤ 4 * bl j) ∧ (∀ j, 0 ≤ ka j ∧ ka j ≤ 23) ∧ (∀ j, 0 ≤ bg j ∧ bg j ≤ 999) ∧ (∀ j, 0 ≤ ln j ∧ ln j ≤ 99) ∧ (∀ j, 0 ≤ ns j ∧ ns j ≤ 40) ∧ (∀ j, me j = -100009 ∨ (100 ≤ me j ∧ me j ≤ 400000)) ∧ (0 ≤ sc ∧ sc ≤ 4) ∧ (1000 ≤ pi ∧ pi ≤ 200000) ∧ (0 ≤ re ∧ re ≤ 20) ∧ (0 ≤ bk ∧ bk ≤ 15) ∧ (∀ p i j, 0 ≤ p → p < 4 → 0 ≤ i → i ≤ j → j < ns p → bg (40 * p + i) ≤ bg (40 * p + j)) ∧ (∀ p i, 0 ≤ p → p < 4 → 0 ≤ i → i < ns p → 1 ≤ ln (40 * p + i))
theorem okS.nK {nK sc pi re bk : Int} {st le be te ab bl ka bg ln ns me : Int → Int} (h : okS nK st le be te ab bl ka bg ln ns me sc pi re bk) : 1 ≤ nK ∧ nK ≤ 24 := h.1
theorem okS.st {nK sc pi re bk : Int} {st le be te ab bl ka bg ln ns me : Int → Int} (h : okS nK st le be te ab bl ka bg ln ns me sc pi re bk) : ∀ j, 0 ≤ st j ∧ st j ≤ 23 := h.2.1
theorem okS.le {nK sc pi re bk : Int} {st le be te ab bl ka bg ln ns me : Int → Int} (h : okS nK st le be te ab bl ka bg ln ns me sc pi re bk) : ∀ j, 500 ≤ le j ∧ le j ≤ 9999 := h.2.2.1
theorem okS.be {nK sc pi re bk : Int} {st le be te ab bl ka bg ln ns me : Int → Int} (h : okS nK st le be te ab bl ka bg ln ns me sc pi re bk) : ∀ j, -40 ≤ be j ∧ be j ≤ 40 := h.2.2.2.1
theorem okS.te {nK sc pi re bk : Int} {st le be te ab bl ka bg ln ns me : Int → Int} (h : okS nK st le be te ab bl ka bg ln ns me sc pi re bk) : ∀ j, 100 ≤ te j ∧ te j ≤ 20000 := h.2.2.2.2.1
theorem okS.ab {nK sc pi re bk : Int} {st le be te ab bl ka bg ln ns me : Int → Int} (h : okS nK st le be te ab bl ka bg ln ns me sc pi re bk) : ∀ j, 1 ≤ ab j ∧ ab j ≤ 999 := h.2.2.2.2.2.1
theorem okS.bl {nK sc pi re bk : Int} {st le be te ab bl ka bg ln ns me : Int → Int} (h : okS nK st le be te ab bl ka bg ln ns me sc pi re bk) : ∀ j, 1 ≤ bl j ∧ bl j ≤ 999 ∧ ab j ≤ 4 * bl j := h.2.2.2.2.2.2.1
theorem okS.ka {nK sc pi re bk : Int} {st le be te ab bl ka bg ln ns me : Int → Int} (h : okS nK st le be te ab bl ka bg ln ns me sc pi re bk) : ∀ j, 0 ≤ ka j ∧ ka j ≤ 23 := h.2.2.2.2.2.2.2.1
theorem okS.bg {nK sc pi re bk : Int} {st le be te ab bl ka bg ln ns me : Int → Int} (h : okS nK st le be te ab bl ka bg ln ns me sc pi re bk) : ∀ j, 0 ≤ bg j ∧ bg j ≤ 999 := h.2.2.2.2.2.2.2.2.1
theorem okS.ln {nK sc pi re bk : Int} {st le be te ab bl ka bg ln ns me : Int → Int} (h : okS nK st le be te ab bl ka bg ln ns me sc pi re bk) : ∀ j, 0 ≤ ln j ∧ ln j ≤ 99 := h.2.2.2.2.2.2.2.2.2.1
theorem okS.ns {nK sc pi re bk : Int} {st le be te ab bl ka bg ln ns me : Int → Int} (h : okS nK st le be te ab bl ka bg ln ns me sc pi re bk) : ∀ j, 0 ≤ ns j ∧ ns j ≤ 40 := h.2.2.2.2.2.2.2.2.2.2.1
theorem okS.me {nK sc pi re bk : Int} {st le be te ab bl ka bg ln ns me : Int → Int} (h : okS nK st le be te ab bl ka bg ln ns me sc pi re bk) : ∀ j, me j = -100009 ∨ (100 ≤ me j ∧ me j ≤ 400000) := h.2.2.2.2.2.2.2.2.2.2.2.1
theorem okS.sc {nK sc pi re bk : Int} {st le be te ab bl ka bg ln ns me : Int → Int} (h : okS nK st le be te ab bl ka bg ln ns me sc pi re bk) : 0 ≤ sc ∧ sc ≤ 4 := h.2.2.2.2.2.2.2.2.2.2.2.2.1
theorem okS.pi {nK sc pi re bk : Int} {st le be te ab bl ka bg ln ns me : Int → Int} (h : okS nK st le be te ab bl ka bg ln ns me sc pi re bk) : 1000 ≤ pi ∧ pi ≤ 200000 := h.2.2.2.2.2.2.2.2.2.2.2.2.2.1
theorem okS.re {nK sc pi re bk : Int} {st le be te ab bl ka bg ln ns me : Int → Int} (h : okS nK st le be te ab bl ka bg ln ns me sc pi re bk) : 0 ≤ re ∧ re ≤ 20 := h.2.2.2.2.2.2.2.2.2.2.2.2.2.2.1
theorem okS.bk {nK sc pi re bk : Int} {st le be te ab bl ka bg ln ns me : Int → Int} (h : okS nK st le be te ab bl ka bg ln ns me sc pi re bk) : 0 ≤ bk ∧ bk ≤ 15 := h.2.2.2.2.2.2.2.2.2.2.2.2.2.2.2.1
theorem okS.so {nK sc pi re bk : Int} {st le be te ab bl ka bg ln ns me : Int → Int} (h : okS nK st le be te ab bl ka bg ln ns me sc pi re bk) : ∀ p i j, 0 ≤ p → p < 4 → 0 ≤ i → i ≤ j → j < ns p → bg (40 * p + i) ≤ bg (40 * p + j) := h.2.2.2.2.2.2.2.2.2.2.2.2.2.2.2.2.1
theorem okS.l1 {nK sc pi re bk : Int} {st le be te ab bl ka bg ln ns me : Int → Int} (h : okS nK st le be te ab bl ka bg ln ns me sc pi re bk) : ∀ p i, 0 ≤ p → p < 4 → 0 ≤ i → i < ns p → 1 ≤ ln (40 * p + i) := h.2.2.2.2.2.2.2.2.2.2.2.2.2.2.2.2.2
end
section
noncomputable def bP (P : Prop) : Int := @ite Int P (Classical.propDecidable P) 1 0
theorem bP_1 {P : Prop} (h : P) : bP P = 1 := if_pos h
theorem bP_0 {P : Prop} (h : ¬ P) : bP P = 0 := if_neg h
theorem bP_b (P : Prop) : 0 ≤ bP P ∧ bP P ≤ 1 := by
  by_cases h : P
  · rw [bP_1 h]; decide
  · rw [bP_0 h]; decide
theorem bP_c {P P2 : Prop} (h : P ↔ P2) : bP P = bP P2 := by rw [propext h]
theorem bP_z {P : Prop} : iI (bP P) = 0 ↔ ¬ P := by
  by_cases h : P
  · rw [bP_1 h]; exact ⟨fun q => absurd q (by decide), fun q => absurd h q⟩
  · rw [bP_0 h]; exact ⟨fun _ => h, fun _ => by decide⟩
theorem bP_if (P : Prop) [Decidable P] : bP P = if P then 1 else 0 := by
  by_cases h : P
  · rw [bP_1 h, if_pos h]
  · rw [bP_0 h, if_neg h]
def shZ (a b : Int) : Int := if b = 0 then a else 2 * a
def srZ (a b : Int) : Int := a / 2 ^ b.toNat
def cmZ (a b : Int) : Int := if b < a then 1 else if a = b then 0 else -1
theorem cmZ_b (a b : Int) : (b < a ∧ cmZ a b = 1) ∨ (a = b ∧ cmZ a b = 0) ∨ (a < b ∧ cmZ a b = -1) := by
  unfold cmZ
  split
  · omega
  · split <;> omega
theorem iI_nI {a : Int} (h : 0 ≤ a) : iI a = nI a.toNat := by
  have e : ((a.toNat : Nat) : Int) = a := by omega
  unfold iI nI
  rw [← e]
  first | rfl | exact Int32.ofInt_eq_ofNat | simp
theorem nI_iI (n : Nat) : nI n = iI (n : Int) := by rw [iI_nI (by omega)]; rfl
theorem shZ_i {a b : Int} (h : 0 ≤ a ∧ a ≤ 1000000 ∧ 0 ≤ b ∧ b ≤ 1) : iI a <<< (iI b &&& 31) = iI (shZ a b) := by
  obtain ⟨h1, h2, h3, h4⟩ := h
  unfold shZ
  rcases (show b = 0 ∨ b = 1 by omega) with rfl | rfl
  · rw [if_pos rfl]; exact sb_shl0 _
  · rw [if_neg (by decide), iI_nI h1, pk_shlN (iI 1 &&& 31) 1 (by decide) (by omega), nI_iI]
    congr 1
    omega
theorem srZ_i {a b : Int} (h : 0 ≤ a ∧ a ≤ 1000000 ∧ 0 ≤ b ∧ b ≤ 3) : iI a >>> (iI b &&& 31) = iI (srZ a b) := by
  obtain ⟨h1, h2, h3, h4⟩ := h
  have e : ((a.toNat : Nat) : Int) = a := by omega
  unfold srZ
  rw [iI_nI h1]
  rcases (show b = 0 ∨ b = 1 ∨ b = 2 ∨ b = 3 by omega) with rfl | rfl | rfl | rfl
  · rw [pk_shrN (by omega) (iI 0 &&& 31) 0 (by decide), nI_iI]
    congr 1
    show ((a.toNat / 1 : Nat) : Int) = a / 1
    omega
  · rw [pk_shrN (by omega) (iI 1 &&& 31) 1 (by decide), nI_iI]
    congr 1
    show ((a.toNat / 2 : Nat) : Int) = a / 2
    omega
  · rw [pk_shrN (by omega) (iI 2 &&& 31) 2 (by decide), nI_iI]
    congr 1
    show ((a.toNat / 4 : Nat) : Int) = a / 4
    omega
  · rw [pk_shrN (by omega) (iI 3 &&& 31) 3 (by decide), nI_iI]
    congr 1
    show ((a.toNat / 8 : Nat) : Int) = a / 8
    omega
theorem and1_i {a : Int} (h : 0 ≤ a ∧ a ≤ 1000000) : iI a &&& iI 1 = iI (a % 2) := by
  rw [iI_nI h.1, pk_andN (by omega) 1 (by decide), nI_iI]
  congr 1
  show ((a.toNat % 2 : Nat) : Int) = a % 2
  omega
theorem cmZ_i {a b : Int} (h : -2147483648 ≤ a ∧ a ≤ 2147483647 ∧ -2147483648 ≤ b ∧ b ≤ 2147483647) : lg_cmp (lI a) (lI b) = iI (cmZ a b) := by
  have ha : rg a := ⟨h.1, h.2.1⟩
  have hb : rg b := ⟨h.2.2.1, h.2.2.2⟩
  unfold lg_cmp cmZ
  by_cases h1 : b < a
  · rw [if_pos ((lI_lt hb ha).mpr h1), if_pos h1]; decide
  · rw [if_neg (fun q => h1 ((lI_lt hb ha).mp q)), if_neg h1]
    by_cases h2 : a = b
    · rw [if_pos (by rw [h2]), if_pos h2]; decide
    · rw [if_neg (fun q => h2 ((lI_eq ha hb).mp q)), if_neg h2]; decide
section ZS
variable {p : Program} {l : Launch} {e : Env} {R : Room} {s : State} {m : MethodId} {args : Array Value} {below : List Frame} {meth : Method} {c : Code} {H : Heap} {locs : List Loc} {cells slots : Nat} {Q : State → Prop}
variable {cc : ByteArray} {pc nL : Nat} {ls : Array Slot} {rest : List Value} {D : va_G} {cy : ClassId} {A : Nat → Prop} {Ts : List Cond} {own : String}
theorem z_ifp_eq (hx : p.tables.exec = Jvm.exec) (hb : c.code = cc) {P : Prop} {off : Int} {tgt : Nat} (hdg : decode cc pc = .ok (.ifCond .eq off, 3)) (ht : (pc : Int) + off = (tgt : Int)) (kt : ¬ P → W p l e R s m args below meth c H locs cells slots Q (F0 m tgt ls rest)) (kf : P → W p l e R s m args below meth c H locs cells slots Q (F0 m (pc + 3) ls rest)) : W p l e R s m args below meth c H locs cells slots Q (F0 m pc ls (.int (iI (bP P)) :: rest)) := lv_if_eq hx hb hdg ht (fun q => kt (bP_z.mp q)) (fun q => kf (Classical.byContradiction fun z => q (bP_z.mpr z)))
theorem z_ifp_ne (hx : p.tables.exec = Jvm.exec) (hb : c.code = cc) {P : Prop} {off : Int} {tgt : Nat} (hdg : decode cc pc = .ok (.ifCond .ne off, 3)) (ht : (pc : Int) + off = (tgt : Int)) (kt : P → W p l e R s m args below meth c H locs cells slots Q (F0 m tgt ls rest)) (kf : ¬ P → W p l e R s m args below meth c H locs cells slots Q (F0 m (pc + 3) ls rest)) : W p l e R s m args below meth c H locs cells slots Q (F0 m pc ls (.int (iI (bP P)) :: rest)) := lv_if_ne hx hb hdg ht (fun q => kt (Classical.byContradiction fun z => q (bP_z.mpr z))) (fun q => kf (bP_z.mp q))
theorem z_pret1 {w1 : va_W} {P : Prop} (X : Cx p s m meth c cc nL (some .boolean) Ts own args) (hK : va_K D vwCl [(cy, .int)] s) (hP : va_P D vwCl w1 H) (hD : va_D A w1) (hS : va_S A s.heap H locs) (hdg : decode cc pc = .ok (.ireturn, 1)) (hp : P) : W p l e R s m args below meth c H locs 0 0 (MQ below (zQi D cy w1 A (bP P)) args s 0 0 A) (F0 m pc ls [.int (iI 1)]) := z_zret (b := true) X hK hP hD hS hdg (bP_1 hp).symm
theorem z_pret0 {w1 : va_W} {P : Prop} (X : Cx p s m meth c cc nL (some .boolean) Ts own args) (hK : va_K D vwCl [(cy, .int)] s) (hP : va_P D vwCl w1 H) (hD : va_D A w1) (hS : va_S A s.heap H locs) (hdg : decode cc pc = .ok (.ireturn, 1)) (hp : ¬ P) : W p l e R s m args below meth c H locs 0 0 (MQ below (zQi D cy w1 A (bP P)) args s 0 0 A) (F0 m pc ls [.int (iI 0)]) := z_zret (b := false) X hK hP hD hS hdg (bP_0 hp).symm
theorem z_pretp {w1 : va_W} {P P2 : Prop} (X : Cx p s m meth c cc nL (some .boolean) Ts own args) (hK : va_K D vwCl [(cy, .int)] s) (hP : va_P D vwCl w1 H) (hD : va_D A w1) (hS : va_S A s.heap H locs) (hdg : decode cc pc = .ok (.ireturn, 1)) (hp : P2 ↔ P) : W p l e R s m args below meth c H locs 0 0 (MQ below (zQi D cy w1 A (bP P)) args s 0 0 A) (F0 m pc ls [.int (iI (bP P2))]) := by
  by_cases h : P2
  · rw [bP_1 h]; exact z_pret1 X hK hP hD hS hdg (hp.mp h)
  · rw [bP_0 h]; exact z_pret0 X hK hP hD hS hdg (fun z => h (hp.mpr z))
theorem z_ishl (hx : p.tables.exec = Jvm.exec) (hb : c.code = cc) {a b : Int} (hdg : decode cc pc = .ok (.ishl, 1)) (h : 0 ≤ a ∧ a ≤ 1000000 ∧ 0 ≤ b ∧ b ≤ 1) (k : W p l e R s m args below meth c H locs cells slots Q (F0 m (pc + 1) ls (.int (iI (shZ a b)) :: rest))) : W p l e R s m args below meth c H locs cells slots Q (F0 m pc ls (.int (iI b) :: .int (iI a) :: rest)) := lv_ishl hx hb hdg (by rw [shZ_i h]; exact k)
theorem z_ishr (hx : p.tables.exec = Jvm.exec) (hb : c.code = cc) {a b : Int} (hdg : decode cc pc = .ok (.ishr, 1)) (h : 0 ≤ a ∧ a ≤ 1000000 ∧ 0 ≤ b ∧ b ≤ 3) (k : W p l e R s m args below meth c H locs cells slots Q (F0 m (pc + 1) ls (.int (iI (srZ a b)) :: rest))) : W p l e R s m args below meth c H locs cells slots Q (F0 m pc ls (.int (iI b) :: .int (iI a) :: rest)) := lv_ishr hx hb hdg (by rw [srZ_i h]; exact k)
theorem z_iand1 (hx : p.tables.exec = Jvm.exec) (hb : c.code = cc) {a : Int} (hdg : decode cc pc = .ok (.iand, 1)) (h : 0 ≤ a ∧ a ≤ 1000000) (k : W p l e R s m args below meth c H locs cells slots Q (F0 m (pc + 1) ls (.int (iI (a % 2)) :: rest))) : W p l e R s m args below meth c H locs cells slots Q (F0 m pc ls (.int (iI 1) :: .int (iI a) :: rest)) := lv_iand hx hb hdg (by rw [and1_i h]; exact k)
theorem z_lcmp (hx : p.tables.exec = Jvm.exec) (hb : c.code = cc) {a b : Int} (hdg : decode cc pc = .ok (.lcmp, 1)) (h : -2147483648 ≤ a ∧ a ≤ 2147483647 ∧ -2147483648 ≤ b ∧ b ≤ 2147483647) (k : W p l e R s m args below meth c H locs cells slots Q (F0 m (pc + 1) ls (.int (iI (cmZ a b)) :: rest))) : W p l e R s m args below meth c H locs cells slots Q (F0 m pc ls (.long (lI b) :: .long (lI a) :: rest)) := W.lcmp hx hb hdg (by rw [cmZ_i h]; exact k)
theorem z_tabIn (hx : p.tables.exec = Jvm.exec) (hb : c.code = cc) {dflt lo hi : Int} {offs : Array Int} {len : Nat} {t z off : Int} {tgt : Nat} (hdg : decode cc pc = .ok (.tableswitch dflt lo hi offs, len)) (h : t = z) (hz : -2147483648 ≤ z ∧ z ≤ 2147483647) (h1 : ¬ z < lo) (h2 : ¬ hi < z) (ho : offs[(z - lo).toNat]? = some off) (ht : (pc : Int) + off = (tgt : Int)) (k : W p l e R s m args below meth c H locs cells slots Q (F0 m tgt ls rest)) : W p l e R s m args below meth c H locs cells slots Q (F0 m pc ls (.int (iI t) :: rest)) := by
  subst h
  have e := iI_toInt (z := t) hz
  exact lv_tableIn hx hb hdg (by rw [e]; exact h1) (by rw [e]; exact h2) (by rw [e]; exact ho) ht k
theorem z_tabOut (hx : p.tables.exec = Jvm.exec) (hb : c.code = cc) {dflt lo hi : Int} {offs : Array Int} {len : Nat} {t : Int} {tgt : Nat} (hdg : decode cc pc = .ok (.tableswitch dflt lo hi offs, len)) (hz : -2147483648 ≤ t ∧ t ≤ 2147483647) (h1 : t < lo ∨ hi < t) (ht : (pc : Int) + dflt = (tgt : Int)) (k : W p l e R s m args below meth c H locs cells slots Q (F0 m tgt ls rest)) : W p l e R s m args below meth c H locs cells slots Q (F0 m pc ls (.int (iI t) :: rest)) := by
  have e := iI_toInt (z := t) hz
  exact lv_tableOut hx hb hdg (by rw [e]; exact h1) ht k
end ZS
end
section
/-! sums over a stretch of whole numbers -/
def sN (f : Int → Int) (lo : Int) : Nat → Int
  | 0 => 0
  | n + 1 => sN f lo n + f (lo + n)
def sZ (f : Int → Int) (lo hi : Int) : Int := sN f lo (hi - lo).toNat
theorem sZ_nil {f : Int → Int} {lo hi : Int} (h : hi ≤ lo) : sZ f lo hi = 0 := by
  unfold sZ
  rw [show (hi - lo).toNat = 0 by omega]
  rfl
theorem sZ_step {f : Int → Int} {lo i : Int} (h : lo ≤ i) : sZ f lo (i + 1) = sZ f lo i + f i := by
  unfold sZ
  rw [show (i + 1 - lo).toNat = (i - lo).toNat + 1 by omega]
  show sN f lo _ + f (lo + ((i - lo).toNat : Int)) = _
  rw [show lo + ((i - lo).toNat : Int) = i by omega]
theorem sN_cong {f g : Int → Int} {lo : Int} : ∀ n : Nat, (∀ j : Int, lo ≤ j → j < lo + n → f j = g j) → sN f lo n = sN g lo n
  | 0, _ => rfl
  | n + 1, h => by
    show sN f lo n + f (lo + n) = sN g lo n + g (lo + n)
    rw [sN_cong n (fun j h1 h2 => h j h1 (by omega)), h (lo + n) (by omega) (by omega)]
theorem sZ_cong {f g : Int → Int} {lo hi : Int} (h : ∀ j : Int, lo ≤ j → j < hi → f j = g j) : sZ f lo hi = sZ g lo hi := by
  unfold sZ
  exact sN_cong _ (fun j h1 h2 => h j h1 (by omega))
theorem sN_b {f : Int → Int} {lo B : Int} : ∀ n : Nat, (∀ j : Int, lo ≤ j → j < lo + n → 0 ≤ f j ∧ f j ≤ B) → 0 ≤ sN f lo n ∧ sN f lo n ≤ n * B
  | 0, _ => by simp [sN]
  | n + 1, h => by
    have h1 := sN_b n (fun j h1 h2 => h j h1 (by omega))
    have h2 := h (lo + n) (by omega) (by omega)
    have e : ((n + 1 : Nat) : Int) * B = n * B + B := by rw [Int.natCast_add, Int.add_mul]; simp
    show 0 ≤ sN f lo n + f (lo + n) ∧ sN f lo n + f (lo + n) ≤ _
    rw [e]
    omega
theorem sZ_b {f : Int → Int} {lo hi B : Int} (hl : lo ≤ hi) (h : ∀ j : Int, lo ≤ j → j < hi → 0 ≤ f j ∧ f j ≤ B) : 0 ≤ sZ f lo hi ∧ sZ f lo hi ≤ (hi - lo) * B := by
  have := sN_b (f := f) (lo := lo) (B := B) (hi - lo).toNat (fun j h1 h2 => h j h1 (by omega))
  unfold sZ
  rw [show (((hi - lo).toNat : Nat) : Int) = hi - lo by omega] at this
  exact this
theorem sN_shift {f : Int → Int} {lo d : Int} : ∀ n : Nat, sN (fun j => f (j + d)) lo n = sN f (lo + d) n
  | 0 => rfl
  | n + 1 => by
    show sN (fun j => f (j + d)) lo n + f (lo + n + d) = sN f (lo + d) n + f (lo + d + n)
    rw [sN_shift n, show lo + n + d = lo + d + n by omega]
theorem sZ_shift {f : Int → Int} {lo hi d : Int} : sZ (fun j => f (j + d)) lo hi = sZ f (lo + d) (hi + d) := by
  unfold sZ
  rw [show hi + d - (lo + d) = hi - lo by omega]
  exact sN_shift _
/-- how many of lo .. hi - 1 are such -/
theorem sZ_c {f : Int → Int} {lo hi : Int} (hl : lo ≤ hi) (h : ∀ j : Int, 0 ≤ f j ∧ f j ≤ 1) : 0 ≤ sZ f lo hi ∧ sZ f lo hi ≤ hi - lo := by
  have := sZ_b (f := f) (B := 1) hl (fun j _ _ => h j)
  omega
end
section
/-! what the methods compute, in words of the state -/
def gl (ab bl : Int → Int) (s p k : Int) : Int := p * (if k < 12 then 1 else 2) * ab (12 * s + k % 12) / bl (12 * s + k % 12)
theorem mul_b {x y X Y : Int} (h1 : 0 ≤ x) (h2 : x ≤ X) (h3 : 0 ≤ y) (h4 : y ≤ Y) : 0 ≤ x * y ∧ x * y ≤ X * Y :=
  ⟨Int.mul_nonneg h1 h3, Int.mul_le_mul h2 h4 h3 (Int.le_trans h1 h2)⟩
theorem shZ_b {p k : Int} (h1 : 0 ≤ p) (h2 : p ≤ 200000) : 0 ≤ shZ p k ∧ shZ p k ≤ 400000 := by unfold shZ; split <;> omega
theorem gl_b {ab bl : Int → Int} {s p k : Int} (ha : ∀ j, 1 ≤ ab j ∧ ab j ≤ 999) (hb : ∀ j, 1 ≤ bl j ∧ bl j ≤ 999 ∧ ab j ≤ 4 * bl j) (h1 : 0 ≤ p) (h2 : p ≤ 200000) : 0 ≤ gl ab bl s p k ∧ gl ab bl s p k ≤ 1600000 := by
  unfold gl
  generalize 12 * s + k % 12 = j
  have a := ha j
  have b := hb j
  have hm : 0 ≤ p * (if k < 12 then 1 else 2) ∧ p * (if k < 12 then 1 else 2) ≤ 400000 := by split <;> omega
  generalize p * (if k < 12 then 1 else 2) = x at hm
  refine ⟨Int.ediv_nonneg (Int.mul_nonneg hm.1 (by omega)) (by omega), ?_⟩
  apply Int.ediv_le_of_le_mul (by omega)
  have e1 : x * ab j ≤ x * (4 * bl j) := Int.mul_le_mul_of_nonneg_left (by omega) hm.1
  have e2 : x * (4 * bl j) ≤ 400000 * (4 * bl j) := Int.mul_le_mul_of_nonneg_right hm.2 (by omega)
  omega
abbrev tn (st le te : Int → Int) (k b : Int) : Int := te (st k) * 10000 / (le k + b)
theorem tn_b {st le te : Int → Int} {k b : Int} (hl : ∀ j, 500 ≤ le j ∧ le j ≤ 9999) (ht : ∀ j, 100 ≤ te j ∧ te j ≤ 20000) (h : -40 ≤ b ∧ b ≤ 40) : 0 ≤ te (st k) * 10000 / (le k + b) ∧ te (st k) * 10000 / (le k + b) ≤ 434783 := by
  have a := hl k
  have t := ht (st k)
  refine ⟨Int.ediv_nonneg (by omega) (by omega), ?_⟩
  apply Int.ediv_le_of_le_mul (by omega)
  have : 434783 * 460 ≤ 434783 * (le k + b) := by omega
  omega
/-- the error of a key -/
abbrev er (st le be te ab bl : Int → Int) (sc pi k : Int) : Int := te (st k) * 10000 / (le k + be k) - gl ab bl sc pi k
abbrev shP (nK : Int) (st : Int → Int) (a b : Int) : Prop := a ≠ b ∧ (0 ≤ a ∧ a < nK) ∧ (0 ≤ b ∧ b < nK) ∧ st a = st b
abbrev onP (bg ln : Int → Int) (a b : Int) : Prop := bg a < bg b + ln b ∧ bg b < bg a + ln a
abbrev clP (nK : Int) (st ka bg ln : Int → Int) (a b : Int) : Prop := shP nK st (ka a) (ka b) ∧ onP bg ln a b
/-- clashes of the notes lo .. hi - 1 -/
noncomputable def clN (nK : Int) (st ka bg ln : Int → Int) (lo hi : Int) : Int := sZ (fun b => sZ (fun a => bP (clP nK st ka bg ln a b)) lo b) lo hi
theorem clN_b {nK : Int} {st ka bg ln : Int → Int} {lo hi : Int} (h : lo ≤ hi) (h2 : hi ≤ lo + 40) : 0 ≤ clN nK st ka bg ln lo hi ∧ clN nK st ka bg ln lo hi ≤ 1600 := by
  have := sZ_b (f := fun b => sZ (fun a => bP (clP nK st ka bg ln a b)) lo b) (lo := lo) (hi := hi) (B := 40) h (fun j h3 h4 => by
    have := sZ_c (f := fun a => bP (clP nK st ka bg ln a j)) h3 (fun i => bP_b _)
    (try dsimp only at this ⊢)
    omega)
  unfold clN
  omega
/-- the first of 0 .. n with the greatest e -/
def wsZ (e : Int → Int) : Nat → Int
  | 0 => 0
  | n + 1 => if e (wsZ e n) < e ((n + 1 : Nat) : Int) then ((n + 1 : Nat) : Int) else wsZ e n
theorem wsZ_gt {e : Int → Int} {k a g : Int} (h : 1 ≤ k) (hr : a = wsZ e (k - 1).toNat) (hg : g = e a) (hc : g < e k) : k = wsZ e (k + 1 - 1).toNat := by
  rw [show (k + 1 - 1).toNat = (k - 1).toNat + 1 by omega]
  show k = if e (wsZ e (k - 1).toNat) < e (((k - 1).toNat + 1 : Nat) : Int) then (((k - 1).toNat + 1 : Nat) : Int) else wsZ e (k - 1).toNat
  rw [show (((k - 1).toNat + 1 : Nat) : Int) = k by omega, ← hr, ← hg, if_pos hc]
theorem wsZ_le {e : Int → Int} {k a g : Int} (h : 1 ≤ k) (hr : a = wsZ e (k - 1).toNat) (hg : g = e a) (hc : e k ≤ g) : a = wsZ e (k + 1 - 1).toNat := by
  rw [show (k + 1 - 1).toNat = (k - 1).toNat + 1 by omega]
  show a = if e (wsZ e (k - 1).toNat) < e (((k - 1).toNat + 1 : Nat) : Int) then (((k - 1).toNat + 1 : Nat) : Int) else wsZ e (k - 1).toNat
  rw [show (((k - 1).toNat + 1 : Nat) : Int) = k by omega, ← hr, ← hg, if_neg (by omega)]
theorem er_b {nK sc pi re bk : Int} {st le be te ab bl ka bg ln ns me : Int → Int} (I : okS nK st le be te ab bl ka bg ln ns me sc pi re bk) (k : Int) : -1600000 ≤ er st le be te ab bl sc pi k ∧ er st le be te ab bl sc pi k ≤ 434783 := by
  have i2 := I.pi
  have b7 := tn_b (st := st) (k := k) (b := be k) I.le I.te (I.be k)
  have b6 := gl_b (s := sc) (p := pi) (k := k) I.ab I.bl (by omega) (by omega)
  show -1600000 ≤ te (st k) * 10000 / (le k + be k) - gl ab bl sc pi k ∧ te (st k) * 10000 / (le k + be k) - gl ab bl sc pi k ≤ 434783
  omega
end
section
/-! the first of a stretch with the least value -/
def isAM (g : Int → Int) (lo hi b : Int) : Prop := lo ≤ b ∧ b < hi ∧ (∀ v, lo ≤ v → v < b → g b < g v) ∧ (∀ v, b ≤ v → v < hi → g b ≤ g v)
theorem isAM_one {g : Int → Int} {lo hi a b : Int} (ha : isAM g lo hi a) (hb : isAM g lo hi b) : a = b := by
  obtain ⟨a1, a2, a3, a4⟩ := ha
  obtain ⟨b1, b2, b3, b4⟩ := hb
  rcases Int.lt_trichotomy a b with h | h | h
  · have x := b3 a a1 h
    have y := a4 b (by omega) b2
    omega
  · exact h
  · have x := a3 b b1 h
    have y := b4 a (by omega) a2
    omega
theorem isAM_lt {g : Int → Int} {lo i b : Int} (h : isAM g lo i b) (hc : g i < g b) : isAM g lo (i + 1) i := by
  obtain ⟨h1, h2, h3, h4⟩ := h
  refine ⟨by omega, by omega, fun v a c => ?_, fun v a c => ?_⟩
  · rcases (show v < b ∨ b ≤ v by omega) with q | q
    · have := h3 v a q; omega
    · have := h4 v q c; omega
  · rw [show v = i by omega]; omega
theorem isAM_ge {g : Int → Int} {lo i b : Int} (h : isAM g lo i b) (hc : g b ≤ g i) : isAM g lo (i + 1) b := by
  obtain ⟨h1, h2, h3, h4⟩ := h
  refine ⟨h1, by omega, h3, fun v a c => ?_⟩
  rcases (show v < i ∨ v = i by omega) with q | q
  · exact h4 v a q
  · rw [q]; exact hc
theorem isAM_1 {g : Int → Int} {lo : Int} : isAM g lo (lo + 1) lo := ⟨by omega, by omega, fun v a c => by omega, fun v a c => by rw [show v = lo by omega]; omega⟩
theorem isAM_up {g : Int → Int} {lo i hi b : Int} (h : isAM g lo i b) (hi1 : i ≤ hi) (hc : ∀ v, i ≤ v → v < hi → g b ≤ g v) : isAM g lo hi b := by
  obtain ⟨h1, h2, h3, h4⟩ := h
  refine ⟨h1, by omega, h3, fun v a c => ?_⟩
  rcases (show v < i ∨ i ≤ v by omega) with q | q
  · exact h4 v a q
  · exact hc v q c
theorem isAM_dnle {g : Int → Int} {i hi b : Int} (h : isAM g (i + 1) hi b) (hc : g i ≤ g b) : isAM g i hi i := by
  obtain ⟨h1, h2, h3, h4⟩ := h
  refine ⟨by omega, by omega, fun v a c => by omega, fun v a c => ?_⟩
  rcases (show v = i ∨ (i + 1 ≤ v ∧ v < b) ∨ b ≤ v by omega) with q | q | q
  · rw [q]; omega
  · have := h3 v q.1 q.2; omega
  · have := h4 v q c; omega
theorem isAM_dngt {g : Int → Int} {i hi b : Int} (h : isAM g (i + 1) hi b) (hc : g b < g i) : isAM g i hi b := by
  obtain ⟨h1, h2, h3, h4⟩ := h
  refine ⟨by omega, by omega, fun v a c => ?_, h4⟩
  rcases (show v = i ∨ i + 1 ≤ v by omega) with q | q
  · rw [q]; exact hc
  · exact h3 v q c
theorem isAM_dn {g : Int → Int} {lo i hi b : Int} (h : isAM g i hi b) (hi1 : lo ≤ i) (hc : ∀ v, lo ≤ v → v < i → g b < g v) : isAM g lo hi b := by
  obtain ⟨h1, h2, h3, h4⟩ := h
  refine ⟨by omega, by omega, fun v a c => ?_, h4⟩
  rcases (show v < i ∨ i ≤ v by omega) with q | q
  · exact hc v a q
  · exact h3 v q c
noncomputable def am (g : Int → Int) (lo hi : Int) : Int := Classical.epsilon (isAM g lo hi)
theorem am_eq {g : Int → Int} {lo hi b : Int} (h : isAM g lo hi b) : am g lo hi = b := isAM_one (Classical.epsilon_spec (p := isAM g lo hi) ⟨b, h⟩) h
theorem isAM_ex (g : Int → Int) (lo : Int) : ∀ n : Nat, ∃ b, isAM g lo (lo + n + 1) b
  | 0 => ⟨lo, by rw [show lo + ((0 : Nat) : Int) + 1 = lo + 1 by omega]; exact isAM_1⟩
  | n + 1 => by
    obtain ⟨b, hb⟩ := isAM_ex g lo n
    rcases (show g (lo + n + 1) < g b ∨ g b ≤ g (lo + n + 1) by omega) with q | q
    · exact ⟨_, by rw [show lo + ((n + 1 : Nat) : Int) + 1 = lo + n + 1 + 1 by omega]; exact isAM_lt hb q⟩
    · exact ⟨_, by rw [show lo + ((n + 1 : Nat) : Int) + 1 = lo + n + 1 + 1 by omega]; exact isAM_ge hb q⟩
theorem am_is {g : Int → Int} {lo hi : Int} (h : lo < hi) : isAM g lo hi (am g lo hi) := by
  obtain ⟨b, hb⟩ := isAM_ex g lo (hi - lo - 1).toNat
  rw [show lo + ((hi - lo - 1).toNat : Int) + 1 = hi by omega] at hb
  rw [am_eq hb]
  exact hb
theorem am_cong {g f : Int → Int} {lo hi : Int} (h : ∀ v, lo ≤ v → v < hi → g v = f v) (hl : lo < hi) : am g lo hi = am f lo hi := by
  have := am_is (g := g) hl
  obtain ⟨h1, h2, h3, h4⟩ := this
  refine (am_eq ⟨h1, h2, fun v a c => ?_, fun v a c => ?_⟩).symm
  · rw [← h _ h1 h2, ← h v a (by omega)]; exact h3 v a c
  · rw [← h _ h1 h2, ← h v (by omega) c]; exact h4 v a c
/-! the bend: least size of the error, then least size of the bend, then the lesser -/
def lx (f : Int → Int) (b v : Int) : Prop := f b < f v ∨ (f b = f v ∧ (aZ b < aZ v ∨ (aZ b = aZ v ∧ b ≤ v)))
def isTB (f : Int → Int) (lo hi b : Int) : Prop := lo ≤ b ∧ b ≤ hi ∧ ∀ v, lo ≤ v → v ≤ hi → lx f b v
theorem isTB_one {f : Int → Int} {lo hi a b : Int} (ha : isTB f lo hi a) (hb : isTB f lo hi b) : a = b := by
  have x := ha.2.2 b hb.1 hb.2.1
  have y := hb.2.2 a ha.1 ha.2.1
  unfold lx at x y
  omega
noncomputable def tb (f : Int → Int) : Int := Classical.epsilon (isTB f (-40) 40)
theorem tb_eq {f : Int → Int} {b : Int} (h : isTB f (-40) 40 b) : tb f = b := isTB_one (Classical.epsilon_spec (p := isTB f (-40) 40) ⟨b, h⟩) h
theorem aZ_n {z : Int} (h : z ≤ 0) : aZ z = -z := by unfold aZ; split <;> omega
theorem aZ_p {z : Int} (h : 0 ≤ z) : aZ z = z := by unfold aZ; split <;> omega
/-- one more above -/
theorem isTB_hi {f : Int → Int} {lo hi b : Int} (h : isTB f lo hi b) : (lx f b (hi + 1) → isTB f lo (hi + 1) b) ∧ (lx f (hi + 1) b → isTB f lo (hi + 1) (hi + 1)) := by
  obtain ⟨h1, h2, h3⟩ := h
  refine ⟨fun q => ⟨h1, by omega, fun v a c => ?_⟩, fun q => ⟨by omega, by omega, fun v a c => ?_⟩⟩
  · rcases (show v ≤ hi ∨ v = hi + 1 by omega) with z | z
    · exact h3 v a z
    · rw [z]; exact q
  · rcases (show v ≤ hi ∨ v = hi + 1 by omega) with z | z
    · have := h3 v a z
      unfold lx at this q ⊢
      omega
    · rw [z]; unfold lx; omega
theorem isTB_lo {f : Int → Int} {lo hi b : Int} (h : isTB f lo hi b) : (lx f b (lo - 1) → isTB f (lo - 1) hi b) ∧ (lx f (lo - 1) b → isTB f (lo - 1) hi (lo - 1)) := by
  obtain ⟨h1, h2, h3⟩ := h
  refine ⟨fun q => ⟨by omega, by omega, fun v a c => ?_⟩, fun q => ⟨by omega, by omega, fun v a c => ?_⟩⟩
  · rcases (show lo ≤ v ∨ v = lo - 1 by omega) with z | z
    · exact h3 v z c
    · rw [z]; exact q
  · rcases (show lo ≤ v ∨ v = lo - 1 by omega) with z | z
    · have := h3 v z c
      unfold lx at this q ⊢
      omega
    · rw [z]; unfold lx; omega
end
section
/-! contracts that say of the world behind only what is wanted -/
def zQr (D : va_G) (cy : ClassId) (A : Nat → Prop) (Ψ : Int → va_W → Prop) : Array Value → State → Outcome → State → Prop := va_Qi (fun (x : Int32) (u : va_W) => ∃ r : Int, x = iI r ∧ Ψ r u) (fun u t => zB D cy u A () t) A
def zQw (D : va_G) (cy : ClassId) (A : Nat → Prop) (Ψ : va_W → Prop) : Array Value → State → Outcome → State → Prop := va_Qv (fun (u : va_W) => Ψ u) (fun u t => zB D cy u A () t) A
def MR (l : Launch) (D : va_G) (cy : ClassId) (y : MethodName) (ws : List Cond) (rm : Room) (av : List Value) (w0 : va_W) (Ψ : Int → va_W → Prop) : Prop := ∀ sz : Nat, Met l y ws rm (zP D cy w0 sz av) (zQr D cy (va_A w0 sz) Ψ) 0 0 (va_A w0 sz)
def MW (l : Launch) (D : va_G) (cy : ClassId) (y : MethodName) (ws : List Cond) (rm : Room) (av : List Value) (w0 : va_W) (Ψ : va_W → Prop) : Prop := ∀ sz : Nat, Met l y ws rm (zP D cy w0 sz av) (zQw D cy (va_A w0 sz) Ψ) 0 0 (va_A w0 sz)
section ZC3
variable {l : Launch} {D : va_G} {cy : ClassId} {y : MethodName} {ws ws' : List Cond} {rm : Room} {av : List Value} {w0 : va_W} {cc : ByteArray} {maxL : Nat} {ret : Option FieldType}

theorem MR.ofW {Ψ : Int → va_W → Prop} (hy : plainName y.cls = true) (hw : ws = Cond.code y cc maxL ret :: ws') (hav : (lg_sl av).length ≤ maxL)
    (body : ∀ (p : Program) (e : Env) (s : State) (m : MethodId) (below : List Frame) (meth : Method) (c : Code) (A : Nat → Prop) (ls : Array Slot), Cx p s m meth c cc maxL ret ws y.cls av.toArray → va_K D vwCl [(cy, .int)] s → va_P D vwCl w0 s.heap → va_D A w0 → (∀ q, s.heap.size ≤ q → A q) → va_S A s.heap s.heap [] → lv_has ls maxL (lv_args 0 av) → W p l e rm s m av.toArray below meth c s.heap [] 0 0 (MQ below (zQr D cy A Ψ) av.toArray s 0 0 A) (F0 m 0 ls [])) : MR l D cy y ws rm av w0 Ψ := by
  intro sz
  refine Met.ofW hy hw ?_
  intro p e s m args below meth c s₁ B hml hv
  obtain ⟨rfl, hsz, hP, hK, hD0⟩ := hv
  subst hsz
  rw [lg_entry_eq]
  exact body p e s m below meth c (va_A w0 s.heap.size) _ ⟨B.exec, B.bytes, hml, B.returns, atoms_spec (ws := ws) B.pre, findClass_of_methodNamed B.named, B.notSynchronized⟩ hK hP (hD0.self) (fun q h => Or.inr h) va_S.rf (lv_entry av hav)
theorem MW.ofW {Ψ : va_W → Prop} (hy : plainName y.cls = true) (hw : ws = Cond.code y cc maxL ret :: ws') (hav : (lg_sl av).length ≤ maxL)
    (body : ∀ (p : Program) (e : Env) (s : State) (m : MethodId) (below : List Frame) (meth : Method) (c : Code) (A : Nat → Prop) (ls : Array Slot), Cx p s m meth c cc maxL ret ws y.cls av.toArray → va_K D vwCl [(cy, .int)] s → va_P D vwCl w0 s.heap → va_D A w0 → (∀ q, s.heap.size ≤ q → A q) → va_S A s.heap s.heap [] → lv_has ls maxL (lv_args 0 av) → W p l e rm s m av.toArray below meth c s.heap [] 0 0 (MQ below (zQw D cy A Ψ) av.toArray s 0 0 A) (F0 m 0 ls [])) : MW l D cy y ws rm av w0 Ψ := by
  intro sz
  refine Met.ofW hy hw ?_
  intro p e s m args below meth c s₁ B hml hv
  obtain ⟨rfl, hsz, hP, hK, hD0⟩ := hv
  subst hsz
  rw [lg_entry_eq]
  exact body p e s m below meth c (va_A w0 s.heap.size) _ ⟨B.exec, B.bytes, hml, B.returns, atoms_spec (ws := ws) B.pre, findClass_of_methodNamed B.named, B.notSynchronized⟩ hK hP (hD0.self) (fun q h => Or.inr h) va_S.rf (lv_entry av hav)

end ZC3
section ZD3
variable {p : Program} {l : Launch} {e : Env} {R : Room} {s : State} {m : MethodId} {args : Array Value} {below : List Frame} {meth : Method} {c : Code} {H : Heap} {locs : List Loc} {cells slots : Nat} {Q : State → Prop}
variable {cc : ByteArray} {pc nL : Nat} {ls : Array Slot} {D : va_G} {cy : ClassId} {A : Nat → Prop} {H0 : Heap} {rt : Option FieldType} {Ts : List Cond} {own : String}
theorem z_iretR {w1 : va_W} {v : Int} {Ψ : Int → va_W → Prop} (X : Cx p s m meth c cc nL (some .int) Ts own args) (hK : va_K D vwCl [(cy, .int)] s) (hP : va_P D vwCl w1 H) (hD : va_D A w1) (hS : va_S A s.heap H locs) (hdg : decode cc pc = .ok (.ireturn, 1)) (hv : Ψ v w1) : W p l e R s m args below meth c H locs 0 0 (MQ below (zQr D cy A Ψ) args s 0 0 A) (F0 m pc ls [.int (iI v)]) := by
  obtain ⟨hx, hb, hml, hr, hts, hown, hlocks⟩ := X
  exact W.iret hx hb hr (fun t ht hW => ⟨⟨iI v, w1, rfl, ⟨v, rfl, hv⟩, by rw [ht]; exact hP, va_K.moved hW.alike hK, hD⟩, hS.F ht⟩) hS.2.2 hdg
theorem z_vretR {w1 : va_W} {Ψ : va_W → Prop} (X : Cx p s m meth c cc nL none Ts own args) (hK : va_K D vwCl [(cy, .int)] s) (hP : va_P D vwCl w1 H) (hD : va_D A w1) (hS : va_S A s.heap H locs) (hdg : decode cc pc = .ok (.return_, 1)) (hv : Ψ w1) : W p l e R s m args below meth c H locs 0 0 (MQ below (zQw D cy A Ψ) args s 0 0 A) (F0 m pc ls []) := by
  obtain ⟨hx, hb, hml, hr, hts, hown, hlocks⟩ := X
  exact W.vret hx hb hr (fun t ht hW => ⟨⟨w1, rfl, hv, by rw [ht]; exact hP, va_K.moved hW.alike hK, hD⟩, hS.F ht⟩) hS.2.2 hdg

theorem z_callVr {y : MethodName} {bytes : ByteArray} {maxL n index : Nat} {ret : Option FieldType} {ws ws' : List Cond} {rm : Room} {As rest : List Value} {w0 : va_W} {Ψ : Int → va_W → Prop} {b ci q0 : Nat} {C : String} {fs : List Value} {T : u_T} {N : Nat} (X : Cx p s m meth c cc nL rt Ts own args) (hK : va_K D vwCl [(cy, .int)] s) (hP : va_P D vwCl w0 H) (hD : va_D A w0) (hA : ∀ q, s.heap.size ≤ q → A q) (hS : va_S A s.heap H locs) (hls : ls.size = nL) (hG : GoodIn Ts (wsV own index C y ws)) (hw : ws = Cond.code y bytes maxL ret :: ws') (hrm : rm.cells = 0 ∧ rm.slots = 0) (hd : y.cls = C ∧ y.cls ≠ "java/lang/invoke/MethodHandle" ∧ y.cls ≠ "java/lang/invoke/VarHandle" ∧ (parseMethodDescriptor y.desc).map (fun d => d.parameters.length) = some n) (hR : rm.frames + 1 ≤ R.frames ∧ 8 + (maxL + 11) + rm.locals ≤ R.locals) (hc : vwCl[ci]? = some (C, T, N)) (he : w0[q0]? = some (b, .inr (ci, fs))) (hn : As.length = n) (hroom : (rest.map fun v => v.category).sum ≤ 8) (hcl : cells ≤ R.cells ∧ slots ≤ R.slots) {st : List Value} (hst : st = As.reverse ++ .ref b :: rest) (hdg : decode cc pc = .ok (.invokevirtual index, 3)) (hM : MR l D cy y ws rm (.ref b :: As) w0 Ψ)
    (kk : ∀ (r : Int) (w1 : va_W) (H1 : Heap) (locs1 : List Loc), Ψ r w1 → va_P D vwCl w1 H1 → va_D A w1 → va_S A s.heap H1 locs1 → W p l e R s m args below meth c H1 locs1 cells slots Q (F0 m (pc + 3) ls (.int (iI r) :: rest))) : W p l e R s m args below meth c H locs cells slots Q (F0 m pc ls st) := by
  obtain ⟨hx, hb, hml, hr, hts, hown, hlocks⟩ := X
  subst hst
  have hFc : ∀ q, va_A w0 H.size q → A q := by
    intro q h
    rcases h with ⟨k, e, h⟩ | h
    · exact hD.2 k (q, e) h
    · exact hA q (Nat.le_trans hS.1 h)
  refine va_calli (va_runV (As := As) (rest := rest) ⟨hx, hb, hml, hown, hts⟩ (hM H.size) (cwV n hts hG hw hrm.1 hrm.2 hd hR) ⟨zP_blind, va_recv (q0 := q0) hK hP hc he, fun U hU hW => ⟨rfl, by rw [hU], by rw [hU]; exact hP, va_K.moved hW.alike hK, hD.weaken (fun _ _ _ _ => trivial)⟩⟩ rfl hn hls rfl (lv_room hroom) hdg hcl) hS (fun q _ h => hFc q h) hFc ?_
  intro x9 u t H1 locs1 ht hvm hw9 hB hz1 hk1 hS1
  obtain ⟨hP1, hK1, hD1⟩ := hB
  rw [ht] at hP1
  obtain ⟨r, rfl, hΨ⟩ := hw9
  exact kk r u H1 locs1 hΨ hP1 (hD1.weaken (fun k q _ h => hFc q.1 h)) hS1

theorem z_callVw {y : MethodName} {bytes : ByteArray} {maxL n index : Nat} {ret : Option FieldType} {ws ws' : List Cond} {rm : Room} {As rest : List Value} {w0 : va_W} {Ψ : va_W → Prop} {b ci q0 : Nat} {C : String} {fs : List Value} {T : u_T} {N : Nat} (X : Cx p s m meth c cc nL rt Ts own args) (hK : va_K D vwCl [(cy, .int)] s) (hP : va_P D vwCl w0 H) (hD : va_D A w0) (hA : ∀ q, s.heap.size ≤ q → A q) (hS : va_S A s.heap H locs) (hls : ls.size = nL) (hG : GoodIn Ts (wsV own index C y ws)) (hw : ws = Cond.code y bytes maxL ret :: ws') (hrm : rm.cells = 0 ∧ rm.slots = 0) (hd : y.cls = C ∧ y.cls ≠ "java/lang/invoke/MethodHandle" ∧ y.cls ≠ "java/lang/invoke/VarHandle" ∧ (parseMethodDescriptor y.desc).map (fun d => d.parameters.length) = some n) (hR : rm.frames + 1 ≤ R.frames ∧ 8 + (maxL + 11) + rm.locals ≤ R.locals) (hc : vwCl[ci]? = some (C, T, N)) (he : w0[q0]? = some (b, .inr (ci, fs))) (hn : As.length = n) (hroom : (rest.map fun v => v.category).sum ≤ 8) (hcl : cells ≤ R.cells ∧ slots ≤ R.slots) {st : List Value} (hst : st = As.reverse ++ .ref b :: rest) (hdg : decode cc pc = .ok (.invokevirtual index, 3)) (hM : MW l D cy y ws rm (.ref b :: As) w0 Ψ)
    (kk : ∀ (w1 : va_W) (H1 : Heap) (locs1 : List Loc), Ψ w1 → va_P D vwCl w1 H1 → va_D A w1 → va_S A s.heap H1 locs1 → W p l e R s m args below meth c H1 locs1 cells slots Q (F0 m (pc + 3) ls (rest))) : W p l e R s m args below meth c H locs cells slots Q (F0 m pc ls st) := by
  obtain ⟨hx, hb, hml, hr, hts, hown, hlocks⟩ := X
  subst hst
  have hFc : ∀ q, va_A w0 H.size q → A q := by
    intro q h
    rcases h with ⟨k, e, h⟩ | h
    · exact hD.2 k (q, e) h
    · exact hA q (Nat.le_trans hS.1 h)
  refine va_callv (va_runV (As := As) (rest := rest) ⟨hx, hb, hml, hown, hts⟩ (hM H.size) (cwV n hts hG hw hrm.1 hrm.2 hd hR) ⟨zP_blind, va_recv (q0 := q0) hK hP hc he, fun U hU hW => ⟨rfl, by rw [hU], by rw [hU]; exact hP, va_K.moved hW.alike hK, hD.weaken (fun _ _ _ _ => trivial)⟩⟩ rfl hn hls rfl (lv_room hroom) hdg hcl) hS (fun q _ h => hFc q h) hFc ?_
  intro u t H1 locs1 ht hvm hw9 hB hz1 hk1 hS1
  obtain ⟨hP1, hK1, hD1⟩ := hB
  rw [ht] at hP1
  have hΨ := hw9
  exact kk u H1 locs1 hΨ hP1 (hD1.weaken (fun k q _ h => hFc q.1 h)) hS1

end ZD3
end
section
variable {l : Launch} {D : va_G} {cy : ClassId} {q : Nat → Nat} {nK sc pi re bk ss sm pf mf th lo : Int} {st le be te ab bl ka bg ln ns me pa lz go co bs gr : Int → Int}
theorem hd_X5_within : yX5_within.cls ≠ "java/lang/invoke/MethodHandle" ∧ yX5_within.cls ≠ "java/lang/invoke/VarHandle" ∧ (parseMethodDescriptor yX5_within.desc).map (fun d => d.parameters.length) = some 3 := by decide +kernel
set_option maxHeartbeats 4000000 in
set_option maxRecDepth 100000 in
theorem c_X5_within (v : Int) (lo1 : Int) (hi1 : Int) (h : -2147483648 ≤ v ∧ v ≤ 2147483647 ∧ -2147483648 ≤ lo1 ∧ lo1 ≤ 2147483647 ∧ -2147483648 ≤ hi1 ∧ hi1 ≤ 2147483647) : MI l D cy yX5_within wsX5_within ({ frames := 0, cells := 0, slots := 0, locals := 0 } : Room) [.int (iI v), .int (iI lo1), .int (iI hi1)] (wT q cy nK st le be te ab bl ka bg ln ns me sc pi re bk pa lz go ss sm pf mf) (bP (lo1 ≤ v ∧ v ≤ hi1)) (wT q cy nK st le be te ab bl ka bg ln ns me sc pi re bk pa lz go ss sm pf mf) := by
  refine MI.ofW (cc := cX5_within) (maxL := 3) (ret := (some .boolean)) (by decide) rfl (Nat.le_of_ble_eq_true rfl) ?_
  intro p e s m below meth c A ls X hK hP hD hA hS hl
  obtain ⟨hx, hb, hml, hr, hts, hown, hlocks⟩ := id X
  have hl : lv_has ls 3 [(0, .int (iI v)), (1, .int (iI lo1)), (2, .int (iI hi1))] := hl
  refine lv_iload_n hx hb dX5_within_0 rfl (lv_at hl 1 rfl) ?_
  refine lv_iload_n hx hb dX5_within_1 rfl (lv_at hl 0 rfl) ?_
  refine z_icmp_gt (tgt := 14) hx hb dX5_within_2 (by decide) (by omega) (fun c_1 => ?_) (fun c_1 => ?_)
  · refine lv_iconst (v := iI (0)) hx hb dX5_within_14 rfl ?_
    exact z_pret0 X hK hP hD hS dX5_within_15 (by first | rfl | omega | grind)
  · refine lv_iload_n hx hb dX5_within_5 rfl (lv_at hl 0 rfl) ?_
    refine lv_iload_n hx hb dX5_within_6 rfl (lv_at hl 2 rfl) ?_
    refine z_icmp_gt (tgt := 14) hx hb dX5_within_7 (by decide) (by omega) (fun c_2 => ?_) (fun c_2 => ?_)
    · refine lv_iconst (v := iI (0)) hx hb dX5_within_14 rfl ?_
      exact z_pret0 X hK hP hD hS dX5_within_15 (by first | rfl | omega | grind)
    · refine lv_iconst (v := iI (1)) hx hb dX5_within_10 rfl ?_
      refine lv_goto (tgt := 15) hx hb dX5_within_11 (by decide) ?_
      exact z_pret1 X hK hP hD hS dX5_within_15 (by first | rfl | omega | grind)

theorem hd_X5_isString : yX5_isString.cls ≠ "java/lang/invoke/MethodHandle" ∧ yX5_isString.cls ≠ "java/lang/invoke/VarHandle" ∧ (parseMethodDescriptor yX5_isString.desc).map (fun d => d.parameters.length) = some 1 := by decide +kernel
set_option maxHeartbeats 4000000 in
set_option maxRecDepth 100000 in
theorem c_X5_isString (v : Int) (h : -2147483648 ≤ v ∧ v ≤ 2147483647) : MI l D cy yX5_isString wsX5_isString ({ frames := 1, cells := 0, slots := 0, locals := 22 } : Room) [.int (iI v)] (wT q cy nK st le be te ab bl ka bg ln ns me sc pi re bk pa lz go ss sm pf mf) (bP (0 ≤ v ∧ v ≤ 23)) (wT q cy nK st le be te ab bl ka bg ln ns me sc pi re bk pa lz go ss sm pf mf) := by
  refine MI.ofW (cc := cX5_isString) (maxL := 1) (ret := (some .boolean)) (by decide) rfl (Nat.le_of_ble_eq_true rfl) ?_
  intro p e s m below meth c A ls X hK hP hD hA hS hl
  obtain ⟨hx, hb, hml, hr, hts, hown, hlocks⟩ := id X
  have hl : lv_has ls 1 [(0, .int (iI v))] := hl
  refine lv_iload_n hx hb dX5_isString_0 rfl (lv_at hl 0 rfl) ?_
  refine lv_iconst (v := iI (0)) hx hb dX5_isString_1 rfl ?_
  refine lv_bipush (v := iI (23)) hx hb dX5_isString_2 (by decide) ?_
  refine z_callSi (As := [.int (iI v), .int (iI 0), .int (iI 23)]) (rest := []) X hK hP hD hA hS hl.1 gX5_isString_X5_within rfl ⟨rfl, rfl⟩ hd_X5_within ⟨Nat.le_of_ble_eq_true rfl, Nat.le_of_ble_eq_true rfl⟩ rfl (Nat.le_of_ble_eq_true rfl) ⟨Nat.zero_le _, Nat.zero_le _⟩ rfl dX5_isString_4 (c_X5_within v 0 23 (by omega)) (fun H locs hP hD hS => ?_)
  exact z_pretp X hK hP hD hS dX5_isString_7 (Iff.rfl)

theorem hd_X5_isScale : yX5_isScale.cls ≠ "java/lang/invoke/MethodHandle" ∧ yX5_isScale.cls ≠ "java/lang/invoke/VarHandle" ∧ (parseMethodDescriptor yX5_isScale.desc).map (fun d => d.parameters.length) = some 1 := by decide +kernel
set_option maxHeartbeats 4000000 in
set_option maxRecDepth 100000 in
theorem c_X5_isScale (v : Int) (h : -2147483648 ≤ v ∧ v ≤ 2147483647) : MI l D cy yX5_isScale wsX5_isScale ({ frames := 1, cells := 0, slots := 0, locals := 22 } : Room) [.int (iI v)] (wT q cy nK st le be te ab bl ka bg ln ns me sc pi re bk pa lz go ss sm pf mf) (bP (0 ≤ v ∧ v ≤ 4)) (wT q cy nK st le be te ab bl ka bg ln ns me sc pi re bk pa lz go ss sm pf mf) := by
  refine MI.ofW (cc := cX5_isScale) (maxL := 1) (ret := (some .boolean)) (by decide) rfl (Nat.le_of_ble_eq_true rfl) ?_
  intro p e s m below meth c A ls X hK hP hD hA hS hl
  obtain ⟨hx, hb, hml, hr, hts, hown, hlocks⟩ := id X
  have hl : lv_has ls 1 [(0, .int (iI v))] := hl
  refine lv_iload_n hx hb dX5_isScale_0 rfl (lv_at hl 0 rfl) ?_
  refine lv_iconst (v := iI (0)) hx hb dX5_isScale_1 rfl ?_
  refine lv_iconst (v := iI (4)) hx hb dX5_isScale_2 rfl ?_
  refine z_callSi (As := [.int (iI v), .int (iI 0), .int (iI 4)]) (rest := []) X hK hP hD hA hS hl.1 gX5_isScale_X5_within rfl ⟨rfl, rfl⟩ hd_X5_within ⟨Nat.le_of_ble_eq_true rfl, Nat.le_of_ble_eq_true rfl⟩ rfl (Nat.le_of_ble_eq_true rfl) ⟨Nat.zero_le _, Nat.zero_le _⟩ rfl dX5_isScale_3 (c_X5_within v 0 4 (by omega)) (fun H locs hP hD hS => ?_)
  exact z_pretp X hK hP hD hS dX5_isScale_6 (Iff.rfl)

theorem hd_X5_isStep : yX5_isStep.cls ≠ "java/lang/invoke/MethodHandle" ∧ yX5_isStep.cls ≠ "java/lang/invoke/VarHandle" ∧ (parseMethodDescriptor yX5_isStep.desc).map (fun d => d.parameters.length) = some 1 := by decide +kernel
set_option maxHeartbeats 4000000 in
set_option maxRecDepth 100000 in
theorem c_X5_isStep (v : Int) (h : -2147483648 ≤ v ∧ v ≤ 2147483647) : MI l D cy yX5_isStep wsX5_isStep ({ frames := 1, cells := 0, slots := 0, locals := 22 } : Room) [.int (iI v)] (wT q cy nK st le be te ab bl ka bg ln ns me sc pi re bk pa lz go ss sm pf mf) (bP (0 ≤ v ∧ v ≤ 11)) (wT q cy nK st le be te ab bl ka bg ln ns me sc pi re bk pa lz go ss sm pf mf) := by
  refine MI.ofW (cc := cX5_isStep) (maxL := 1) (ret := (some .boolean)) (by decide) rfl (Nat.le_of_ble_eq_true rfl) ?_
  intro p e s m below meth c A ls X hK hP hD hA hS hl
  obtain ⟨hx, hb, hml, hr, hts, hown, hlocks⟩ := id X
  have hl : lv_has ls 1 [(0, .int (iI v))] := hl
  refine lv_iload_n hx hb dX5_isStep_0 rfl (lv_at hl 0 rfl) ?_
  refine lv_iconst (v := iI (0)) hx hb dX5_isStep_1 rfl ?_
  refine lv_bipush (v := iI (11)) hx hb dX5_isStep_2 (by decide) ?_
  refine z_callSi (As := [.int (iI v), .int (iI 0), .int (iI 11)]) (rest := []) X hK hP hD hA hS hl.1 gX5_isStep_X5_within rfl ⟨rfl, rfl⟩ hd_X5_within ⟨Nat.le_of_ble_eq_true rfl, Nat.le_of_ble_eq_true rfl⟩ rfl (Nat.le_of_ble_eq_true rfl) ⟨Nat.zero_le _, Nat.zero_le _⟩ rfl dX5_isStep_4 (c_X5_within v 0 11 (by omega)) (fun H locs hP hD hS => ?_)
  exact z_pretp X hK hP hD hS dX5_isStep_7 (Iff.rfl)

theorem hd_X5_isPiece : yX5_isPiece.cls ≠ "java/lang/invoke/MethodHandle" ∧ yX5_isPiece.cls ≠ "java/lang/invoke/VarHandle" ∧ (parseMethodDescriptor yX5_isPiece.desc).map (fun d => d.parameters.length) = some 1 := by decide +kernel
set_option maxHeartbeats 4000000 in
set_option maxRecDepth 100000 in
theorem c_X5_isPiece (v : Int) (h : -2147483648 ≤ v ∧ v ≤ 2147483647) : MI l D cy yX5_isPiece wsX5_isPiece ({ frames := 1, cells := 0, slots := 0, locals := 22 } : Room) [.int (iI v)] (wT q cy nK st le be te ab bl ka bg ln ns me sc pi re bk pa lz go ss sm pf mf) (bP (0 ≤ v ∧ v ≤ 3)) (wT q cy nK st le be te ab bl ka bg ln ns me sc pi re bk pa lz go ss sm pf mf) := by
  refine MI.ofW (cc := cX5_isPiece) (maxL := 1) (ret := (some .boolean)) (by decide) rfl (Nat.le_of_ble_eq_true rfl) ?_
  intro p e s m below meth c A ls X hK hP hD hA hS hl
  obtain ⟨hx, hb, hml, hr, hts, hown, hlocks⟩ := id X
  have hl : lv_has ls 1 [(0, .int (iI v))] := hl
  refine lv_iload_n hx hb dX5_isPiece_0 rfl (lv_at hl 0 rfl) ?_
  refine lv_iconst (v := iI (0)) hx hb dX5_isPiece_1 rfl ?_
  refine lv_iconst (v := iI (3)) hx hb dX5_isPiece_2 rfl ?_
  refine z_callSi (As := [.int (iI v), .int (iI 0), .int (iI 3)]) (rest := []) X hK hP hD hA hS hl.1 gX5_isPiece_X5_within rfl ⟨rfl, rfl⟩ hd_X5_within ⟨Nat.le_of_ble_eq_true rfl, Nat.le_of_ble_eq_true rfl⟩ rfl (Nat.le_of_ble_eq_true rfl) ⟨Nat.zero_le _, Nat.zero_le _⟩ rfl dX5_isPiece_3 (c_X5_within v 0 3 (by omega)) (fun H locs hP hD hS => ?_)
  exact z_pretp X hK hP hD hS dX5_isPiece_6 (Iff.rfl)

theorem hd_X5_isPitch : yX5_isPitch.cls ≠ "java/lang/invoke/MethodHandle" ∧ yX5_isPitch.cls ≠ "java/lang/invoke/VarHandle" ∧ (parseMethodDescriptor yX5_isPitch.desc).map (fun d => d.parameters.length) = some 1 := by decide +kernel
set_option maxHeartbeats 4000000 in
set_option maxRecDepth 100000 in
theorem c_X5_isPitch (v : Int) (h : -2147483648 ≤ v ∧ v ≤ 2147483647) : MI l D cy yX5_isPitch wsX5_isPitch ({ frames := 1, cells := 0, slots := 0, locals := 22 } : Room) [.int (iI v)] (wT q cy nK st le be te ab bl ka bg ln ns me sc pi re bk pa lz go ss sm pf mf) (bP (1000 ≤ v ∧ v ≤ 200000)) (wT q cy nK st le be te ab bl ka bg ln ns me sc pi re bk pa lz go ss sm pf mf) := by
  refine MI.ofW (cc := cX5_isPitch) (maxL := 1) (ret := (some .boolean)) (by decide) rfl (Nat.le_of_ble_eq_true rfl) ?_
  intro p e s m below meth c A ls X hK hP hD hA hS hl
  obtain ⟨hx, hb, hml, hr, hts, hown, hlocks⟩ := id X
  have hl : lv_has ls 1 [(0, .int (iI v))] := hl
  have k_264 := hts (Cond.constant RX5 264 (200000)) (by decide +kernel)
  refine lv_iload_n hx hb dX5_isPitch_0 rfl (lv_at hl 0 rfl) ?_
  refine lv_sipush (v := iI (1000)) hx hb dX5_isPitch_1 (by decide) ?_
  refine z_ldcw (n := 200000) hx hb hown k_264 (by decide) dX5_isPitch_4 ?_
  refine z_callSi (As := [.int (iI v), .int (iI 1000), .int (iI 200000)]) (rest := []) X hK hP hD hA hS hl.1 gX5_isPitch_X5_within rfl ⟨rfl, rfl⟩ hd_X5_within ⟨Nat.le_of_ble_eq_true rfl, Nat.le_of_ble_eq_true rfl⟩ rfl (Nat.le_of_ble_eq_true rfl) ⟨Nat.zero_le _, Nat.zero_le _⟩ rfl dX5_isPitch_7 (c_X5_within v 1000 200000 (by omega)) (fun H locs hP hD hS => ?_)
  exact z_pretp X hK hP hD hS dX5_isPitch_10 (Iff.rfl)

theorem hd_X5_isMost : yX5_isMost.cls ≠ "java/lang/invoke/MethodHandle" ∧ yX5_isMost.cls ≠ "java/lang/invoke/VarHandle" ∧ (parseMethodDescriptor yX5_isMost.desc).map (fun d => d.parameters.length) = some 1 := by decide +kernel
set_option maxHeartbeats 4000000 in
set_option maxRecDepth 100000 in
theorem c_X5_isMost (v : Int) (h : -2147483648 ≤ v ∧ v ≤ 2147483647) : MI l D cy yX5_isMost wsX5_isMost ({ frames := 1, cells := 0, slots := 0, locals := 22 } : Room) [.int (iI v)] (wT q cy nK st le be te ab bl ka bg ln ns me sc pi re bk pa lz go ss sm pf mf) (bP (1 ≤ v ∧ v ≤ 6)) (wT q cy nK st le be te ab bl ka bg ln ns me sc pi re bk pa lz go ss sm pf mf) := by
  refine MI.ofW (cc := cX5_isMost) (maxL := 1) (ret := (some .boolean)) (by decide) rfl (Nat.le_of_ble_eq_true rfl) ?_
  intro p e s m below meth c A ls X hK hP hD hA hS hl
  obtain ⟨hx, hb, hml, hr, hts, hown, hlocks⟩ := id X
  have hl : lv_has ls 1 [(0, .int (iI v))] := hl
  refine lv_iload_n hx hb dX5_isMost_0 rfl (lv_at hl 0 rfl) ?_
  refine lv_iconst (v := iI (1)) hx hb dX5_isMost_1 rfl ?_
  refine lv_bipush (v := iI (6)) hx hb dX5_isMost_2 (by decide) ?_
  refine z_callSi (As := [.int (iI v), .int (iI 1), .int (iI 6)]) (rest := []) X hK hP hD hA hS hl.1 gX5_isMost_X5_within rfl ⟨rfl, rfl⟩ hd_X5_within ⟨Nat.le_of_ble_eq_true rfl, Nat.le_of_ble_eq_true rfl⟩ rfl (Nat.le_of_ble_eq_true rfl) ⟨Nat.zero_le _, Nat.zero_le _⟩ rfl dX5_isMost_4 (c_X5_within v 1 6 (by omega)) (fun H locs hP hD hS => ?_)
  exact z_pretp X hK hP hD hS dX5_isMost_7 (Iff.rfl)

theorem hd_X5_asNumber : yX5_asNumber.cls ≠ "java/lang/invoke/MethodHandle" ∧ yX5_asNumber.cls ≠ "java/lang/invoke/VarHandle" ∧ (parseMethodDescriptor yX5_asNumber.desc).map (fun d => d.parameters.length) = some 1 := by decide +kernel
set_option maxHeartbeats 4000000 in
set_option maxRecDepth 100000 in
theorem c_X5_asNumber (z : Int) (h : 0 ≤ z ∧ z ≤ 1) : MI l D cy yX5_asNumber wsX5_asNumber ({ frames := 0, cells := 0, slots := 0, locals := 0 } : Room) [.int (iI z)] (wT q cy nK st le be te ab bl ka bg ln ns me sc pi re bk pa lz go ss sm pf mf) z (wT q cy nK st le be te ab bl ka bg ln ns me sc pi re bk pa lz go ss sm pf mf) := by
  refine MI.ofW (cc := cX5_asNumber) (maxL := 1) (ret := (some .int)) (by decide) rfl (Nat.le_of_ble_eq_true rfl) ?_
  intro p e s m below meth c A ls X hK hP hD hA hS hl
  obtain ⟨hx, hb, hml, hr, hts, hown, hlocks⟩ := id X
  have hl : lv_has ls 1 [(0, .int (iI z))] := hl
  refine lv_iload_n hx hb dX5_asNumber_0 rfl (lv_at hl 0 rfl) ?_
  refine z_if_eq (tgt := 8) hx hb dX5_asNumber_1 (by decide) (by omega) (fun c_1 => ?_) (fun c_1 => ?_)
  · refine lv_iconst (v := iI (0)) hx hb dX5_asNumber_8 rfl ?_
    exact z_iret X hK hP hD hS dX5_asNumber_9 (by first | rfl | omega | grind)
  · refine lv_iconst (v := iI (1)) hx hb dX5_asNumber_4 rfl ?_
    refine lv_goto (tgt := 9) hx hb dX5_asNumber_5 (by decide) ?_
    exact z_iret X hK hP hD hS dX5_asNumber_9 (by first | rfl | omega | grind)

theorem hd_X0_has : yX0_has.cls = RX0 ∧ yX0_has.cls ≠ "java/lang/invoke/MethodHandle" ∧ yX0_has.cls ≠ "java/lang/invoke/VarHandle" ∧ (parseMethodDescriptor yX0_has.desc).map (fun d => d.parameters.length) = some 1 := by decide +kernel
set_option maxHeartbeats 4000000 in
set_option maxRecDepth 100000 in
theorem c_X0_has (I : okS nK st le be te ab bl ka bg ln ns me sc pi re bk) (k : Int) (h : -2147483648 ≤ k ∧ k ≤ 2147483647) : MI l D cy yX0_has wsX0_has ({ frames := 0, cells := 0, slots := 0, locals := 0 } : Room) [.ref (q 1), .int (iI k)] (wT q cy nK st le be te ab bl ka bg ln ns me sc pi re bk pa lz go ss sm pf mf) (bP (0 ≤ k ∧ k < nK)) (wT q cy nK st le be te ab bl ka bg ln ns me sc pi re bk pa lz go ss sm pf mf) := by
  refine MI.ofW (cc := cX0_has) (maxL := 2) (ret := (some .boolean)) (by decide) rfl (Nat.le_of_ble_eq_true rfl) ?_
  intro p e s m below meth c A ls X hK hP hD hA hS hl
  obtain ⟨hx, hb, hml, hr, hts, hown, hlocks⟩ := id X
  have hl : lv_has ls 2 [(0, .ref (q 1)), (1, .int (iI k))] := hl
  have f_9 := hts (Cond.fieldLink RX0 9 "TwoKeys$Board" "size" "I") (by decide +kernel)
  have n_X0 : ∀ w ∈ u_ws RX0 TX0 5, w ∈ wsX0_has := by decide +kernel
  have iK := I.nK
  refine lv_iconst (v := iI (0)) hx hb dX0_has_0 rfl ?_
  refine lv_iload_n hx hb dX0_has_1 rfl (lv_at hl 1 rfl) ?_
  refine z_icmp_gt (tgt := 17) hx hb dX0_has_2 (by decide) (by omega) (fun c_1 => ?_) (fun c_1 => ?_)
  · refine lv_iconst (v := iI (0)) hx hb dX0_has_17 rfl ?_
    exact z_pret0 X hK hP hD hS dX0_has_18 (by first | rfl | omega | grind)
  · refine lv_iload_n hx hb dX0_has_5 rfl (lv_at hl 1 rfl) ?_
    refine lv_aload_n hx hb dX0_has_6 rfl (lv_at hl 0 rfl) ?_
    refine va_get (D := D) (ci := 0) (v := .int (iI nK)) (C := RX0) (T := TX0) (N := 5) hx hb hts n_X0 hown hK hP 1 rfl rfl 0 (by decide) f_9 (fun _ h9 => h9) rfl dX0_has_7 ?_
    refine z_icmp_ge (tgt := 17) hx hb dX0_has_10 (by decide) (by omega) (fun c_2 => ?_) (fun c_2 => ?_)
    · refine lv_iconst (v := iI (0)) hx hb dX0_has_17 rfl ?_
      exact z_pret0 X hK hP hD hS dX0_has_18 (by first | rfl | omega | grind)
    · refine lv_iconst (v := iI (1)) hx hb dX0_has_13 rfl ?_
      refine lv_goto (tgt := 18) hx hb dX0_has_14 (by decide) ?_
      exact z_pret1 X hK hP hD hS dX0_has_18 (by first | rfl | omega | grind)

theorem hd_X0_soundingLength : yX0_soundingLength.cls = RX0 ∧ yX0_soundingLength.cls ≠ "java/lang/invoke/MethodHandle" ∧ yX0_soundingLength.cls ≠ "java/lang/invoke/VarHandle" ∧ (parseMethodDescriptor yX0_soundingLength.desc).map (fun d => d.parameters.length) = some 1 := by decide +kernel
set_option maxHeartbeats 4000000 in
set_option maxRecDepth 100000 in
theorem c_X0_soundingLength (I : okS nK st le be te ab bl ka bg ln ns me sc pi re bk) (k : Int) (h : 0 ≤ k ∧ k < 24) : MI l D cy yX0_soundingLength wsX0_soundingLength ({ frames := 0, cells := 0, slots := 0, locals := 0 } : Room) [.ref (q 1), .int (iI k)] (wT q cy nK st le be te ab bl ka bg ln ns me sc pi re bk pa lz go ss sm pf mf) (le k + be k) (wT q cy nK st le be te ab bl ka bg ln ns me sc pi re bk pa lz go ss sm pf mf) := by
  refine MI.ofW (cc := cX0_soundingLength) (maxL := 2) (ret := (some .int)) (by decide) rfl (Nat.le_of_ble_eq_true rfl) ?_
  intro p e s m below meth c A ls X hK hP hD hA hS hl
  obtain ⟨hx, hb, hml, hr, hts, hown, hlocks⟩ := id X
  have hl : lv_has ls 2 [(0, .ref (q 1)), (1, .int (iI k))] := hl
  have f_19 := hts (Cond.fieldLink RX0 19 "TwoKeys$Board" "lengths" "[I") (by decide +kernel)
  have f_22 := hts (Cond.fieldLink RX0 22 "TwoKeys$Board" "bends" "[I") (by decide +kernel)
  have n_X0 : ∀ w ∈ u_ws RX0 TX0 5, w ∈ wsX0_soundingLength := by decide +kernel
  have iK := I.nK
  refine lv_aload_n hx hb dX0_soundingLength_0 rfl (lv_at hl 0 rfl) ?_
  refine va_get (D := D) (ci := 0) (v := .ref (q 3)) (C := RX0) (T := TX0) (N := 5) hx hb hts n_X0 hown hK hP 1 rfl rfl 2 (by decide) f_19 (fun _ h9 => h9) rfl dX0_soundingLength_1 ?_
  refine lv_iload_n hx hb dX0_soundingLength_4 rfl (lv_at hl 1 rfl) ?_
  refine z_iald hx hb hK hP 3 0 rfl rfl (by omega) dX0_soundingLength_5 ?_
  have b_1 := I.le k
  refine lv_aload_n hx hb dX0_soundingLength_6 rfl (lv_at hl 0 rfl) ?_
  refine va_get (D := D) (ci := 0) (v := .ref (q 4)) (C := RX0) (T := TX0) (N := 5) hx hb hts n_X0 hown hK hP 1 rfl rfl 3 (by decide) f_22 (fun _ h9 => h9) rfl dX0_soundingLength_7 ?_
  refine lv_iload_n hx hb dX0_soundingLength_10 rfl (lv_at hl 1 rfl) ?_
  refine z_iald hx hb hK hP 4 0 rfl rfl (by omega) dX0_soundingLength_11 ?_
  have b_2 := I.be k
  refine z_iadd hx hb dX0_soundingLength_12 ?_
  exact z_iret X hK hP hD hS dX0_soundingLength_13 (by first | rfl | omega | grind)

theorem hd_X0_toneBent : yX0_toneBent.cls = RX0 ∧ yX0_toneBent.cls ≠ "java/lang/invoke/MethodHandle" ∧ yX0_toneBent.cls ≠ "java/lang/invoke/VarHandle" ∧ (parseMethodDescriptor yX0_toneBent.desc).map (fun d => d.parameters.length) = some 2 := by decide +kernel
set_option maxHeartbeats 4000000 in
set_option maxRecDepth 100000 in
theorem c_X0_toneBent (I : okS nK st le be te ab bl ka bg ln ns me sc pi re bk) (k : Int) (b : Int) (h : 0 ≤ k ∧ k < 24) (h2 : -40 ≤ b ∧ b ≤ 40) : MI l D cy yX0_toneBent wsX0_toneBent ({ frames := 0, cells := 0, slots := 0, locals := 0 } : Room) [.ref (q 1), .int (iI k), .int (iI b)] (wT q cy nK st le be te ab bl ka bg ln ns me sc pi re bk pa lz go ss sm pf mf) (te (st k) * 10000 / (le k + b)) (wT q cy nK st le be te ab bl ka bg ln ns me sc pi re bk pa lz go ss sm pf mf) := by
  refine MI.ofW (cc := cX0_toneBent) (maxL := 4) (ret := (some .int)) (by decide) rfl (Nat.le_of_ble_eq_true rfl) ?_
  intro p e s m below meth c A ls X hK hP hD hA hS hl
  obtain ⟨hx, hb, hml, hr, hts, hown, hlocks⟩ := id X
  have hl : lv_has ls 4 [(0, .ref (q 1)), (1, .int (iI k)), (2, .int (iI b))] := hl
  have f_19 := hts (Cond.fieldLink RX0 19 "TwoKeys$Board" "lengths" "[I") (by decide +kernel)
  have f_25 := hts (Cond.fieldLink RX0 25 "TwoKeys$Board" "tensions" "[I") (by decide +kernel)
  have f_15 := hts (Cond.fieldLink RX0 15 "TwoKeys$Board" "struck" "[I") (by decide +kernel)
  have n_X0 : ∀ w ∈ u_ws RX0 TX0 5, w ∈ wsX0_toneBent := by decide +kernel
  have iK := I.nK
  refine lv_aload_n hx hb dX0_toneBent_0 rfl (lv_at hl 0 rfl) ?_
  refine va_get (D := D) (ci := 0) (v := .ref (q 3)) (C := RX0) (T := TX0) (N := 5) hx hb hts n_X0 hown hK hP 1 rfl rfl 2 (by decide) f_19 (fun _ h9 => h9) rfl dX0_toneBent_1 ?_
  refine lv_iload_n hx hb dX0_toneBent_4 rfl (lv_at hl 1 rfl) ?_
  refine z_iald hx hb hK hP 3 0 rfl rfl (by omega) dX0_toneBent_5 ?_
  have b_1 := I.le k
  refine lv_iload_n hx hb dX0_toneBent_6 rfl (lv_at hl 2 rfl) ?_
  refine z_iadd hx hb dX0_toneBent_7 ?_
  refine lv_istore_n (lv' := [(3, .int (iI ((le k) + b))), (0, .ref (q 1)), (1, .int (iI k)), (2, .int (iI b))]) hx hb dX0_toneBent_8 rfl hl (by decide) rfl (fun ls hl => ?_)
  refine lv_iload_n hx hb dX0_toneBent_9 rfl (lv_at hl 0 rfl) ?_
  refine lv_iconst (v := iI (1)) hx hb dX0_toneBent_10 rfl ?_
  refine z_icmp_ge (tgt := 18) hx hb dX0_toneBent_11 (by decide) (by omega) (fun c_2 => ?_) (fun c_2 => ?_)
  · refine lv_aload_n hx hb dX0_toneBent_18 rfl (lv_at hl 1 rfl) ?_
    refine va_get (D := D) (ci := 0) (v := .ref (q 5)) (C := RX0) (T := TX0) (N := 5) hx hb hts n_X0 hown hK hP 1 rfl rfl 4 (by decide) f_25 (fun _ h9 => h9) rfl dX0_toneBent_19 ?_
    refine lv_aload_n hx hb dX0_toneBent_22 rfl (lv_at hl 1 rfl) ?_
    refine va_get (D := D) (ci := 0) (v := .ref (q 2)) (C := RX0) (T := TX0) (N := 5) hx hb hts n_X0 hown hK hP 1 rfl rfl 1 (by decide) f_15 (fun _ h9 => h9) rfl dX0_toneBent_23 ?_
    refine lv_iload_n hx hb dX0_toneBent_26 rfl (lv_at hl 2 rfl) ?_
    refine z_iald hx hb hK hP 2 0 rfl rfl (by omega) dX0_toneBent_27 ?_
    have b_3 := I.st k
    refine z_iald hx hb hK hP 5 0 rfl rfl (by omega) dX0_toneBent_28 ?_
    have b_4 := I.te (st k)
    refine lv_sipush (v := iI (10000)) hx hb dX0_toneBent_29 (by decide) ?_
    refine z_imul hx hb dX0_toneBent_32 ?_
    refine lv_iload_n hx hb dX0_toneBent_33 rfl (lv_at hl 0 rfl) ?_
    refine z_idiv hx hb dX0_toneBent_34 (by omega) ?_
    exact z_iret X hK hP hD hS dX0_toneBent_35 (by first | rfl | omega | grind)
  · refine lv_iconst (v := iI (0)) hx hb dX0_toneBent_14 rfl ?_
    refine lv_goto (tgt := 35) hx hb dX0_toneBent_15 (by decide) ?_
    exact z_iret X hK hP hD hS dX0_toneBent_35 (by first | rfl | omega | grind)

theorem hd_X0_toneOf : yX0_toneOf.cls = RX0 ∧ yX0_toneOf.cls ≠ "java/lang/invoke/MethodHandle" ∧ yX0_toneOf.cls ≠ "java/lang/invoke/VarHandle" ∧ (parseMethodDescriptor yX0_toneOf.desc).map (fun d => d.parameters.length) = some 1 := by decide +kernel
set_option maxHeartbeats 4000000 in
set_option maxRecDepth 100000 in
theorem c_X0_toneOf (I : okS nK st le be te ab bl ka bg ln ns me sc pi re bk) (k : Int) (h : 0 ≤ k ∧ k < 24) : MI l D cy yX0_toneOf wsX0_toneOf ({ frames := 1, cells := 0, slots := 0, locals := 23 } : Room) [.ref (q 1), .int (iI k)] (wT q cy nK st le be te ab bl ka bg ln ns me sc pi re bk pa lz go ss sm pf mf) (te (st k) * 10000 / (le k + be k)) (wT q cy nK st le be te ab bl ka bg ln ns me sc pi re bk pa lz go ss sm pf mf) := by
  refine MI.ofW (cc := cX0_toneOf) (maxL := 2) (ret := (some .int)) (by decide) rfl (Nat.le_of_ble_eq_true rfl) ?_
  intro p e s m below meth c A ls X hK hP hD hA hS hl
  obtain ⟨hx, hb, hml, hr, hts, hown, hlocks⟩ := id X
  have hl : lv_has ls 2 [(0, .ref (q 1)), (1, .int (iI k))] := hl
  have f_22 := hts (Cond.fieldLink RX0 22 "TwoKeys$Board" "bends" "[I") (by decide +kernel)
  have n_X0 : ∀ w ∈ u_ws RX0 TX0 5, w ∈ wsX0_toneOf := by decide +kernel
  have iK := I.nK
  refine lv_aload_n hx hb dX0_toneOf_0 rfl (lv_at hl 0 rfl) ?_
  refine lv_iload_n hx hb dX0_toneOf_1 rfl (lv_at hl 1 rfl) ?_
  refine lv_aload_n hx hb dX0_toneOf_2 rfl (lv_at hl 0 rfl) ?_
  refine va_get (D := D) (ci := 0) (v := .ref (q 4)) (C := RX0) (T := TX0) (N := 5) hx hb hts n_X0 hown hK hP 1 rfl rfl 3 (by decide) f_22 (fun _ h9 => h9) rfl dX0_toneOf_3 ?_
  refine lv_iload_n hx hb dX0_toneOf_6 rfl (lv_at hl 1 rfl) ?_
  refine z_iald hx hb hK hP 4 0 rfl rfl (by omega) dX0_toneOf_7 ?_
  have b_1 := I.be k
  refine z_callVi (ci := 0) (q0 := 1) (As := [.int (iI k), .int (iI (be k))]) (rest := []) X hK hP hD hA hS hl.1 gX0_toneOf_X0_toneBent rfl ⟨rfl, rfl⟩ hd_X0_toneBent ⟨Nat.le_of_ble_eq_true rfl, Nat.le_of_ble_eq_true rfl⟩ rfl rfl rfl (Nat.le_of_ble_eq_true rfl) ⟨Nat.zero_le _, Nat.zero_le _⟩ rfl dX0_toneOf_8 (c_X0_toneBent I k (be k) (by omega) (by omega)) (fun H locs hP hD hS => ?_)
  exact z_iret X hK hP hD hS dX0_toneOf_11 (by first | rfl | omega | grind)

theorem hd_X0_strikes : yX0_strikes.cls = RX0 ∧ yX0_strikes.cls ≠ "java/lang/invoke/MethodHandle" ∧ yX0_strikes.cls ≠ "java/lang/invoke/VarHandle" ∧ (parseMethodDescriptor yX0_strikes.desc).map (fun d => d.parameters.length) = some 2 := by decide +kernel
set_option maxHeartbeats 4000000 in
set_option maxRecDepth 100000 in
theorem c_X0_strikes (I : okS nK st le be te ab bl ka bg ln ns me sc pi re bk) (k : Int) (s9 : Int) (h : -2147483648 ≤ k ∧ k ≤ 2147483647 ∧ -2147483648 ≤ s9 ∧ s9 ≤ 2147483647) : MI l D cy yX0_strikes wsX0_strikes ({ frames := 1, cells := 0, slots := 0, locals := 21 } : Room) [.ref (q 1), .int (iI k), .int (iI s9)] (wT q cy nK st le be te ab bl ka bg ln ns me sc pi re bk pa lz go ss sm pf mf) (bP ((0 ≤ k ∧ k < nK) ∧ st k = s9)) (wT q cy nK st le be te ab bl ka bg ln ns me sc pi re bk pa lz go ss sm pf mf) := by
  refine MI.ofW (cc := cX0_strikes) (maxL := 3) (ret := (some .boolean)) (by decide) rfl (Nat.le_of_ble_eq_true rfl) ?_
  intro p e s m below meth c A ls X hK hP hD hA hS hl
  obtain ⟨hx, hb, hml, hr, hts, hown, hlocks⟩ := id X
  have hl : lv_has ls 3 [(0, .ref (q 1)), (1, .int (iI k)), (2, .int (iI s9))] := hl
  have f_15 := hts (Cond.fieldLink RX0 15 "TwoKeys$Board" "struck" "[I") (by decide +kernel)
  have n_X0 : ∀ w ∈ u_ws RX0 TX0 5, w ∈ wsX0_strikes := by decide +kernel
  have iK := I.nK
  refine lv_aload_n hx hb dX0_strikes_0 rfl (lv_at hl 0 rfl) ?_
  refine lv_iload_n hx hb dX0_strikes_1 rfl (lv_at hl 1 rfl) ?_
  refine z_callVi (ci := 0) (q0 := 1) (As := [.int (iI k)]) (rest := []) X hK hP hD hA hS hl.1 gX0_strikes_X0_has rfl ⟨rfl, rfl⟩ hd_X0_has ⟨Nat.le_of_ble_eq_true rfl, Nat.le_of_ble_eq_true rfl⟩ rfl rfl rfl (Nat.le_of_ble_eq_true rfl) ⟨Nat.zero_le _, Nat.zero_le _⟩ rfl dX0_strikes_2 (c_X0_has I k (by omega)) (fun H locs hP hD hS => ?_)
  refine z_ifp_eq (tgt := 22) hx hb dX0_strikes_5 (by decide) (fun c_1 => ?_) (fun c_1 => ?_)
  · refine lv_iconst (v := iI (0)) hx hb dX0_strikes_22 rfl ?_
    exact z_pret0 X hK hP hD hS dX0_strikes_23 (by first | rfl | omega | grind)
  · refine lv_aload_n hx hb dX0_strikes_8 rfl (lv_at hl 0 rfl) ?_
    refine va_get (D := D) (ci := 0) (v := .ref (q 2)) (C := RX0) (T := TX0) (N := 5) hx hb hts n_X0 hown hK hP 1 rfl rfl 1 (by decide) f_15 (fun _ h9 => h9) rfl dX0_strikes_9 ?_
    refine lv_iload_n hx hb dX0_strikes_12 rfl (lv_at hl 1 rfl) ?_
    refine z_iald hx hb hK hP 2 0 rfl rfl (by omega) dX0_strikes_13 ?_
    have b_2 := I.st k
    refine lv_iload_n hx hb dX0_strikes_14 rfl (lv_at hl 2 rfl) ?_
    refine z_icmp_ne (tgt := 22) hx hb dX0_strikes_15 (by decide) (by omega) (fun c_3 => ?_) (fun c_3 => ?_)
    · refine lv_iconst (v := iI (0)) hx hb dX0_strikes_22 rfl ?_
      exact z_pret0 X hK hP hD hS dX0_strikes_23 (by first | rfl | omega | grind)
    · refine lv_iconst (v := iI (1)) hx hb dX0_strikes_18 rfl ?_
      refine lv_goto (tgt := 23) hx hb dX0_strikes_19 (by decide) ?_
      exact z_pret1 X hK hP hD hS dX0_strikes_23 (by first | rfl | omega | grind)

theorem hd_X0_doShare : yX0_doShare.cls = RX0 ∧ yX0_doShare.cls ≠ "java/lang/invoke/MethodHandle" ∧ yX0_doShare.cls ≠ "java/lang/invoke/VarHandle" ∧ (parseMethodDescriptor yX0_doShare.desc).map (fun d => d.parameters.length) = some 2 := by decide +kernel
set_option maxHeartbeats 4000000 in
set_option maxRecDepth 100000 in
theorem c_X0_doShare (I : okS nK st le be te ab bl ka bg ln ns me sc pi re bk) (a : Int) (b : Int) (h : -2147483648 ≤ a ∧ a ≤ 2147483647 ∧ -2147483648 ≤ b ∧ b ≤ 2147483647) : MI l D cy yX0_doShare wsX0_doShare ({ frames := 1, cells := 0, slots := 0, locals := 21 } : Room) [.ref (q 1), .int (iI a), .int (iI b)] (wT q cy nK st le be te ab bl ka bg ln ns me sc pi re bk pa lz go ss sm pf mf) (bP (a ≠ b ∧ (0 ≤ a ∧ a < nK) ∧ (0 ≤ b ∧ b < nK) ∧ st a = st b)) (wT q cy nK st le be te ab bl ka bg ln ns me sc pi re bk pa lz go ss sm pf mf) := by
  refine MI.ofW (cc := cX0_doShare) (maxL := 3) (ret := (some .boolean)) (by decide) rfl (Nat.le_of_ble_eq_true rfl) ?_
  intro p e s m below meth c A ls X hK hP hD hA hS hl
  obtain ⟨hx, hb, hml, hr, hts, hown, hlocks⟩ := id X
  have hl : lv_has ls 3 [(0, .ref (q 1)), (1, .int (iI a)), (2, .int (iI b))] := hl
  have f_15 := hts (Cond.fieldLink RX0 15 "TwoKeys$Board" "struck" "[I") (by decide +kernel)
  have n_X0 : ∀ w ∈ u_ws RX0 TX0 5, w ∈ wsX0_doShare := by decide +kernel
  have iK := I.nK
  refine lv_iload_n hx hb dX0_doShare_0 rfl (lv_at hl 1 rfl) ?_
  refine lv_iload_n hx hb dX0_doShare_1 rfl (lv_at hl 2 rfl) ?_
  refine z_icmp_eq (tgt := 40) hx hb dX0_doShare_2 (by decide) (by omega) (fun c_1 => ?_) (fun c_1 => ?_)
  · refine lv_iconst (v := iI (0)) hx hb dX0_doShare_40 rfl ?_
    exact z_pret0 X hK hP hD hS dX0_doShare_41 (by first | rfl | omega | grind)
  · refine lv_aload_n hx hb dX0_doShare_5 rfl (lv_at hl 0 rfl) ?_
    refine lv_iload_n hx hb dX0_doShare_6 rfl (lv_at hl 1 rfl) ?_
    refine z_callVi (ci := 0) (q0 := 1) (As := [.int (iI a)]) (rest := []) X hK hP hD hA hS hl.1 gX0_doShare_X0_has rfl ⟨rfl, rfl⟩ hd_X0_has ⟨Nat.le_of_ble_eq_true rfl, Nat.le_of_ble_eq_true rfl⟩ rfl rfl rfl (Nat.le_of_ble_eq_true rfl) ⟨Nat.zero_le _, Nat.zero_le _⟩ rfl dX0_doShare_7 (c_X0_has I a (by omega)) (fun H locs hP hD hS => ?_)
    refine z_ifp_eq (tgt := 40) hx hb dX0_doShare_10 (by decide) (fun c_2 => ?_) (fun c_2 => ?_)
    · refine lv_iconst (v := iI (0)) hx hb dX0_doShare_40 rfl ?_
      exact z_pret0 X hK hP hD hS dX0_doShare_41 (by first | rfl | omega | grind)
    · refine lv_aload_n hx hb dX0_doShare_13 rfl (lv_at hl 0 rfl) ?_
      refine lv_iload_n hx hb dX0_doShare_14 rfl (lv_at hl 2 rfl) ?_
      refine z_callVi (ci := 0) (q0 := 1) (As := [.int (iI b)]) (rest := []) X hK hP hD hA hS hl.1 gX0_doShare_X0_has rfl ⟨rfl, rfl⟩ hd_X0_has ⟨Nat.le_of_ble_eq_true rfl, Nat.le_of_ble_eq_true rfl⟩ rfl rfl rfl (Nat.le_of_ble_eq_true rfl) ⟨Nat.zero_le _, Nat.zero_le _⟩ rfl dX0_doShare_15 (c_X0_has I b (by omega)) (fun H locs hP hD hS => ?_)
      refine z_ifp_eq (tgt := 40) hx hb dX0_doShare_18 (by decide) (fun c_3 => ?_) (fun c_3 => ?_)
      · refine lv_iconst (v := iI (0)) hx hb dX0_doShare_40 rfl ?_
        exact z_pret0 X hK hP hD hS dX0_doShare_41 (by first | rfl | omega | grind)
      · refine lv_aload_n hx hb dX0_doShare_21 rfl (lv_at hl 0 rfl) ?_
        refine va_get (D := D) (ci := 0) (v := .ref (q 2)) (C := RX0) (T := TX0) (N := 5) hx hb hts n_X0 hown hK hP 1 rfl rfl 1 (by decide) f_15 (fun _ h9 => h9) rfl dX0_doShare_22 ?_
        refine lv_iload_n hx hb dX0_doShare_25 rfl (lv_at hl 1 rfl) ?_
        refine z_iald hx hb hK hP 2 0 rfl rfl (by omega) dX0_doShare_26 ?_
        have b_4 := I.st a
        refine lv_aload_n hx hb dX0_doShare_27 rfl (lv_at hl 0 rfl) ?_
        refine va_get (D := D) (ci := 0) (v := .ref (q 2)) (C := RX0) (T := TX0) (N := 5) hx hb hts n_X0 hown hK hP 1 rfl rfl 1 (by decide) f_15 (fun _ h9 => h9) rfl dX0_doShare_28 ?_
        refine lv_iload_n hx hb dX0_doShare_31 rfl (lv_at hl 2 rfl) ?_
        refine z_iald hx hb hK hP 2 0 rfl rfl (by omega) dX0_doShare_32 ?_
        have b_5 := I.st b
        refine z_icmp_ne (tgt := 40) hx hb dX0_doShare_33 (by decide) (by omega) (fun c_6 => ?_) (fun c_6 => ?_)
        · refine lv_iconst (v := iI (0)) hx hb dX0_doShare_40 rfl ?_
          exact z_pret0 X hK hP hD hS dX0_doShare_41 (by first | rfl | omega | grind)
        · refine lv_iconst (v := iI (1)) hx hb dX0_doShare_36 rfl ?_
          refine lv_goto (tgt := 41) hx hb dX0_doShare_37 (by decide) ?_
          exact z_pret1 X hK hP hD hS dX0_doShare_41 (by first | rfl | omega | grind)

theorem hd_X0_strikersOf : yX0_strikersOf.cls = RX0 ∧ yX0_strikersOf.cls ≠ "java/lang/invoke/MethodHandle" ∧ yX0_strikersOf.cls ≠ "java/lang/invoke/VarHandle" ∧ (parseMethodDescriptor yX0_strikersOf.desc).map (fun d => d.parameters.length) = some 1 := by decide +kernel
set_option maxHeartbeats 4000000 in
set_option maxRecDepth 100000 in
theorem c_X0_strikersOf (I : okS nK st le be te ab bl ka bg ln ns me sc pi re bk) (s9 : Int) (h : -2147483648 ≤ s9 ∧ s9 ≤ 2147483647) : MI l D cy yX0_strikersOf wsX0_strikersOf ({ frames := 0, cells := 0, slots := 0, locals := 0 } : Room) [.ref (q 1), .int (iI s9)] (wT q cy nK st le be te ab bl ka bg ln ns me sc pi re bk pa lz go ss sm pf mf) (sZ (fun k => if st k = s9 then 1 else 0) 0 nK) (wT q cy nK st le be te ab bl ka bg ln ns me sc pi re bk pa lz go ss sm pf mf) := by
  refine MI.ofW (cc := cX0_strikersOf) (maxL := 4) (ret := (some .int)) (by decide) rfl (Nat.le_of_ble_eq_true rfl) ?_
  intro p e s m below meth c A ls X hK hP hD hA hS hl
  obtain ⟨hx, hb, hml, hr, hts, hown, hlocks⟩ := id X
  have hl : lv_has ls 4 [(0, .ref (q 1)), (1, .int (iI s9))] := hl
  have f_9 := hts (Cond.fieldLink RX0 9 "TwoKeys$Board" "size" "I") (by decide +kernel)
  have f_15 := hts (Cond.fieldLink RX0 15 "TwoKeys$Board" "struck" "[I") (by decide +kernel)
  have n_X0 : ∀ w ∈ u_ws RX0 TX0 5, w ∈ wsX0_strikersOf := by decide +kernel
  have iK := I.nK
  refine lv_iconst (v := iI (0)) hx hb dX0_strikersOf_0 rfl ?_
  refine lv_istore_n (lv' := [(2, .int (iI 0)), (0, .ref (q 1)), (1, .int (iI s9))]) hx hb dX0_strikersOf_1 rfl hl (by decide) rfl (fun ls hl => ?_)
  refine lv_iconst (v := iI (0)) hx hb dX0_strikersOf_2 rfl ?_
  refine lv_istore_n (lv' := [(3, .int (iI 0)), (2, .int (iI 0)), (0, .ref (q 1)), (1, .int (iI s9))]) hx hb dX0_strikersOf_3 rfl hl (by decide) rfl (fun ls hl => ?_)
  have L_4 : ∀ (n : Nat) (acc : Int) (k : Int), (h0 : 0 ≤ k ∧ k ≤ nK) → (hf : nK - k < n) → (hr : acc = sZ (fun k => if st k = s9 then 1 else 0) 0 k) → ∀ (H : Heap) (locs : List Loc) (ls : Array Slot), va_P D vwCl (wT q cy nK st le be te ab bl ka bg ln ns me sc pi re bk pa lz go ss sm pf mf) H → va_D A (wT q cy nK st le be te ab bl ka bg ln ns me sc pi re bk pa lz go ss sm pf mf) → va_S A s.heap H locs → lv_has ls 4 [(3, .int (iI k)), (2, .int (iI acc)), (0, .ref (q 1)), (1, .int (iI s9))] → W p l e ({ frames := 0, cells := 0, slots := 0, locals := 0 } : Room) s m [.ref (q 1), .int (iI s9)].toArray below meth c H locs 0 0 (MQ below (zQi D cy (wT q cy nK st le be te ab bl ka bg ln ns me sc pi re bk pa lz go ss sm pf mf) A (sZ (fun k => if st k = s9 then 1 else 0) 0 nK)) [.ref (q 1), .int (iI s9)].toArray s 0 0 A) (F0 m 4 ls []) := by
    intro n
    induction n with
    | zero =>
      intro acc k h0 hf hr
      exfalso; omega
    | succ n ih_4 =>
      intro acc k h0 hf hr H locs ls hP hD hS hl
      refine lv_iload_n hx hb dX0_strikersOf_4 rfl (lv_at hl 0 rfl) ?_
      refine lv_aload_n hx hb dX0_strikersOf_5 rfl (lv_at hl 2 rfl) ?_
      refine va_get (D := D) (ci := 0) (v := .int (iI nK)) (C := RX0) (T := TX0) (N := 5) hx hb hts n_X0 hown hK hP 1 rfl rfl 0 (by decide) f_9 (fun _ h9 => h9) rfl dX0_strikersOf_6 ?_
      refine z_icmp_ge (tgt := 31) hx hb dX0_strikersOf_9 (by decide) (by omega) (fun c_1 => ?_) (fun c_1 => ?_)
      · refine lv_iload_n hx hb dX0_strikersOf_31 rfl (lv_at hl 1 rfl) ?_
        exact z_iret X hK hP hD hS dX0_strikersOf_32 (by rw [hr, show k = nK by omega])
      · refine lv_aload_n hx hb dX0_strikersOf_12 rfl (lv_at hl 2 rfl) ?_
        refine va_get (D := D) (ci := 0) (v := .ref (q 2)) (C := RX0) (T := TX0) (N := 5) hx hb hts n_X0 hown hK hP 1 rfl rfl 1 (by decide) f_15 (fun _ h9 => h9) rfl dX0_strikersOf_13 ?_
        refine lv_iload_n hx hb dX0_strikersOf_16 rfl (lv_at hl 0 rfl) ?_
        refine z_iald hx hb hK hP 2 0 rfl rfl (by omega) dX0_strikersOf_17 ?_
        have b_2 := I.st k
        refine lv_iload_n hx hb dX0_strikersOf_18 rfl (lv_at hl 3 rfl) ?_
        refine z_icmp_ne (tgt := 25) hx hb dX0_strikersOf_19 (by decide) (by omega) (fun c_3 => ?_) (fun c_3 => ?_)
        · refine lv_iinc (v := iI (k + 1)) (lv' := [(3, .int (iI (k + 1))), (2, .int (iI acc)), (0, .ref (q 1)), (1, .int (iI s9))]) hx hb dX0_strikersOf_25 hl (k := 0) rfl (iI_add _ _) (by decide) rfl (fun ls hl => ?_)
          refine lv_goto (tgt := 4) hx hb dX0_strikersOf_28 (by decide) ?_
          exact ih_4 acc (k + 1) (by omega) (by omega) (by rw [sZ_step (by omega), ← hr]; (try dsimp only); split <;> omega) _ _ _ hP hD hS (lv_sub hl [0, 1, 2, 3] rfl)
        · refine lv_iinc (v := iI (acc + 1)) (lv' := [(2, .int (iI (acc + 1))), (3, .int (iI k)), (0, .ref (q 1)), (1, .int (iI s9))]) hx hb dX0_strikersOf_22 hl (k := 1) rfl (iI_add _ _) (by decide) rfl (fun ls hl => ?_)
          refine lv_iinc (v := iI (k + 1)) (lv' := [(3, .int (iI (k + 1))), (2, .int (iI (acc + 1))), (0, .ref (q 1)), (1, .int (iI s9))]) hx hb dX0_strikersOf_25 hl (k := 1) rfl (iI_add _ _) (by decide) rfl (fun ls hl => ?_)
          refine lv_goto (tgt := 4) hx hb dX0_strikersOf_28 (by decide) ?_
          exact ih_4 (acc + 1) (k + 1) (by omega) (by omega) (by rw [sZ_step (by omega), ← hr]; (try dsimp only); split <;> omega) _ _ _ hP hD hS (lv_sub hl [0, 1, 2, 3] rfl)
  exact L_4 25 0 0 (by omega) (by omega) ((sZ_nil (by omega)).symm) _ _ _ hP hD hS (lv_sub hl [0, 1, 2, 3] rfl)

theorem hd_X0_isInOrder : yX0_isInOrder.cls = RX0 ∧ yX0_isInOrder.cls ≠ "java/lang/invoke/MethodHandle" ∧ yX0_isInOrder.cls ≠ "java/lang/invoke/VarHandle" ∧ (parseMethodDescriptor yX0_isInOrder.desc).map (fun d => d.parameters.length) = some 0 := by decide +kernel
set_option maxHeartbeats 4000000 in
set_option maxRecDepth 100000 in
theorem c_X0_isInOrder (I : okS nK st le be te ab bl ka bg ln ns me sc pi re bk)   : MI l D cy yX0_isInOrder wsX0_isInOrder ({ frames := 2, cells := 0, slots := 0, locals := 43 } : Room) [.ref (q 1)] (wT q cy nK st le be te ab bl ka bg ln ns me sc pi re bk pa lz go ss sm pf mf) (bP (∀ a b, 0 ≤ a → a < b → b < nK → st a = st b → le b + be b < le a + be a)) (wT q cy nK st le be te ab bl ka bg ln ns me sc pi re bk pa lz go ss sm pf mf) := by
  refine MI.ofW (cc := cX0_isInOrder) (maxL := 3) (ret := (some .boolean)) (by decide) rfl (Nat.le_of_ble_eq_true rfl) ?_
  intro p e s m below meth c A ls X hK hP hD hA hS hl
  obtain ⟨hx, hb, hml, hr, hts, hown, hlocks⟩ := id X
  have hl : lv_has ls 3 [(0, .ref (q 1))] := hl
  have f_9 := hts (Cond.fieldLink RX0 9 "TwoKeys$Board" "size" "I") (by decide +kernel)
  have n_X0 : ∀ w ∈ u_ws RX0 TX0 5, w ∈ wsX0_isInOrder := by decide +kernel
  have iK := I.nK
  have iB := I.be
  have iL := I.le
  refine lv_iconst (v := iI (1)) hx hb dX0_isInOrder_0 rfl ?_
  refine lv_istore_n (lv' := [(1, .int (iI 1)), (0, .ref (q 1))]) hx hb dX0_isInOrder_1 rfl hl (by decide) rfl (fun ls hl => ?_)
  have L_2 : ∀ (n : Nat) (u : Int), (h0 : 1 ≤ u ∧ u ≤ nK) → (hf : nK - u < n) → (hr : ∀ a b, 0 ≤ a → a < b → b < u → st a = st b → le b + be b < le a + be a) → ∀ (H : Heap) (locs : List Loc) (ls : Array Slot), va_P D vwCl (wT q cy nK st le be te ab bl ka bg ln ns me sc pi re bk pa lz go ss sm pf mf) H → va_D A (wT q cy nK st le be te ab bl ka bg ln ns me sc pi re bk pa lz go ss sm pf mf) → va_S A s.heap H locs → lv_has ls 3 [(1, .int (iI u)), (0, .ref (q 1))] → W p l e ({ frames := 2, cells := 0, slots := 0, locals := 43 } : Room) s m [.ref (q 1)].toArray below meth c H locs 0 0 (MQ below (zQi D cy (wT q cy nK st le be te ab bl ka bg ln ns me sc pi re bk pa lz go ss sm pf mf) A (bP (∀ a b, 0 ≤ a → a < b → b < nK → st a = st b → le b + be b < le a + be a))) [.ref (q 1)].toArray s 0 0 A) (F0 m 2 ls []) := by
    intro n
    induction n with
    | zero =>
      intro u h0 hf hr
      exfalso; omega
    | succ n ih_2 =>
      intro u h0 hf hr H locs ls hP hD hS hl
      refine lv_iload_n hx hb dX0_isInOrder_2 rfl (lv_at hl 0 rfl) ?_
      refine lv_aload_n hx hb dX0_isInOrder_3 rfl (lv_at hl 1 rfl) ?_
      refine va_get (D := D) (ci := 0) (v := .int (iI nK)) (C := RX0) (T := TX0) (N := 5) hx hb hts n_X0 hown hK hP 1 rfl rfl 0 (by decide) f_9 (fun _ h9 => h9) rfl dX0_isInOrder_4 ?_
      refine z_icmp_ge (tgt := 53) hx hb dX0_isInOrder_7 (by decide) (by omega) (fun c_1 => ?_) (fun c_1 => ?_)
      · refine lv_iconst (v := iI (1)) hx hb dX0_isInOrder_53 rfl ?_
        exact z_pret1 X hK hP hD hS dX0_isInOrder_54 (fun a b h1 h2 h3 h4 => hr a b h1 h2 (by omega) h4)
      · refine lv_iconst (v := iI (0)) hx hb dX0_isInOrder_10 rfl ?_
        refine lv_istore_n (lv' := [(2, .int (iI 0)), (1, .int (iI u)), (0, .ref (q 1))]) hx hb dX0_isInOrder_11 rfl hl (by decide) rfl (fun ls hl => ?_)
        have L_12 : ∀ (n : Nat) (v : Int), (h2 : 0 ≤ v ∧ v ≤ u) → (hf2 : u - v < n) → (hr2 : ∀ a, 0 ≤ a → a < v → st a = st u → le u + be u < le a + be a) → ∀ (H : Heap) (locs : List Loc) (ls : Array Slot), va_P D vwCl (wT q cy nK st le be te ab bl ka bg ln ns me sc pi re bk pa lz go ss sm pf mf) H → va_D A (wT q cy nK st le be te ab bl ka bg ln ns me sc pi re bk pa lz go ss sm pf mf) → va_S A s.heap H locs → lv_has ls 3 [(2, .int (iI v)), (1, .int (iI u)), (0, .ref (q 1))] → W p l e ({ frames := 2, cells := 0, slots := 0, locals := 43 } : Room) s m [.ref (q 1)].toArray below meth c H locs 0 0 (MQ below (zQi D cy (wT q cy nK st le be te ab bl ka bg ln ns me sc pi re bk pa lz go ss sm pf mf) A (bP (∀ a b, 0 ≤ a → a < b → b < nK → st a = st b → le b + be b < le a + be a))) [.ref (q 1)].toArray s 0 0 A) (F0 m 12 ls []) := by
          intro n
          induction n with
          | zero =>
            intro v h2 hf2 hr2
            exfalso; omega
          | succ n ih_12 =>
            intro v h2 hf2 hr2 H locs ls hP hD hS hl
            refine lv_iload_n hx hb dX0_isInOrder_12 rfl (lv_at hl 0 rfl) ?_
            refine lv_iload_n hx hb dX0_isInOrder_13 rfl (lv_at hl 1 rfl) ?_
            refine z_icmp_ge (tgt := 47) hx hb dX0_isInOrder_14 (by decide) (by omega) (fun c_2 => ?_) (fun c_2 => ?_)
            · refine lv_iinc (v := iI (u + 1)) (lv' := [(1, .int (iI (u + 1))), (2, .int (iI v)), (0, .ref (q 1))]) hx hb dX0_isInOrder_47 hl (k := 1) rfl (iI_add _ _) (by decide) rfl (fun ls hl => ?_)
              refine lv_goto (tgt := 2) hx hb dX0_isInOrder_50 (by decide) ?_
              exact ih_2 (u + 1) (by omega) (by omega) (fun a b h1 h2 h3 h4 => by rcases (show b < u ∨ b = u by omega) with g | g; exact hr a b h1 h2 g h4; subst g; exact hr2 a h1 (by omega) h4) _ _ _ hP hD hS (lv_sub hl [0, 2] rfl)
            · refine lv_aload_n hx hb dX0_isInOrder_17 rfl (lv_at hl 2 rfl) ?_
              refine lv_iload_n hx hb dX0_isInOrder_18 rfl (lv_at hl 0 rfl) ?_
              refine lv_iload_n hx hb dX0_isInOrder_19 rfl (lv_at hl 1 rfl) ?_
              refine z_callVi (ci := 0) (q0 := 1) (As := [.int (iI v), .int (iI u)]) (rest := []) X hK hP hD hA hS hl.1 gX0_isInOrder_X0_doShare rfl ⟨rfl, rfl⟩ hd_X0_doShare ⟨Nat.le_of_ble_eq_true rfl, Nat.le_of_ble_eq_true rfl⟩ rfl rfl rfl (Nat.le_of_ble_eq_true rfl) ⟨Nat.zero_le _, Nat.zero_le _⟩ rfl dX0_isInOrder_20 (c_X0_doShare I v u (by omega)) (fun H locs hP hD hS => ?_)
              refine z_ifp_eq (tgt := 41) hx hb dX0_isInOrder_23 (by decide) (fun c_3 => ?_) (fun c_3 => ?_)
              · refine lv_iinc (v := iI (v + 1)) (lv' := [(2, .int (iI (v + 1))), (1, .int (iI u)), (0, .ref (q 1))]) hx hb dX0_isInOrder_41 hl (k := 0) rfl (iI_add _ _) (by decide) rfl (fun ls hl => ?_)
                refine lv_goto (tgt := 12) hx hb dX0_isInOrder_44 (by decide) ?_
                exact ih_12 (v + 1) (by omega) (by omega) (fun a h1 h2 h3 => by rcases (show a < v ∨ a = v by omega) with g | g; exact hr2 a h1 g h3; subst g; first | omega | (exfalso; omega)) _ _ _ hP hD hS (lv_sub hl [0, 1, 2] rfl)
              · refine lv_aload_n hx hb dX0_isInOrder_26 rfl (lv_at hl 2 rfl) ?_
                refine lv_iload_n hx hb dX0_isInOrder_27 rfl (lv_at hl 0 rfl) ?_
                refine z_callVi (ci := 0) (q0 := 1) (As := [.int (iI v)]) (rest := []) X hK hP hD hA hS hl.1 gX0_isInOrder_X0_soundingLength rfl ⟨rfl, rfl⟩ hd_X0_soundingLength ⟨Nat.le_of_ble_eq_true rfl, Nat.le_of_ble_eq_true rfl⟩ rfl rfl rfl (Nat.le_of_ble_eq_true rfl) ⟨Nat.zero_le _, Nat.zero_le _⟩ rfl dX0_isInOrder_28 (c_X0_soundingLength I v (by omega)) (fun H locs hP hD hS => ?_)
                refine lv_aload_n hx hb dX0_isInOrder_31 rfl (lv_at hl 2 rfl) ?_
                refine lv_iload_n hx hb dX0_isInOrder_32 rfl (lv_at hl 1 rfl) ?_
                refine z_callVi (ci := 0) (q0 := 1) (As := [.int (iI u)]) (rest := [.int (iI (le v + be v))]) X hK hP hD hA hS hl.1 gX0_isInOrder_X0_soundingLength rfl ⟨rfl, rfl⟩ hd_X0_soundingLength ⟨Nat.le_of_ble_eq_true rfl, Nat.le_of_ble_eq_true rfl⟩ rfl rfl rfl (Nat.le_of_ble_eq_true rfl) ⟨Nat.zero_le _, Nat.zero_le _⟩ rfl dX0_isInOrder_33 (c_X0_soundingLength I u (by omega)) (fun H locs hP hD hS => ?_)
                have := I.le v
                have := I.be v
                have := I.le u
                have := I.be u
                refine z_icmp_gt (tgt := 41) hx hb dX0_isInOrder_36 (by decide) (by omega) (fun c_4 => ?_) (fun c_4 => ?_)
                · refine lv_iinc (v := iI (v + 1)) (lv' := [(2, .int (iI (v + 1))), (1, .int (iI u)), (0, .ref (q 1))]) hx hb dX0_isInOrder_41 hl (k := 0) rfl (iI_add _ _) (by decide) rfl (fun ls hl => ?_)
                  refine lv_goto (tgt := 12) hx hb dX0_isInOrder_44 (by decide) ?_
                  exact ih_12 (v + 1) (by omega) (by omega) (fun a h1 h2 h3 => by rcases (show a < v ∨ a = v by omega) with g | g; exact hr2 a h1 g h3; subst g; first | omega | (exfalso; omega)) _ _ _ hP hD hS (lv_sub hl [0, 1, 2] rfl)
                · refine lv_iconst (v := iI (0)) hx hb dX0_isInOrder_39 rfl ?_
                  exact z_pret0 X hK hP hD hS dX0_isInOrder_40 (fun z => by have := z v u (by omega) (by omega) (by omega) (by omega); omega)
        exact L_12 26 0 (by omega) (by omega) (fun a _ _ _ => by omega) _ _ _ hP hD hS (lv_sub hl [0, 1, 2] rfl)
  exact L_2 25 1 (by omega) (by omega) (fun a b _ _ _ _ => by omega) _ _ _ hP hD hS (lv_sub hl [0, 1] rfl)

theorem hd_X0_stopsNearer : yX0_stopsNearer.cls = RX0 ∧ yX0_stopsNearer.cls ≠ "java/lang/invoke/MethodHandle" ∧ yX0_stopsNearer.cls ≠ "java/lang/invoke/VarHandle" ∧ (parseMethodDescriptor yX0_stopsNearer.desc).map (fun d => d.parameters.length) = some 2 := by decide +kernel
set_option maxHeartbeats 4000000 in
set_option maxRecDepth 100000 in
theorem c_X0_stopsNearer (I : okS nK st le be te ab bl ka bg ln ns me sc pi re bk) (a : Int) (b : Int) (h : 0 ≤ a ∧ a < 24) (h2 : 0 ≤ b ∧ b < 24) : MI l D cy yX0_stopsNearer wsX0_stopsNearer ({ frames := 1, cells := 0, slots := 0, locals := 21 } : Room) [.ref (q 1), .int (iI a), .int (iI b)] (wT q cy nK st le be te ab bl ka bg ln ns me sc pi re bk pa lz go ss sm pf mf) (bP (le a + be a < le b + be b ∨ (le a + be a = le b + be b ∧ a < b))) (wT q cy nK st le be te ab bl ka bg ln ns me sc pi re bk pa lz go ss sm pf mf) := by
  refine MI.ofW (cc := cX0_stopsNearer) (maxL := 5) (ret := (some .boolean)) (by decide) rfl (Nat.le_of_ble_eq_true rfl) ?_
  intro p e s m below meth c A ls X hK hP hD hA hS hl
  obtain ⟨hx, hb, hml, hr, hts, hown, hlocks⟩ := id X
  have hl : lv_has ls 5 [(0, .ref (q 1)), (1, .int (iI a)), (2, .int (iI b))] := hl
  have iK := I.nK
  have := I.le a
  have := I.be a
  have := I.le b
  have := I.be b
  refine lv_aload_n hx hb dX0_stopsNearer_0 rfl (lv_at hl 0 rfl) ?_
  refine lv_iload_n hx hb dX0_stopsNearer_1 rfl (lv_at hl 1 rfl) ?_
  refine z_callVi (ci := 0) (q0 := 1) (As := [.int (iI a)]) (rest := []) X hK hP hD hA hS hl.1 gX0_stopsNearer_X0_soundingLength rfl ⟨rfl, rfl⟩ hd_X0_soundingLength ⟨Nat.le_of_ble_eq_true rfl, Nat.le_of_ble_eq_true rfl⟩ rfl rfl rfl (Nat.le_of_ble_eq_true rfl) ⟨Nat.zero_le _, Nat.zero_le _⟩ rfl dX0_stopsNearer_2 (c_X0_soundingLength I a (by omega)) (fun H locs hP hD hS => ?_)
  refine lv_istore_n (lv' := [(3, .int (iI (le a + be a))), (0, .ref (q 1)), (1, .int (iI a)), (2, .int (iI b))]) hx hb dX0_stopsNearer_5 rfl hl (by decide) rfl (fun ls hl => ?_)
  refine lv_aload_n hx hb dX0_stopsNearer_6 rfl (lv_at hl 1 rfl) ?_
  refine lv_iload_n hx hb dX0_stopsNearer_7 rfl (lv_at hl 3 rfl) ?_
  refine z_callVi (ci := 0) (q0 := 1) (As := [.int (iI b)]) (rest := []) X hK hP hD hA hS hl.1 gX0_stopsNearer_X0_soundingLength rfl ⟨rfl, rfl⟩ hd_X0_soundingLength ⟨Nat.le_of_ble_eq_true rfl, Nat.le_of_ble_eq_true rfl⟩ rfl rfl rfl (Nat.le_of_ble_eq_true rfl) ⟨Nat.zero_le _, Nat.zero_le _⟩ rfl dX0_stopsNearer_8 (c_X0_soundingLength I b (by omega)) (fun H locs hP hD hS => ?_)
  refine lv_istore (lv' := [(4, .int (iI (le b + be b))), (3, .int (iI (le a + be a))), (0, .ref (q 1)), (1, .int (iI a)), (2, .int (iI b))]) hx hb dX0_stopsNearer_11 hl (by decide) rfl (fun ls hl => ?_)
  refine lv_iload_n hx hb dX0_stopsNearer_13 rfl (lv_at hl 1 rfl) ?_
  refine lv_iload hx hb dX0_stopsNearer_14 (lv_at hl 0 rfl) ?_
  refine z_icmp_lt (tgt := 30) hx hb dX0_stopsNearer_16 (by decide) (by omega) (fun c_1 => ?_) (fun c_1 => ?_)
  · refine lv_iconst (v := iI (1)) hx hb dX0_stopsNearer_30 rfl ?_
    refine lv_goto (tgt := 35) hx hb dX0_stopsNearer_31 (by decide) ?_
    exact z_pret1 X hK hP hD hS dX0_stopsNearer_35 (by first | rfl | omega | grind)
  · refine lv_iload_n hx hb dX0_stopsNearer_19 rfl (lv_at hl 1 rfl) ?_
    refine lv_iload hx hb dX0_stopsNearer_20 (lv_at hl 0 rfl) ?_
    refine z_icmp_ne (tgt := 34) hx hb dX0_stopsNearer_22 (by decide) (by omega) (fun c_2 => ?_) (fun c_2 => ?_)
    · refine lv_iconst (v := iI (0)) hx hb dX0_stopsNearer_34 rfl ?_
      exact z_pret0 X hK hP hD hS dX0_stopsNearer_35 (by first | rfl | omega | grind)
    · refine lv_iload_n hx hb dX0_stopsNearer_25 rfl (lv_at hl 3 rfl) ?_
      refine lv_iload_n hx hb dX0_stopsNearer_26 rfl (lv_at hl 4 rfl) ?_
      refine z_icmp_ge (tgt := 34) hx hb dX0_stopsNearer_27 (by decide) (by omega) (fun c_3 => ?_) (fun c_3 => ?_)
      · refine lv_iconst (v := iI (0)) hx hb dX0_stopsNearer_34 rfl ?_
        exact z_pret0 X hK hP hD hS dX0_stopsNearer_35 (by first | rfl | omega | grind)
      · refine lv_iconst (v := iI (1)) hx hb dX0_stopsNearer_30 rfl ?_
        refine lv_goto (tgt := 35) hx hb dX0_stopsNearer_31 (by decide) ?_
        exact z_pret1 X hK hP hD hS dX0_stopsNearer_35 (by first | rfl | omega | grind)

theorem hd_X0_countStruck : yX0_countStruck.cls = RX0 ∧ yX0_countStruck.cls ≠ "java/lang/invoke/MethodHandle" ∧ yX0_countStruck.cls ≠ "java/lang/invoke/VarHandle" ∧ (parseMethodDescriptor yX0_countStruck.desc).map (fun d => d.parameters.length) = some 0 := by decide +kernel
set_option maxHeartbeats 4000000 in
set_option maxRecDepth 100000 in
theorem c_X0_countStruck (I : okS nK st le be te ab bl ka bg ln ns me sc pi re bk)   : MI l D cy yX0_countStruck wsX0_countStruck ({ frames := 1, cells := 0, slots := 0, locals := 23 } : Room) [.ref (q 1)] (wT q cy nK st le be te ab bl ka bg ln ns me sc pi re bk pa lz go ss sm pf mf) (sZ (fun s9 => if 0 < sZ (fun k => if st k = s9 then 1 else 0) 0 nK then 1 else 0) 0 24) (wT q cy nK st le be te ab bl ka bg ln ns me sc pi re bk pa lz go ss sm pf mf) := by
  refine MI.ofW (cc := cX0_countStruck) (maxL := 3) (ret := (some .int)) (by decide) rfl (Nat.le_of_ble_eq_true rfl) ?_
  intro p e s m below meth c A ls X hK hP hD hA hS hl
  obtain ⟨hx, hb, hml, hr, hts, hown, hlocks⟩ := id X
  have hl : lv_has ls 3 [(0, .ref (q 1))] := hl
  have iK := I.nK
  refine lv_iconst (v := iI (0)) hx hb dX0_countStruck_0 rfl ?_
  refine lv_istore_n (lv' := [(1, .int (iI 0)), (0, .ref (q 1))]) hx hb dX0_countStruck_1 rfl hl (by decide) rfl (fun ls hl => ?_)
  refine lv_iconst (v := iI (0)) hx hb dX0_countStruck_2 rfl ?_
  refine lv_istore_n (lv' := [(2, .int (iI 0)), (1, .int (iI 0)), (0, .ref (q 1))]) hx hb dX0_countStruck_3 rfl hl (by decide) rfl (fun ls hl => ?_)
  have L_4 : ∀ (n : Nat) (acc : Int) (s9 : Int), (h0 : 0 ≤ s9 ∧ s9 ≤ 24) → (hf : 24 - s9 < n) → (hr : acc = sZ (fun s9 => if 0 < sZ (fun k => if st k = s9 then 1 else 0) 0 nK then 1 else 0) 0 s9) → ∀ (H : Heap) (locs : List Loc) (ls : Array Slot), va_P D vwCl (wT q cy nK st le be te ab bl ka bg ln ns me sc pi re bk pa lz go ss sm pf mf) H → va_D A (wT q cy nK st le be te ab bl ka bg ln ns me sc pi re bk pa lz go ss sm pf mf) → va_S A s.heap H locs → lv_has ls 3 [(2, .int (iI s9)), (1, .int (iI acc)), (0, .ref (q 1))] → W p l e ({ frames := 1, cells := 0, slots := 0, locals := 23 } : Room) s m [.ref (q 1)].toArray below meth c H locs 0 0 (MQ below (zQi D cy (wT q cy nK st le be te ab bl ka bg ln ns me sc pi re bk pa lz go ss sm pf mf) A (sZ (fun s9 => if 0 < sZ (fun k => if st k = s9 then 1 else 0) 0 nK then 1 else 0) 0 24)) [.ref (q 1)].toArray s 0 0 A) (F0 m 4 ls []) := by
    intro n
    induction n with
    | zero =>
      intro acc s9 h0 hf hr
      exfalso; omega
    | succ n ih_4 =>
      intro acc s9 h0 hf hr H locs ls hP hD hS hl
      refine lv_iload_n hx hb dX0_countStruck_4 rfl (lv_at hl 0 rfl) ?_
      refine lv_bipush (v := iI (24)) hx hb dX0_countStruck_5 (by decide) ?_
      refine z_icmp_ge (tgt := 27) hx hb dX0_countStruck_7 (by decide) (by omega) (fun c_1 => ?_) (fun c_1 => ?_)
      · refine lv_iload_n hx hb dX0_countStruck_27 rfl (lv_at hl 1 rfl) ?_
        exact z_iret X hK hP hD hS dX0_countStruck_28 (by rw [hr, show s9 = 24 by omega])
      · refine lv_aload_n hx hb dX0_countStruck_10 rfl (lv_at hl 2 rfl) ?_
        refine lv_iload_n hx hb dX0_countStruck_11 rfl (lv_at hl 0 rfl) ?_
        refine z_callVi (ci := 0) (q0 := 1) (As := [.int (iI s9)]) (rest := []) X hK hP hD hA hS hl.1 gX0_countStruck_X0_strikersOf rfl ⟨rfl, rfl⟩ hd_X0_strikersOf ⟨Nat.le_of_ble_eq_true rfl, Nat.le_of_ble_eq_true rfl⟩ rfl rfl rfl (Nat.le_of_ble_eq_true rfl) ⟨Nat.zero_le _, Nat.zero_le _⟩ rfl dX0_countStruck_12 (c_X0_strikersOf I s9 (by omega)) (fun H locs hP hD hS => ?_)
        have b9 := sZ_c (f := fun k => if st k = s9 then 1 else 0) (lo := 0) (hi := nK) (by omega) (fun j => by (try dsimp only); split <;> omega)
        refine z_if_le (tgt := 21) hx hb dX0_countStruck_15 (by decide) (by omega) (fun c_2 => ?_) (fun c_2 => ?_)
        · refine lv_iinc (v := iI (s9 + 1)) (lv' := [(2, .int (iI (s9 + 1))), (1, .int (iI acc)), (0, .ref (q 1))]) hx hb dX0_countStruck_21 hl (k := 0) rfl (iI_add _ _) (by decide) rfl (fun ls hl => ?_)
          refine lv_goto (tgt := 4) hx hb dX0_countStruck_24 (by decide) ?_
          exact ih_4 acc (s9 + 1) (by omega) (by omega) (by rw [sZ_step (by omega), ← hr]; (try dsimp only); split <;> omega) _ _ _ hP hD hS (lv_sub hl [0, 1, 2] rfl)
        · refine lv_iinc (v := iI (acc + 1)) (lv' := [(1, .int (iI (acc + 1))), (2, .int (iI s9)), (0, .ref (q 1))]) hx hb dX0_countStruck_18 hl (k := 1) rfl (iI_add _ _) (by decide) rfl (fun ls hl => ?_)
          refine lv_iinc (v := iI (s9 + 1)) (lv' := [(2, .int (iI (s9 + 1))), (1, .int (iI (acc + 1))), (0, .ref (q 1))]) hx hb dX0_countStruck_21 hl (k := 1) rfl (iI_add _ _) (by decide) rfl (fun ls hl => ?_)
          refine lv_goto (tgt := 4) hx hb dX0_countStruck_24 (by decide) ?_
          exact ih_4 (acc + 1) (s9 + 1) (by omega) (by omega) (by rw [sZ_step (by omega), ← hr]; (try dsimp only); split <;> omega) _ _ _ hP hD hS (lv_sub hl [0, 1, 2] rfl)
  exact L_4 25 0 0 (by omega) (by omega) ((sZ_nil (by omega)).symm) _ _ _ hP hD hS (lv_sub hl [0, 1, 2] rfl)

theorem hd_X0_countBent : yX0_countBent.cls = RX0 ∧ yX0_countBent.cls ≠ "java/lang/invoke/MethodHandle" ∧ yX0_countBent.cls ≠ "java/lang/invoke/VarHandle" ∧ (parseMethodDescriptor yX0_countBent.desc).map (fun d => d.parameters.length) = some 0 := by decide +kernel
set_option maxHeartbeats 4000000 in
set_option maxRecDepth 100000 in
theorem c_X0_countBent (I : okS nK st le be te ab bl ka bg ln ns me sc pi re bk)   : MI l D cy yX0_countBent wsX0_countBent ({ frames := 0, cells := 0, slots := 0, locals := 0 } : Room) [.ref (q 1)] (wT q cy nK st le be te ab bl ka bg ln ns me sc pi re bk pa lz go ss sm pf mf) (sZ (fun k => if be k = 0 then 0 else 1) 0 nK) (wT q cy nK st le be te ab bl ka bg ln ns me sc pi re bk pa lz go ss sm pf mf) := by
  refine MI.ofW (cc := cX0_countBent) (maxL := 3) (ret := (some .int)) (by decide) rfl (Nat.le_of_ble_eq_true rfl) ?_
  intro p e s m below meth c A ls X hK hP hD hA hS hl
  obtain ⟨hx, hb, hml, hr, hts, hown, hlocks⟩ := id X
  have hl : lv_has ls 3 [(0, .ref (q 1))] := hl
  have f_9 := hts (Cond.fieldLink RX0 9 "TwoKeys$Board" "size" "I") (by decide +kernel)
  have f_22 := hts (Cond.fieldLink RX0 22 "TwoKeys$Board" "bends" "[I") (by decide +kernel)
  have n_X0 : ∀ w ∈ u_ws RX0 TX0 5, w ∈ wsX0_countBent := by decide +kernel
  have iK := I.nK
  refine lv_iconst (v := iI (0)) hx hb dX0_countBent_0 rfl ?_
  refine lv_istore_n (lv' := [(1, .int (iI 0)), (0, .ref (q 1))]) hx hb dX0_countBent_1 rfl hl (by decide) rfl (fun ls hl => ?_)
  refine lv_iconst (v := iI (0)) hx hb dX0_countBent_2 rfl ?_
  refine lv_istore_n (lv' := [(2, .int (iI 0)), (1, .int (iI 0)), (0, .ref (q 1))]) hx hb dX0_countBent_3 rfl hl (by decide) rfl (fun ls hl => ?_)
  have L_4 : ∀ (n : Nat) (acc : Int) (k : Int), (h0 : 0 ≤ k ∧ k ≤ nK) → (hf : nK - k < n) → (hr : acc = sZ (fun k => if be k = 0 then 0 else 1) 0 k) → ∀ (H : Heap) (locs : List Loc) (ls : Array Slot), va_P D vwCl (wT q cy nK st le be te ab bl ka bg ln ns me sc pi re bk pa lz go ss sm pf mf) H → va_D A (wT q cy nK st le be te ab bl ka bg ln ns me sc pi re bk pa lz go ss sm pf mf) → va_S A s.heap H locs → lv_has ls 3 [(2, .int (iI k)), (1, .int (iI acc)), (0, .ref (q 1))] → W p l e ({ frames := 0, cells := 0, slots := 0, locals := 0 } : Room) s m [.ref (q 1)].toArray below meth c H locs 0 0 (MQ below (zQi D cy (wT q cy nK st le be te ab bl ka bg ln ns me sc pi re bk pa lz go ss sm pf mf) A (sZ (fun k => if be k = 0 then 0 else 1) 0 nK)) [.ref (q 1)].toArray s 0 0 A) (F0 m 4 ls []) := by
    intro n
    induction n with
    | zero =>
      intro acc k h0 hf hr
      exfalso; omega
    | succ n ih_4 =>
      intro acc k h0 hf hr H locs ls hP hD hS hl
      refine lv_iload_n hx hb dX0_countBent_4 rfl (lv_at hl 0 rfl) ?_
      refine lv_aload_n hx hb dX0_countBent_5 rfl (lv_at hl 2 rfl) ?_
      refine va_get (D := D) (ci := 0) (v := .int (iI nK)) (C := RX0) (T := TX0) (N := 5) hx hb hts n_X0 hown hK hP 1 rfl rfl 0 (by decide) f_9 (fun _ h9 => h9) rfl dX0_countBent_6 ?_
      refine z_icmp_ge (tgt := 30) hx hb dX0_countBent_9 (by decide) (by omega) (fun c_1 => ?_) (fun c_1 => ?_)
      · refine lv_iload_n hx hb dX0_countBent_30 rfl (lv_at hl 1 rfl) ?_
        exact z_iret X hK hP hD hS dX0_countBent_31 (by rw [hr, show k = nK by omega])
      · refine lv_aload_n hx hb dX0_countBent_12 rfl (lv_at hl 2 rfl) ?_
        refine va_get (D := D) (ci := 0) (v := .ref (q 4)) (C := RX0) (T := TX0) (N := 5) hx hb hts n_X0 hown hK hP 1 rfl rfl 3 (by decide) f_22 (fun _ h9 => h9) rfl dX0_countBent_13 ?_
        refine lv_iload_n hx hb dX0_countBent_16 rfl (lv_at hl 0 rfl) ?_
        refine z_iald hx hb hK hP 4 0 rfl rfl (by omega) dX0_countBent_17 ?_
        have b_2 := I.be k
        refine z_if_eq (tgt := 24) hx hb dX0_countBent_18 (by decide) (by omega) (fun c_3 => ?_) (fun c_3 => ?_)
        · refine lv_iinc (v := iI (k + 1)) (lv' := [(2, .int (iI (k + 1))), (1, .int (iI acc)), (0, .ref (q 1))]) hx hb dX0_countBent_24 hl (k := 0) rfl (iI_add _ _) (by decide) rfl (fun ls hl => ?_)
          refine lv_goto (tgt := 4) hx hb dX0_countBent_27 (by decide) ?_
          exact ih_4 acc (k + 1) (by omega) (by omega) (by rw [sZ_step (by omega), ← hr]; (try dsimp only); split <;> omega) _ _ _ hP hD hS (lv_sub hl [0, 1, 2] rfl)
        · refine lv_iinc (v := iI (acc + 1)) (lv' := [(1, .int (iI (acc + 1))), (2, .int (iI k)), (0, .ref (q 1))]) hx hb dX0_countBent_21 hl (k := 1) rfl (iI_add _ _) (by decide) rfl (fun ls hl => ?_)
          refine lv_iinc (v := iI (k + 1)) (lv' := [(2, .int (iI (k + 1))), (1, .int (iI (acc + 1))), (0, .ref (q 1))]) hx hb dX0_countBent_24 hl (k := 1) rfl (iI_add _ _) (by decide) rfl (fun ls hl => ?_)
          refine lv_goto (tgt := 4) hx hb dX0_countBent_27 (by decide) ?_
          exact ih_4 (acc + 1) (k + 1) (by omega) (by omega) (by rw [sZ_step (by omega), ← hr]; (try dsimp only); split <;> omega) _ _ _ hP hD hS (lv_sub hl [0, 1, 2] rfl)
  exact L_4 25 0 0 (by omega) (by omega) ((sZ_nil (by omega)).symm) _ _ _ hP hD hS (lv_sub hl [0, 1, 2] rfl)
end
section
variable {l : Launch} {D : va_G} {cy : ClassId} {q : Nat → Nat} {nK sc pi re bk ss sm pf mf th lo : Int} {st le be te ab bl ka bg ln ns me pa lz go co bs gr : Int → Int}
theorem hd_X3_put : yX3_put.cls = RX3 ∧ yX3_put.cls ≠ "java/lang/invoke/MethodHandle" ∧ yX3_put.cls ≠ "java/lang/invoke/VarHandle" ∧ (parseMethodDescriptor yX3_put.desc).map (fun d => d.parameters.length) = some 4 := by decide +kernel
set_option maxHeartbeats 4000000 in
set_option maxRecDepth 100000 in
theorem c_X3_put (s9 : Int) (t9 : Int) (a9 : Int) (b9 : Int) (h : 0 ≤ s9 ∧ s9 ≤ 4) (h2 : 0 ≤ t9 ∧ t9 ≤ 11) : MV l D cy yX3_put wsX3_put ({ frames := 0, cells := 0, slots := 0, locals := 0 } : Room) [.ref (q 6), .int (iI s9), .int (iI t9), .int (iI a9), .int (iI b9)] (wT q cy nK st le be te ab bl ka bg ln ns me sc pi re bk pa lz go ss sm pf mf) (wT q cy nK st le be te (uZ ab (s9 * 12 + t9) a9) (uZ bl (s9 * 12 + t9) b9) ka bg ln ns me sc pi re bk pa lz go ss sm pf mf) := by
  refine MV.ofW (cc := cX3_put) (maxL := 5) (ret := none) (by decide) rfl (Nat.le_of_ble_eq_true rfl) ?_
  intro p e s m below meth c A ls X hK hP hD hA hS hl
  obtain ⟨hx, hb, hml, hr, hts, hown, hlocks⟩ := id X
  have hl : lv_has ls 5 [(0, .ref (q 6)), (1, .int (iI s9)), (2, .int (iI t9)), (3, .int (iI a9)), (4, .int (iI b9))] := hl
  have f_9 := hts (Cond.fieldLink RX3 9 "TwoKeys$Scales" "aboves" "[I") (by decide +kernel)
  have f_15 := hts (Cond.fieldLink RX3 15 "TwoKeys$Scales" "belows" "[I") (by decide +kernel)
  have n_X3 : ∀ w ∈ u_ws RX3 TX3 2, w ∈ wsX3_put := by decide +kernel
  refine lv_aload_n hx hb dX3_put_0 rfl (lv_at hl 0 rfl) ?_
  refine va_get (D := D) (ci := 3) (v := .ref (q 7)) (C := RX3) (T := TX3) (N := 2) hx hb hts n_X3 hown hK hP 6 rfl rfl 0 (by decide) f_9 (fun _ h9 => h9) rfl dX3_put_1 ?_
  refine lv_iload_n hx hb dX3_put_4 rfl (lv_at hl 1 rfl) ?_
  refine lv_bipush (v := iI (12)) hx hb dX3_put_5 (by decide) ?_
  refine z_imul hx hb dX3_put_7 ?_
  refine lv_iload_n hx hb dX3_put_8 rfl (lv_at hl 2 rfl) ?_
  refine z_iadd hx hb dX3_put_9 ?_
  refine lv_iload_n hx hb dX3_put_10 rfl (lv_at hl 3 rfl) ?_
  refine z_iast (v := a9) hx hb hK hP hD hS 7 0 rfl rfl (by omega) dX3_put_11 (fun H locs hP hD hS => ?_)
  have hP : va_P D vwCl (wT q cy nK st le be te (uZ ab ((s9 * 12) + t9) a9) bl ka bg ln ns me sc pi re bk pa lz go ss sm pf mf) H := hP
  have hD : va_D A (wT q cy nK st le be te (uZ ab ((s9 * 12) + t9) a9) bl ka bg ln ns me sc pi re bk pa lz go ss sm pf mf) := hD
  refine lv_aload_n hx hb dX3_put_12 rfl (lv_at hl 0 rfl) ?_
  refine va_get (D := D) (ci := 3) (v := .ref (q 8)) (C := RX3) (T := TX3) (N := 2) hx hb hts n_X3 hown hK hP 6 rfl rfl 1 (by decide) f_15 (fun _ h9 => h9) rfl dX3_put_13 ?_
  refine lv_iload_n hx hb dX3_put_16 rfl (lv_at hl 1 rfl) ?_
  refine lv_bipush (v := iI (12)) hx hb dX3_put_17 (by decide) ?_
  refine z_imul hx hb dX3_put_19 ?_
  refine lv_iload_n hx hb dX3_put_20 rfl (lv_at hl 2 rfl) ?_
  refine z_iadd hx hb dX3_put_21 ?_
  refine lv_iload hx hb dX3_put_22 (lv_at hl 4 rfl) ?_
  refine z_iast (v := b9) hx hb hK hP hD hS 8 0 rfl rfl (by omega) dX3_put_24 (fun H locs hP hD hS => ?_)
  have hP : va_P D vwCl (wT q cy nK st le be te (uZ ab ((s9 * 12) + t9) a9) (uZ bl ((s9 * 12) + t9) b9) ka bg ln ns me sc pi re bk pa lz go ss sm pf mf) H := hP
  have hD : va_D A (wT q cy nK st le be te (uZ ab ((s9 * 12) + t9) a9) (uZ bl ((s9 * 12) + t9) b9) ka bg ln ns me sc pi re bk pa lz go ss sm pf mf) := hD
  exact z_vret X hK hP hD hS dX3_put_25

theorem hd_X3_partOf : yX3_partOf.cls = RX3 ∧ yX3_partOf.cls ≠ "java/lang/invoke/MethodHandle" ∧ yX3_partOf.cls ≠ "java/lang/invoke/VarHandle" ∧ (parseMethodDescriptor yX3_partOf.desc).map (fun d => d.parameters.length) = some 3 := by decide +kernel
set_option maxHeartbeats 4000000 in
set_option maxRecDepth 100000 in
theorem c_X3_partOf (I : okS nK st le be te ab bl ka bg ln ns me sc pi re bk) (s9 : Int) (t9 : Int) (up : Bool) (h : 0 ≤ s9 ∧ s9 ≤ 4) (h2 : 0 ≤ t9 ∧ t9 ≤ 11) : MI l D cy yX3_partOf wsX3_partOf ({ frames := 0, cells := 0, slots := 0, locals := 0 } : Room) [.ref (q 6), .int (iI s9), .int (iI t9), .int (iI (bZ up))] (wT q cy nK st le be te ab bl ka bg ln ns me sc pi re bk pa lz go ss sm pf mf) (if up = true then ab (s9 * 12 + t9) else bl (s9 * 12 + t9)) (wT q cy nK st le be te ab bl ka bg ln ns me sc pi re bk pa lz go ss sm pf mf) := by
  refine MI.ofW (cc := cX3_partOf) (maxL := 5) (ret := (some .int)) (by decide) rfl (Nat.le_of_ble_eq_true rfl) ?_
  intro p e s m below meth c A ls X hK hP hD hA hS hl
  obtain ⟨hx, hb, hml, hr, hts, hown, hlocks⟩ := id X
  have hl : lv_has ls 5 [(0, .ref (q 6)), (1, .int (iI s9)), (2, .int (iI t9)), (3, .int (iI (bZ up)))] := hl
  have f_15 := hts (Cond.fieldLink RX3 15 "TwoKeys$Scales" "belows" "[I") (by decide +kernel)
  have f_9 := hts (Cond.fieldLink RX3 9 "TwoKeys$Scales" "aboves" "[I") (by decide +kernel)
  have n_X3 : ∀ w ∈ u_ws RX3 TX3 2, w ∈ wsX3_partOf := by decide +kernel
  have iK := I.nK
  refine lv_iload_n hx hb dX3_partOf_0 rfl (lv_at hl 1 rfl) ?_
  refine lv_bipush (v := iI (12)) hx hb dX3_partOf_1 (by decide) ?_
  refine z_imul hx hb dX3_partOf_3 ?_
  refine lv_iload_n hx hb dX3_partOf_4 rfl (lv_at hl 2 rfl) ?_
  refine z_iadd hx hb dX3_partOf_5 ?_
  refine lv_istore (lv' := [(4, .int (iI ((s9 * 12) + t9))), (0, .ref (q 6)), (1, .int (iI s9)), (2, .int (iI t9)), (3, .int (iI (bZ up)))]) hx hb dX3_partOf_6 hl (by decide) rfl (fun ls hl => ?_)
  refine lv_iload_n hx hb dX3_partOf_8 rfl (lv_at hl 4 rfl) ?_
  refine z_ifb_eq (tgt := 22) hx hb dX3_partOf_9 (by decide) (fun c_1 => ?_) (fun c_1 => ?_)
  · refine lv_aload_n hx hb dX3_partOf_22 rfl (lv_at hl 1 rfl) ?_
    refine va_get (D := D) (ci := 3) (v := .ref (q 8)) (C := RX3) (T := TX3) (N := 2) hx hb hts n_X3 hown hK hP 6 rfl rfl 1 (by decide) f_15 (fun _ h9 => h9) rfl dX3_partOf_23 ?_
    refine lv_iload hx hb dX3_partOf_26 (lv_at hl 0 rfl) ?_
    refine z_iald hx hb hK hP 8 0 rfl rfl (by omega) dX3_partOf_28 ?_
    have b_2 := I.bl ((s9 * 12) + t9)
    exact z_iret X hK hP hD hS dX3_partOf_29 (by subst c_1; rfl)
  · refine lv_aload_n hx hb dX3_partOf_12 rfl (lv_at hl 1 rfl) ?_
    refine va_get (D := D) (ci := 3) (v := .ref (q 7)) (C := RX3) (T := TX3) (N := 2) hx hb hts n_X3 hown hK hP 6 rfl rfl 0 (by decide) f_9 (fun _ h9 => h9) rfl dX3_partOf_13 ?_
    refine lv_iload hx hb dX3_partOf_16 (lv_at hl 0 rfl) ?_
    refine z_iald hx hb hK hP 7 0 rfl rfl (by omega) dX3_partOf_18 ?_
    have b_3 := I.ab ((s9 * 12) + t9)
    refine lv_goto (tgt := 29) hx hb dX3_partOf_19 (by decide) ?_
    exact z_iret X hK hP hD hS dX3_partOf_29 (by subst c_1; rfl)

theorem hd_X3_goalAt : yX3_goalAt.cls = RX3 ∧ yX3_goalAt.cls ≠ "java/lang/invoke/MethodHandle" ∧ yX3_goalAt.cls ≠ "java/lang/invoke/VarHandle" ∧ (parseMethodDescriptor yX3_goalAt.desc).map (fun d => d.parameters.length) = some 3 := by decide +kernel
set_option maxHeartbeats 4000000 in
set_option maxRecDepth 100000 in
theorem c_X3_goalAt (I : okS nK st le be te ab bl ka bg ln ns me sc pi re bk) (s9 : Int) (p9 : Int) (k : Int) (h : 0 ≤ s9 ∧ s9 ≤ 4) (h2 : 0 ≤ p9 ∧ p9 ≤ 200000) (h3 : 0 ≤ k ∧ k < 24) : MI l D cy yX3_goalAt wsX3_goalAt ({ frames := 0, cells := 0, slots := 0, locals := 0 } : Room) [.ref (q 6), .int (iI s9), .int (iI p9), .int (iI k)] (wT q cy nK st le be te ab bl ka bg ln ns me sc pi re bk pa lz go ss sm pf mf) (gl ab bl s9 p9 k) (wT q cy nK st le be te ab bl ka bg ln ns me sc pi re bk pa lz go ss sm pf mf) := by
  refine MI.ofW (cc := cX3_goalAt) (maxL := 7) (ret := (some .int)) (by decide) rfl (Nat.le_of_ble_eq_true rfl) ?_
  intro p e s m below meth c A ls X hK hP hD hA hS hl
  obtain ⟨hx, hb, hml, hr, hts, hown, hlocks⟩ := id X
  have hl : lv_has ls 7 [(0, .ref (q 6)), (1, .int (iI s9)), (2, .int (iI p9)), (3, .int (iI k))] := hl
  have f_15 := hts (Cond.fieldLink RX3 15 "TwoKeys$Scales" "belows" "[I") (by decide +kernel)
  have f_9 := hts (Cond.fieldLink RX3 9 "TwoKeys$Scales" "aboves" "[I") (by decide +kernel)
  have n_X3 : ∀ w ∈ u_ws RX3 TX3 2, w ∈ wsX3_goalAt := by decide +kernel
  have iK := I.nK
  refine lv_iload_n hx hb dX3_goalAt_0 rfl (lv_at hl 1 rfl) ?_
  refine lv_bipush (v := iI (12)) hx hb dX3_goalAt_1 (by decide) ?_
  refine z_imul hx hb dX3_goalAt_3 ?_
  refine lv_iload_n hx hb dX3_goalAt_4 rfl (lv_at hl 3 rfl) ?_
  refine lv_bipush (v := iI (12)) hx hb dX3_goalAt_5 (by decide) ?_
  refine z_irem hx hb dX3_goalAt_7 (by omega) ?_
  refine z_iadd hx hb dX3_goalAt_8 ?_
  refine lv_istore (lv' := [(4, .int (iI ((s9 * 12) + (k % 12)))), (0, .ref (q 6)), (1, .int (iI s9)), (2, .int (iI p9)), (3, .int (iI k))]) hx hb dX3_goalAt_9 hl (by decide) rfl (fun ls hl => ?_)
  refine lv_iload_n hx hb dX3_goalAt_11 rfl (lv_at hl 3 rfl) ?_
  refine lv_iload_n hx hb dX3_goalAt_12 rfl (lv_at hl 4 rfl) ?_
  refine lv_bipush (v := iI (12)) hx hb dX3_goalAt_13 (by decide) ?_
  refine z_idiv hx hb dX3_goalAt_15 (by omega) ?_
  refine z_ishl hx hb dX3_goalAt_16 (by omega) ?_
  refine lv_istore (lv' := [(5, .int (iI (shZ p9 (k / 12)))), (4, .int (iI ((s9 * 12) + (k % 12)))), (0, .ref (q 6)), (1, .int (iI s9)), (2, .int (iI p9)), (3, .int (iI k))]) hx hb dX3_goalAt_17 hl (by decide) rfl (fun ls hl => ?_)
  refine lv_aload_n hx hb dX3_goalAt_19 rfl (lv_at hl 2 rfl) ?_
  refine va_get (D := D) (ci := 3) (v := .ref (q 8)) (C := RX3) (T := TX3) (N := 2) hx hb hts n_X3 hown hK hP 6 rfl rfl 1 (by decide) f_15 (fun _ h9 => h9) rfl dX3_goalAt_20 ?_
  refine lv_iload hx hb dX3_goalAt_23 (lv_at hl 1 rfl) ?_
  refine z_iald hx hb hK hP 8 0 rfl rfl (by omega) dX3_goalAt_25 ?_
  have b_1 := I.bl ((s9 * 12) + (k % 12))
  refine lv_istore (lv' := [(6, .int (iI (bl ((s9 * 12) + (k % 12))))), (5, .int (iI (shZ p9 (k / 12)))), (4, .int (iI ((s9 * 12) + (k % 12)))), (0, .ref (q 6)), (1, .int (iI s9)), (2, .int (iI p9)), (3, .int (iI k))]) hx hb dX3_goalAt_26 hl (by decide) rfl (fun ls hl => ?_)
  refine lv_iload hx hb dX3_goalAt_28 (lv_at hl 0 rfl) ?_
  refine lv_iconst (v := iI (1)) hx hb dX3_goalAt_30 rfl ?_
  refine z_icmp_ge (tgt := 38) hx hb dX3_goalAt_31 (by decide) (by omega) (fun c_2 => ?_) (fun c_2 => ?_)
  · refine lv_iload hx hb dX3_goalAt_38 (lv_at hl 1 rfl) ?_
    refine lv_aload_n hx hb dX3_goalAt_40 rfl (lv_at hl 3 rfl) ?_
    refine va_get (D := D) (ci := 3) (v := .ref (q 7)) (C := RX3) (T := TX3) (N := 2) hx hb hts n_X3 hown hK hP 6 rfl rfl 0 (by decide) f_9 (fun _ h9 => h9) rfl dX3_goalAt_41 ?_
    refine lv_iload hx hb dX3_goalAt_44 (lv_at hl 2 rfl) ?_
    refine z_iald hx hb hK hP 7 0 rfl rfl (by omega) dX3_goalAt_46 ?_
    have b_3 := I.ab ((s9 * 12) + (k % 12))
    have b8 := mul_b (shZ_b (p := p9) (k := k / 12) h2.1 h2.2).1 (shZ_b h2.1 h2.2).2 (show 0 ≤ ab (s9 * 12 + k % 12) by omega) (show ab (s9 * 12 + k % 12) ≤ 999 by omega)
    refine z_imul hx hb dX3_goalAt_47 ?_
    refine lv_iload hx hb dX3_goalAt_48 (lv_at hl 0 rfl) ?_
    refine z_idiv hx hb dX3_goalAt_50 (by omega) ?_
    exact z_iret X hK hP hD hS dX3_goalAt_51 (by first | omega | (unfold gl shZ; rw [Int.mul_comm s9 12]; by_cases g : k < 12; (rw [if_pos g, if_pos (show k / 12 = 0 by omega), Int.mul_one]); (rw [if_neg g, if_neg (show ¬ k / 12 = 0 by omega), Int.mul_comm 2 p9])))
  · refine lv_iconst (v := iI (0)) hx hb dX3_goalAt_34 rfl ?_
    refine lv_goto (tgt := 51) hx hb dX3_goalAt_35 (by decide) ?_
    exact z_iret X hK hP hD hS dX3_goalAt_51 (by first | omega | (unfold gl shZ; rw [Int.mul_comm s9 12]; by_cases g : k < 12; (rw [if_pos g, if_pos (show k / 12 = 0 by omega), Int.mul_one]); (rw [if_neg g, if_neg (show ¬ k / 12 = 0 by omega), Int.mul_comm 2 p9])))

theorem hd_X1_startOf : yX1_startOf.cls = RX1 ∧ yX1_startOf.cls ≠ "java/lang/invoke/MethodHandle" ∧ yX1_startOf.cls ≠ "java/lang/invoke/VarHandle" ∧ (parseMethodDescriptor yX1_startOf.desc).map (fun d => d.parameters.length) = some 1 := by decide +kernel
set_option maxHeartbeats 4000000 in
set_option maxRecDepth 100000 in
theorem c_X1_startOf (p9 : Int)  : MI l D cy yX1_startOf wsX1_startOf ({ frames := 0, cells := 0, slots := 0, locals := 0 } : Room) [.ref (q 9), .int (iI p9)] (wT q cy nK st le be te ab bl ka bg ln ns me sc pi re bk pa lz go ss sm pf mf) (p9 * 40) (wT q cy nK st le be te ab bl ka bg ln ns me sc pi re bk pa lz go ss sm pf mf) := by
  refine MI.ofW (cc := cX1_startOf) (maxL := 2) (ret := (some .int)) (by decide) rfl (Nat.le_of_ble_eq_true rfl) ?_
  intro p e s m below meth c A ls X hK hP hD hA hS hl
  obtain ⟨hx, hb, hml, hr, hts, hown, hlocks⟩ := id X
  have hl : lv_has ls 2 [(0, .ref (q 9)), (1, .int (iI p9))] := hl
  refine lv_iload_n hx hb dX1_startOf_0 rfl (lv_at hl 1 rfl) ?_
  refine lv_bipush (v := iI (40)) hx hb dX1_startOf_1 (by decide) ?_
  refine z_imul hx hb dX1_startOf_3 ?_
  exact z_iret X hK hP hD hS dX1_startOf_4 (by first | rfl | omega | grind)

theorem hd_X1_endOf : yX1_endOf.cls = RX1 ∧ yX1_endOf.cls ≠ "java/lang/invoke/MethodHandle" ∧ yX1_endOf.cls ≠ "java/lang/invoke/VarHandle" ∧ (parseMethodDescriptor yX1_endOf.desc).map (fun d => d.parameters.length) = some 1 := by decide +kernel
set_option maxHeartbeats 4000000 in
set_option maxRecDepth 100000 in
theorem c_X1_endOf (I : okS nK st le be te ab bl ka bg ln ns me sc pi re bk) (p9 : Int) (h : 0 ≤ p9 ∧ p9 ≤ 3) : MI l D cy yX1_endOf wsX1_endOf ({ frames := 0, cells := 0, slots := 0, locals := 0 } : Room) [.ref (q 9), .int (iI p9)] (wT q cy nK st le be te ab bl ka bg ln ns me sc pi re bk pa lz go ss sm pf mf) (p9 * 40 + ns p9) (wT q cy nK st le be te ab bl ka bg ln ns me sc pi re bk pa lz go ss sm pf mf) := by
  refine MI.ofW (cc := cX1_endOf) (maxL := 2) (ret := (some .int)) (by decide) rfl (Nat.le_of_ble_eq_true rfl) ?_
  intro p e s m below meth c A ls X hK hP hD hA hS hl
  obtain ⟨hx, hb, hml, hr, hts, hown, hlocks⟩ := id X
  have hl : lv_has ls 2 [(0, .ref (q 9)), (1, .int (iI p9))] := hl
  have f_21 := hts (Cond.fieldLink RX1 21 "TwoKeys$Music" "sizes" "[I") (by decide +kernel)
  have n_X1 : ∀ w ∈ u_ws RX1 TX1 5, w ∈ wsX1_endOf := by decide +kernel
  have iK := I.nK
  refine lv_iload_n hx hb dX1_endOf_0 rfl (lv_at hl 1 rfl) ?_
  refine lv_bipush (v := iI (40)) hx hb dX1_endOf_1 (by decide) ?_
  refine z_imul hx hb dX1_endOf_3 ?_
  refine lv_aload_n hx hb dX1_endOf_4 rfl (lv_at hl 0 rfl) ?_
  refine va_get (D := D) (ci := 1) (v := .ref (q 13)) (C := RX1) (T := TX1) (N := 5) hx hb hts n_X1 hown hK hP 9 rfl rfl 4 (by decide) f_21 (fun _ h9 => h9) rfl dX1_endOf_5 ?_
  refine lv_iload_n hx hb dX1_endOf_8 rfl (lv_at hl 1 rfl) ?_
  refine z_iald hx hb hK hP 13 0 rfl rfl (by omega) dX1_endOf_9 ?_
  have b_1 := I.ns p9
  refine z_iadd hx hb dX1_endOf_10 ?_
  exact z_iret X hK hP hD hS dX1_endOf_11 (by first | rfl | omega | grind)

theorem hd_X1_isFull : yX1_isFull.cls = RX1 ∧ yX1_isFull.cls ≠ "java/lang/invoke/MethodHandle" ∧ yX1_isFull.cls ≠ "java/lang/invoke/VarHandle" ∧ (parseMethodDescriptor yX1_isFull.desc).map (fun d => d.parameters.length) = some 1 := by decide +kernel
set_option maxHeartbeats 4000000 in
set_option maxRecDepth 100000 in
theorem c_X1_isFull (I : okS nK st le be te ab bl ka bg ln ns me sc pi re bk) (p9 : Int) (h : 0 ≤ p9 ∧ p9 ≤ 3) : MI l D cy yX1_isFull wsX1_isFull ({ frames := 0, cells := 0, slots := 0, locals := 0 } : Room) [.ref (q 9), .int (iI p9)] (wT q cy nK st le be te ab bl ka bg ln ns me sc pi re bk pa lz go ss sm pf mf) (bP (40 ≤ ns p9)) (wT q cy nK st le be te ab bl ka bg ln ns me sc pi re bk pa lz go ss sm pf mf) := by
  refine MI.ofW (cc := cX1_isFull) (maxL := 2) (ret := (some .boolean)) (by decide) rfl (Nat.le_of_ble_eq_true rfl) ?_
  intro p e s m below meth c A ls X hK hP hD hA hS hl
  obtain ⟨hx, hb, hml, hr, hts, hown, hlocks⟩ := id X
  have hl : lv_has ls 2 [(0, .ref (q 9)), (1, .int (iI p9))] := hl
  have f_21 := hts (Cond.fieldLink RX1 21 "TwoKeys$Music" "sizes" "[I") (by decide +kernel)
  have n_X1 : ∀ w ∈ u_ws RX1 TX1 5, w ∈ wsX1_isFull := by decide +kernel
  have iK := I.nK
  refine lv_aload_n hx hb dX1_isFull_0 rfl (lv_at hl 0 rfl) ?_
  refine va_get (D := D) (ci := 1) (v := .ref (q 13)) (C := RX1) (T := TX1) (N := 5) hx hb hts n_X1 hown hK hP 9 rfl rfl 4 (by decide) f_21 (fun _ h9 => h9) rfl dX1_isFull_1 ?_
  refine lv_iload_n hx hb dX1_isFull_4 rfl (lv_at hl 1 rfl) ?_
  refine z_iald hx hb hK hP 13 0 rfl rfl (by omega) dX1_isFull_5 ?_
  have b_1 := I.ns p9
  refine lv_bipush (v := iI (40)) hx hb dX1_isFull_6 (by decide) ?_
  refine z_icmp_lt (tgt := 15) hx hb dX1_isFull_8 (by decide) (by omega) (fun c_2 => ?_) (fun c_2 => ?_)
  · refine lv_iconst (v := iI (0)) hx hb dX1_isFull_15 rfl ?_
    exact z_pret0 X hK hP hD hS dX1_isFull_16 (by first | rfl | omega | grind)
  · refine lv_iconst (v := iI (1)) hx hb dX1_isFull_11 rfl ?_
    refine lv_goto (tgt := 16) hx hb dX1_isFull_12 (by decide) ?_
    exact z_pret1 X hK hP hD hS dX1_isFull_16 (by first | rfl | omega | grind)

theorem hd_X1_lastBegin : yX1_lastBegin.cls = RX1 ∧ yX1_lastBegin.cls ≠ "java/lang/invoke/MethodHandle" ∧ yX1_lastBegin.cls ≠ "java/lang/invoke/VarHandle" ∧ (parseMethodDescriptor yX1_lastBegin.desc).map (fun d => d.parameters.length) = some 1 := by decide +kernel
set_option maxHeartbeats 4000000 in
set_option maxRecDepth 100000 in
theorem c_X1_lastBegin (I : okS nK st le be te ab bl ka bg ln ns me sc pi re bk) (p9 : Int) (h : 0 ≤ p9 ∧ p9 ≤ 3) : MI l D cy yX1_lastBegin wsX1_lastBegin ({ frames := 1, cells := 0, slots := 0, locals := 21 } : Room) [.ref (q 9), .int (iI p9)] (wT q cy nK st le be te ab bl ka bg ln ns me sc pi re bk pa lz go ss sm pf mf) (if ns p9 = 0 then 0 else bg (p9 * 40 + ns p9 - 1)) (wT q cy nK st le be te ab bl ka bg ln ns me sc pi re bk pa lz go ss sm pf mf) := by
  refine MI.ofW (cc := cX1_lastBegin) (maxL := 2) (ret := (some .int)) (by decide) rfl (Nat.le_of_ble_eq_true rfl) ?_
  intro p e s m below meth c A ls X hK hP hD hA hS hl
  obtain ⟨hx, hb, hml, hr, hts, hown, hlocks⟩ := id X
  have hl : lv_has ls 2 [(0, .ref (q 9)), (1, .int (iI p9))] := hl
  have f_21 := hts (Cond.fieldLink RX1 21 "TwoKeys$Music" "sizes" "[I") (by decide +kernel)
  have f_15 := hts (Cond.fieldLink RX1 15 "TwoKeys$Music" "beginAt" "[I") (by decide +kernel)
  have n_X1 : ∀ w ∈ u_ws RX1 TX1 5, w ∈ wsX1_lastBegin := by decide +kernel
  have iK := I.nK
  refine lv_aload_n hx hb dX1_lastBegin_0 rfl (lv_at hl 0 rfl) ?_
  refine va_get (D := D) (ci := 1) (v := .ref (q 13)) (C := RX1) (T := TX1) (N := 5) hx hb hts n_X1 hown hK hP 9 rfl rfl 4 (by decide) f_21 (fun _ h9 => h9) rfl dX1_lastBegin_1 ?_
  refine lv_iload_n hx hb dX1_lastBegin_4 rfl (lv_at hl 1 rfl) ?_
  refine z_iald hx hb hK hP 13 0 rfl rfl (by omega) dX1_lastBegin_5 ?_
  have b_1 := I.ns p9
  refine z_if_ne (tgt := 13) hx hb dX1_lastBegin_6 (by decide) (by omega) (fun c_2 => ?_) (fun c_2 => ?_)
  · refine lv_aload_n hx hb dX1_lastBegin_13 rfl (lv_at hl 0 rfl) ?_
    refine va_get (D := D) (ci := 1) (v := .ref (q 11)) (C := RX1) (T := TX1) (N := 5) hx hb hts n_X1 hown hK hP 9 rfl rfl 2 (by decide) f_15 (fun _ h9 => h9) rfl dX1_lastBegin_14 ?_
    refine lv_aload_n hx hb dX1_lastBegin_17 rfl (lv_at hl 0 rfl) ?_
    refine lv_iload_n hx hb dX1_lastBegin_18 rfl (lv_at hl 1 rfl) ?_
    refine z_callVi (ci := 1) (q0 := 9) (As := [.int (iI p9)]) (rest := [.ref (q 11)]) X hK hP hD hA hS hl.1 gX1_lastBegin_X1_endOf rfl ⟨rfl, rfl⟩ hd_X1_endOf ⟨Nat.le_of_ble_eq_true rfl, Nat.le_of_ble_eq_true rfl⟩ rfl rfl rfl (Nat.le_of_ble_eq_true rfl) ⟨Nat.zero_le _, Nat.zero_le _⟩ rfl dX1_lastBegin_19 (c_X1_endOf I p9 (by omega)) (fun H locs hP hD hS => ?_)
    refine lv_iconst (v := iI (1)) hx hb dX1_lastBegin_22 rfl ?_
    refine z_isub hx hb dX1_lastBegin_23 ?_
    refine z_iald hx hb hK hP 11 0 rfl rfl (by omega) dX1_lastBegin_24 ?_
    have b_3 := I.bg ((p9 * 40 + ns p9) - 1)
    exact z_iret X hK hP hD hS dX1_lastBegin_25 (by first | rw [if_pos (by assumption)] | rw [if_neg (by assumption)])
  · refine lv_iconst (v := iI (0)) hx hb dX1_lastBegin_9 rfl ?_
    refine lv_goto (tgt := 25) hx hb dX1_lastBegin_10 (by decide) ?_
    exact z_iret X hK hP hD hS dX1_lastBegin_25 (by first | rw [if_pos (by assumption)] | rw [if_neg (by assumption)])

theorem hd_X1_append : yX1_append.cls = RX1 ∧ yX1_append.cls ≠ "java/lang/invoke/MethodHandle" ∧ yX1_append.cls ≠ "java/lang/invoke/VarHandle" ∧ (parseMethodDescriptor yX1_append.desc).map (fun d => d.parameters.length) = some 4 := by decide +kernel
set_option maxHeartbeats 4000000 in
set_option maxRecDepth 100000 in
theorem c_X1_append (I : okS nK st le be te ab bl ka bg ln ns me sc pi re bk) (p9 : Int) (k : Int) (b9 : Int) (l9 : Int) (h : 0 ≤ p9 ∧ p9 ≤ 3) (h2 : ns p9 < 40) : MI l D cy yX1_append wsX1_append ({ frames := 1, cells := 0, slots := 0, locals := 21 } : Room) [.ref (q 9), .int (iI p9), .int (iI k), .int (iI b9), .int (iI l9)] (wT q cy nK st le be te ab bl ka bg ln ns me sc pi re bk pa lz go ss sm pf mf) (ns p9) (wT q cy nK st le be te ab bl (uZ ka (p9 * 40 + ns p9) k) (uZ bg (p9 * 40 + ns p9) b9) (uZ ln (p9 * 40 + ns p9) l9) (uZ ns p9 (ns p9 + 1)) me sc pi re bk pa lz go ss sm pf mf) := by
  refine MI.ofW (cc := cX1_append) (maxL := 6) (ret := (some .int)) (by decide) rfl (Nat.le_of_ble_eq_true rfl) ?_
  intro p e s m below meth c A ls X hK hP hD hA hS hl
  obtain ⟨hx, hb, hml, hr, hts, hown, hlocks⟩ := id X
  have hl : lv_has ls 6 [(0, .ref (q 9)), (1, .int (iI p9)), (2, .int (iI k)), (3, .int (iI b9)), (4, .int (iI l9))] := hl
  have f_9 := hts (Cond.fieldLink RX1 9 "TwoKeys$Music" "keyAt" "[I") (by decide +kernel)
  have f_15 := hts (Cond.fieldLink RX1 15 "TwoKeys$Music" "beginAt" "[I") (by decide +kernel)
  have f_18 := hts (Cond.fieldLink RX1 18 "TwoKeys$Music" "lengthAt" "[I") (by decide +kernel)
  have f_21 := hts (Cond.fieldLink RX1 21 "TwoKeys$Music" "sizes" "[I") (by decide +kernel)
  have n_X1 : ∀ w ∈ u_ws RX1 TX1 5, w ∈ wsX1_append := by decide +kernel
  have iK := I.nK
  have i9 := I.ns p9
  refine lv_aload_n hx hb dX1_append_0 rfl (lv_at hl 0 rfl) ?_
  refine lv_iload_n hx hb dX1_append_1 rfl (lv_at hl 1 rfl) ?_
  refine z_callVi (ci := 1) (q0 := 9) (As := [.int (iI p9)]) (rest := []) X hK hP hD hA hS hl.1 gX1_append_X1_endOf rfl ⟨rfl, rfl⟩ hd_X1_endOf ⟨Nat.le_of_ble_eq_true rfl, Nat.le_of_ble_eq_true rfl⟩ rfl rfl rfl (Nat.le_of_ble_eq_true rfl) ⟨Nat.zero_le _, Nat.zero_le _⟩ rfl dX1_append_2 (c_X1_endOf I p9 (by omega)) (fun H locs hP hD hS => ?_)
  refine lv_istore (lv' := [(5, .int (iI (p9 * 40 + ns p9))), (0, .ref (q 9)), (1, .int (iI p9)), (2, .int (iI k)), (3, .int (iI b9)), (4, .int (iI l9))]) hx hb dX1_append_5 hl (by decide) rfl (fun ls hl => ?_)
  refine lv_aload_n hx hb dX1_append_7 rfl (lv_at hl 1 rfl) ?_
  refine va_get (D := D) (ci := 1) (v := .ref (q 10)) (C := RX1) (T := TX1) (N := 5) hx hb hts n_X1 hown hK hP 9 rfl rfl 1 (by decide) f_9 (fun _ h9 => h9) rfl dX1_append_8 ?_
  refine lv_iload hx hb dX1_append_11 (lv_at hl 0 rfl) ?_
  refine lv_iload_n hx hb dX1_append_13 rfl (lv_at hl 3 rfl) ?_
  refine z_iast (v := k) hx hb hK hP hD hS 10 0 rfl rfl (by omega) dX1_append_14 (fun H locs hP hD hS => ?_)
  have hP : va_P D vwCl (wT q cy nK st le be te ab bl (uZ ka (p9 * 40 + ns p9) k) bg ln ns me sc pi re bk pa lz go ss sm pf mf) H := hP
  have hD : va_D A (wT q cy nK st le be te ab bl (uZ ka (p9 * 40 + ns p9) k) bg ln ns me sc pi re bk pa lz go ss sm pf mf) := hD
  refine lv_aload_n hx hb dX1_append_15 rfl (lv_at hl 1 rfl) ?_
  refine va_get (D := D) (ci := 1) (v := .ref (q 11)) (C := RX1) (T := TX1) (N := 5) hx hb hts n_X1 hown hK hP 9 rfl rfl 2 (by decide) f_15 (fun _ h9 => h9) rfl dX1_append_16 ?_
  refine lv_iload hx hb dX1_append_19 (lv_at hl 0 rfl) ?_
  refine lv_iload_n hx hb dX1_append_21 rfl (lv_at hl 4 rfl) ?_
  refine z_iast (v := b9) hx hb hK hP hD hS 11 0 rfl rfl (by omega) dX1_append_22 (fun H locs hP hD hS => ?_)
  have hP : va_P D vwCl (wT q cy nK st le be te ab bl (uZ ka (p9 * 40 + ns p9) k) (uZ bg (p9 * 40 + ns p9) b9) ln ns me sc pi re bk pa lz go ss sm pf mf) H := hP
  have hD : va_D A (wT q cy nK st le be te ab bl (uZ ka (p9 * 40 + ns p9) k) (uZ bg (p9 * 40 + ns p9) b9) ln ns me sc pi re bk pa lz go ss sm pf mf) := hD
  refine lv_aload_n hx hb dX1_append_23 rfl (lv_at hl 1 rfl) ?_
  refine va_get (D := D) (ci := 1) (v := .ref (q 12)) (C := RX1) (T := TX1) (N := 5) hx hb hts n_X1 hown hK hP 9 rfl rfl 3 (by decide) f_18 (fun _ h9 => h9) rfl dX1_append_24 ?_
  refine lv_iload hx hb dX1_append_27 (lv_at hl 0 rfl) ?_
  refine lv_iload hx hb dX1_append_29 (lv_at hl 5 rfl) ?_
  refine z_iast (v := l9) hx hb hK hP hD hS 12 0 rfl rfl (by omega) dX1_append_31 (fun H locs hP hD hS => ?_)
  have hP : va_P D vwCl (wT q cy nK st le be te ab bl (uZ ka (p9 * 40 + ns p9) k) (uZ bg (p9 * 40 + ns p9) b9) (uZ ln (p9 * 40 + ns p9) l9) ns me sc pi re bk pa lz go ss sm pf mf) H := hP
  have hD : va_D A (wT q cy nK st le be te ab bl (uZ ka (p9 * 40 + ns p9) k) (uZ bg (p9 * 40 + ns p9) b9) (uZ ln (p9 * 40 + ns p9) l9) ns me sc pi re bk pa lz go ss sm pf mf) := hD
  refine lv_aload_n hx hb dX1_append_32 rfl (lv_at hl 1 rfl) ?_
  refine va_get (D := D) (ci := 1) (v := .ref (q 13)) (C := RX1) (T := TX1) (N := 5) hx hb hts n_X1 hown hK hP 9 rfl rfl 4 (by decide) f_21 (fun _ h9 => h9) rfl dX1_append_33 ?_
  refine lv_iload_n hx hb dX1_append_36 rfl (lv_at hl 2 rfl) ?_
  refine lv_dup2_11 hx hb dX1_append_37 rfl rfl ?_
  refine z_iald hx hb hK hP 13 0 rfl rfl (by omega) dX1_append_38 ?_
  have b_1 := I.ns p9
  refine lv_iconst (v := iI (1)) hx hb dX1_append_39 rfl ?_
  refine z_iadd hx hb dX1_append_40 ?_
  refine z_iast (v := (ns p9) + 1) hx hb hK hP hD hS 13 0 rfl rfl (by omega) dX1_append_41 (fun H locs hP hD hS => ?_)
  have hP : va_P D vwCl (wT q cy nK st le be te ab bl (uZ ka (p9 * 40 + ns p9) k) (uZ bg (p9 * 40 + ns p9) b9) (uZ ln (p9 * 40 + ns p9) l9) (uZ ns p9 ((ns p9) + 1)) me sc pi re bk pa lz go ss sm pf mf) H := hP
  have hD : va_D A (wT q cy nK st le be te ab bl (uZ ka (p9 * 40 + ns p9) k) (uZ bg (p9 * 40 + ns p9) b9) (uZ ln (p9 * 40 + ns p9) l9) (uZ ns p9 ((ns p9) + 1)) me sc pi re bk pa lz go ss sm pf mf) := hD
  refine lv_aload_n hx hb dX1_append_42 rfl (lv_at hl 1 rfl) ?_
  refine va_get (D := D) (ci := 1) (v := .ref (q 13)) (C := RX1) (T := TX1) (N := 5) hx hb hts n_X1 hown hK hP 9 rfl rfl 4 (by decide) f_21 (fun _ h9 => h9) rfl dX1_append_43 ?_
  refine lv_iload_n hx hb dX1_append_46 rfl (lv_at hl 2 rfl) ?_
  refine z_iald hx hb hK hP 13 0 rfl rfl (by omega) dX1_append_47 ?_
  refine lv_iconst (v := iI (1)) hx hb dX1_append_48 rfl ?_
  refine z_isub hx hb dX1_append_49 ?_
  exact z_iret X hK hP hD hS dX1_append_50 (by show uZ ns p9 (ns p9 + 1) p9 - 1 = ns p9; unfold uZ; rw [if_pos rfl]; omega)

theorem hd_X1_countNotes : yX1_countNotes.cls = RX1 ∧ yX1_countNotes.cls ≠ "java/lang/invoke/MethodHandle" ∧ yX1_countNotes.cls ≠ "java/lang/invoke/VarHandle" ∧ (parseMethodDescriptor yX1_countNotes.desc).map (fun d => d.parameters.length) = some 0 := by decide +kernel
set_option maxHeartbeats 4000000 in
set_option maxRecDepth 100000 in
theorem c_X1_countNotes (I : okS nK st le be te ab bl ka bg ln ns me sc pi re bk)   : MI l D cy yX1_countNotes wsX1_countNotes ({ frames := 0, cells := 0, slots := 0, locals := 0 } : Room) [.ref (q 9)] (wT q cy nK st le be te ab bl ka bg ln ns me sc pi re bk pa lz go ss sm pf mf) (sZ ns 0 4) (wT q cy nK st le be te ab bl ka bg ln ns me sc pi re bk pa lz go ss sm pf mf) := by
  refine MI.ofW (cc := cX1_countNotes) (maxL := 3) (ret := (some .int)) (by decide) rfl (Nat.le_of_ble_eq_true rfl) ?_
  intro p e s m below meth c A ls X hK hP hD hA hS hl
  obtain ⟨hx, hb, hml, hr, hts, hown, hlocks⟩ := id X
  have hl : lv_has ls 3 [(0, .ref (q 9))] := hl
  have f_21 := hts (Cond.fieldLink RX1 21 "TwoKeys$Music" "sizes" "[I") (by decide +kernel)
  have n_X1 : ∀ w ∈ u_ws RX1 TX1 5, w ∈ wsX1_countNotes := by decide +kernel
  have iK := I.nK
  refine lv_iconst (v := iI (0)) hx hb dX1_countNotes_0 rfl ?_
  refine lv_istore_n (lv' := [(1, .int (iI 0)), (0, .ref (q 9))]) hx hb dX1_countNotes_1 rfl hl (by decide) rfl (fun ls hl => ?_)
  refine lv_iconst (v := iI (0)) hx hb dX1_countNotes_2 rfl ?_
  refine lv_istore_n (lv' := [(2, .int (iI 0)), (1, .int (iI 0)), (0, .ref (q 9))]) hx hb dX1_countNotes_3 rfl hl (by decide) rfl (fun ls hl => ?_)
  have L_4 : ∀ (n : Nat) (acc : Int) (p9 : Int), (h0 : 0 ≤ p9 ∧ p9 ≤ 4) → (hf : 4 - p9 < n) → (hr : acc = sZ ns 0 p9) → ∀ (H : Heap) (locs : List Loc) (ls : Array Slot), va_P D vwCl (wT q cy nK st le be te ab bl ka bg ln ns me sc pi re bk pa lz go ss sm pf mf) H → va_D A (wT q cy nK st le be te ab bl ka bg ln ns me sc pi re bk pa lz go ss sm pf mf) → va_S A s.heap H locs → lv_has ls 3 [(2, .int (iI p9)), (1, .int (iI acc)), (0, .ref (q 9))] → W p l e ({ frames := 0, cells := 0, slots := 0, locals := 0 } : Room) s m [.ref (q 9)].toArray below meth c H locs 0 0 (MQ below (zQi D cy (wT q cy nK st le be te ab bl ka bg ln ns me sc pi re bk pa lz go ss sm pf mf) A (sZ ns 0 4)) [.ref (q 9)].toArray s 0 0 A) (F0 m 4 ls []) := by
    intro n
    induction n with
    | zero =>
      intro acc p9 h0 hf hr
      exfalso; omega
    | succ n ih_4 =>
      intro acc p9 h0 hf hr H locs ls hP hD hS hl
      refine lv_iload_n hx hb dX1_countNotes_4 rfl (lv_at hl 0 rfl) ?_
      refine lv_iconst (v := iI (4)) hx hb dX1_countNotes_5 rfl ?_
      refine z_icmp_ge (tgt := 24) hx hb dX1_countNotes_6 (by decide) (by omega) (fun c_1 => ?_) (fun c_1 => ?_)
      · refine lv_iload_n hx hb dX1_countNotes_24 rfl (lv_at hl 1 rfl) ?_
        exact z_iret X hK hP hD hS dX1_countNotes_25 (by rw [hr, show p9 = 4 by omega])
      · refine lv_iload_n hx hb dX1_countNotes_9 rfl (lv_at hl 1 rfl) ?_
        refine lv_aload_n hx hb dX1_countNotes_10 rfl (lv_at hl 2 rfl) ?_
        refine va_get (D := D) (ci := 1) (v := .ref (q 13)) (C := RX1) (T := TX1) (N := 5) hx hb hts n_X1 hown hK hP 9 rfl rfl 4 (by decide) f_21 (fun _ h9 => h9) rfl dX1_countNotes_11 ?_
        refine lv_iload_n hx hb dX1_countNotes_14 rfl (lv_at hl 0 rfl) ?_
        refine z_iald hx hb hK hP 13 0 rfl rfl (by omega) dX1_countNotes_15 ?_
        have b_2 := I.ns p9
        refine z_iadd hx hb dX1_countNotes_16 ?_
        refine lv_istore_n (lv' := [(1, .int (iI (acc + (ns p9)))), (2, .int (iI p9)), (0, .ref (q 9))]) hx hb dX1_countNotes_17 rfl hl (by decide) rfl (fun ls hl => ?_)
        refine lv_iinc (v := iI (p9 + 1)) (lv' := [(2, .int (iI (p9 + 1))), (1, .int (iI (acc + (ns p9)))), (0, .ref (q 9))]) hx hb dX1_countNotes_18 hl (k := 1) rfl (iI_add _ _) (by decide) rfl (fun ls hl => ?_)
        refine lv_goto (tgt := 4) hx hb dX1_countNotes_21 (by decide) ?_
        exact ih_4 (acc + (ns p9)) (p9 + 1) (by omega) (by omega) (by rw [sZ_step (by omega), ← hr]) _ _ _ hP hD hS (lv_sub hl [0, 1, 2] rfl)
  exact L_4 5 0 0 (by omega) (by omega) ((sZ_nil (by omega)).symm) _ _ _ hP hD hS (lv_sub hl [0, 1, 2] rfl)

theorem hd_X1_tickBehind : yX1_tickBehind.cls = RX1 ∧ yX1_tickBehind.cls ≠ "java/lang/invoke/MethodHandle" ∧ yX1_tickBehind.cls ≠ "java/lang/invoke/VarHandle" ∧ (parseMethodDescriptor yX1_tickBehind.desc).map (fun d => d.parameters.length) = some 1 := by decide +kernel
set_option maxHeartbeats 4000000 in
set_option maxRecDepth 100000 in
theorem c_X1_tickBehind (I : okS nK st le be te ab bl ka bg ln ns me sc pi re bk) (a : Int) (h : 0 ≤ a ∧ a < 160) : MI l D cy yX1_tickBehind wsX1_tickBehind ({ frames := 0, cells := 0, slots := 0, locals := 0 } : Room) [.ref (q 9), .int (iI a)] (wT q cy nK st le be te ab bl ka bg ln ns me sc pi re bk pa lz go ss sm pf mf) (bg a + ln a) (wT q cy nK st le be te ab bl ka bg ln ns me sc pi re bk pa lz go ss sm pf mf) := by
  refine MI.ofW (cc := cX1_tickBehind) (maxL := 2) (ret := (some .int)) (by decide) rfl (Nat.le_of_ble_eq_true rfl) ?_
  intro p e s m below meth c A ls X hK hP hD hA hS hl
  obtain ⟨hx, hb, hml, hr, hts, hown, hlocks⟩ := id X
  have hl : lv_has ls 2 [(0, .ref (q 9)), (1, .int (iI a))] := hl
  have f_15 := hts (Cond.fieldLink RX1 15 "TwoKeys$Music" "beginAt" "[I") (by decide +kernel)
  have f_18 := hts (Cond.fieldLink RX1 18 "TwoKeys$Music" "lengthAt" "[I") (by decide +kernel)
  have n_X1 : ∀ w ∈ u_ws RX1 TX1 5, w ∈ wsX1_tickBehind := by decide +kernel
  have iK := I.nK
  refine lv_aload_n hx hb dX1_tickBehind_0 rfl (lv_at hl 0 rfl) ?_
  refine va_get (D := D) (ci := 1) (v := .ref (q 11)) (C := RX1) (T := TX1) (N := 5) hx hb hts n_X1 hown hK hP 9 rfl rfl 2 (by decide) f_15 (fun _ h9 => h9) rfl dX1_tickBehind_1 ?_
  refine lv_iload_n hx hb dX1_tickBehind_4 rfl (lv_at hl 1 rfl) ?_
  refine z_iald hx hb hK hP 11 0 rfl rfl (by omega) dX1_tickBehind_5 ?_
  have b_1 := I.bg a
  refine lv_aload_n hx hb dX1_tickBehind_6 rfl (lv_at hl 0 rfl) ?_
  refine va_get (D := D) (ci := 1) (v := .ref (q 12)) (C := RX1) (T := TX1) (N := 5) hx hb hts n_X1 hown hK hP 9 rfl rfl 3 (by decide) f_18 (fun _ h9 => h9) rfl dX1_tickBehind_7 ?_
  refine lv_iload_n hx hb dX1_tickBehind_10 rfl (lv_at hl 1 rfl) ?_
  refine z_iald hx hb hK hP 12 0 rfl rfl (by omega) dX1_tickBehind_11 ?_
  have b_2 := I.ln a
  refine z_iadd hx hb dX1_tickBehind_12 ?_
  exact z_iret X hK hP hD hS dX1_tickBehind_13 (by first | rfl | omega | grind)

theorem hd_X1_soundsAt : yX1_soundsAt.cls = RX1 ∧ yX1_soundsAt.cls ≠ "java/lang/invoke/MethodHandle" ∧ yX1_soundsAt.cls ≠ "java/lang/invoke/VarHandle" ∧ (parseMethodDescriptor yX1_soundsAt.desc).map (fun d => d.parameters.length) = some 2 := by decide +kernel
set_option maxHeartbeats 4000000 in
set_option maxRecDepth 100000 in
theorem c_X1_soundsAt (I : okS nK st le be te ab bl ka bg ln ns me sc pi re bk) (a : Int) (t9 : Int) (h : 0 ≤ a ∧ a < 160) (h2 : -2147483648 ≤ t9 ∧ t9 ≤ 2147483647) : MI l D cy yX1_soundsAt wsX1_soundsAt ({ frames := 1, cells := 0, slots := 0, locals := 21 } : Room) [.ref (q 9), .int (iI a), .int (iI t9)] (wT q cy nK st le be te ab bl ka bg ln ns me sc pi re bk pa lz go ss sm pf mf) (bP (bg a ≤ t9 ∧ t9 < bg a + ln a)) (wT q cy nK st le be te ab bl ka bg ln ns me sc pi re bk pa lz go ss sm pf mf) := by
  refine MI.ofW (cc := cX1_soundsAt) (maxL := 3) (ret := (some .boolean)) (by decide) rfl (Nat.le_of_ble_eq_true rfl) ?_
  intro p e s m below meth c A ls X hK hP hD hA hS hl
  obtain ⟨hx, hb, hml, hr, hts, hown, hlocks⟩ := id X
  have hl : lv_has ls 3 [(0, .ref (q 9)), (1, .int (iI a)), (2, .int (iI t9))] := hl
  have f_15 := hts (Cond.fieldLink RX1 15 "TwoKeys$Music" "beginAt" "[I") (by decide +kernel)
  have n_X1 : ∀ w ∈ u_ws RX1 TX1 5, w ∈ wsX1_soundsAt := by decide +kernel
  have iK := I.nK
  have := I.ln a
  have := I.bg a
  refine lv_aload_n hx hb dX1_soundsAt_0 rfl (lv_at hl 0 rfl) ?_
  refine va_get (D := D) (ci := 1) (v := .ref (q 11)) (C := RX1) (T := TX1) (N := 5) hx hb hts n_X1 hown hK hP 9 rfl rfl 2 (by decide) f_15 (fun _ h9 => h9) rfl dX1_soundsAt_1 ?_
  refine lv_iload_n hx hb dX1_soundsAt_4 rfl (lv_at hl 1 rfl) ?_
  refine z_iald hx hb hK hP 11 0 rfl rfl (by omega) dX1_soundsAt_5 ?_
  have b_1 := I.bg a
  refine lv_iload_n hx hb dX1_soundsAt_6 rfl (lv_at hl 2 rfl) ?_
  refine z_icmp_gt (tgt := 23) hx hb dX1_soundsAt_7 (by decide) (by omega) (fun c_2 => ?_) (fun c_2 => ?_)
  · refine lv_iconst (v := iI (0)) hx hb dX1_soundsAt_23 rfl ?_
    exact z_pret0 X hK hP hD hS dX1_soundsAt_24 (by first | rfl | omega | grind)
  · refine lv_iload_n hx hb dX1_soundsAt_10 rfl (lv_at hl 2 rfl) ?_
    refine lv_aload_n hx hb dX1_soundsAt_11 rfl (lv_at hl 0 rfl) ?_
    refine lv_iload_n hx hb dX1_soundsAt_12 rfl (lv_at hl 1 rfl) ?_
    refine z_callVi (ci := 1) (q0 := 9) (As := [.int (iI a)]) (rest := [.int (iI t9)]) X hK hP hD hA hS hl.1 gX1_soundsAt_X1_tickBehind rfl ⟨rfl, rfl⟩ hd_X1_tickBehind ⟨Nat.le_of_ble_eq_true rfl, Nat.le_of_ble_eq_true rfl⟩ rfl rfl rfl (Nat.le_of_ble_eq_true rfl) ⟨Nat.zero_le _, Nat.zero_le _⟩ rfl dX1_soundsAt_13 (c_X1_tickBehind I a (by omega)) (fun H locs hP hD hS => ?_)
    refine z_icmp_ge (tgt := 23) hx hb dX1_soundsAt_16 (by decide) (by omega) (fun c_3 => ?_) (fun c_3 => ?_)
    · refine lv_iconst (v := iI (0)) hx hb dX1_soundsAt_23 rfl ?_
      exact z_pret0 X hK hP hD hS dX1_soundsAt_24 (by first | rfl | omega | grind)
    · refine lv_iconst (v := iI (1)) hx hb dX1_soundsAt_19 rfl ?_
      refine lv_goto (tgt := 24) hx hb dX1_soundsAt_20 (by decide) ?_
      exact z_pret1 X hK hP hD hS dX1_soundsAt_24 (by first | rfl | omega | grind)

theorem hd_X1_soundAtOnce : yX1_soundAtOnce.cls = RX1 ∧ yX1_soundAtOnce.cls ≠ "java/lang/invoke/MethodHandle" ∧ yX1_soundAtOnce.cls ≠ "java/lang/invoke/VarHandle" ∧ (parseMethodDescriptor yX1_soundAtOnce.desc).map (fun d => d.parameters.length) = some 2 := by decide +kernel
set_option maxHeartbeats 4000000 in
set_option maxRecDepth 100000 in
theorem c_X1_soundAtOnce (I : okS nK st le be te ab bl ka bg ln ns me sc pi re bk) (a : Int) (b : Int) (h : 0 ≤ a ∧ a < 160) (h2 : 0 ≤ b ∧ b < 160) : MI l D cy yX1_soundAtOnce wsX1_soundAtOnce ({ frames := 1, cells := 0, slots := 0, locals := 21 } : Room) [.ref (q 9), .int (iI a), .int (iI b)] (wT q cy nK st le be te ab bl ka bg ln ns me sc pi re bk pa lz go ss sm pf mf) (bP (onP bg ln a b)) (wT q cy nK st le be te ab bl ka bg ln ns me sc pi re bk pa lz go ss sm pf mf) := by
  refine MI.ofW (cc := cX1_soundAtOnce) (maxL := 3) (ret := (some .boolean)) (by decide) rfl (Nat.le_of_ble_eq_true rfl) ?_
  intro p e s m below meth c A ls X hK hP hD hA hS hl
  obtain ⟨hx, hb, hml, hr, hts, hown, hlocks⟩ := id X
  have hl : lv_has ls 3 [(0, .ref (q 9)), (1, .int (iI a)), (2, .int (iI b))] := hl
  have f_15 := hts (Cond.fieldLink RX1 15 "TwoKeys$Music" "beginAt" "[I") (by decide +kernel)
  have n_X1 : ∀ w ∈ u_ws RX1 TX1 5, w ∈ wsX1_soundAtOnce := by decide +kernel
  have iK := I.nK
  have := I.ln a
  have := I.bg a
  have := I.ln b
  have := I.bg b
  refine lv_aload_n hx hb dX1_soundAtOnce_0 rfl (lv_at hl 0 rfl) ?_
  refine va_get (D := D) (ci := 1) (v := .ref (q 11)) (C := RX1) (T := TX1) (N := 5) hx hb hts n_X1 hown hK hP 9 rfl rfl 2 (by decide) f_15 (fun _ h9 => h9) rfl dX1_soundAtOnce_1 ?_
  refine lv_iload_n hx hb dX1_soundAtOnce_4 rfl (lv_at hl 1 rfl) ?_
  refine z_iald hx hb hK hP 11 0 rfl rfl (by omega) dX1_soundAtOnce_5 ?_
  have b_1 := I.bg a
  refine lv_aload_n hx hb dX1_soundAtOnce_6 rfl (lv_at hl 0 rfl) ?_
  refine lv_iload_n hx hb dX1_soundAtOnce_7 rfl (lv_at hl 2 rfl) ?_
  refine z_callVi (ci := 1) (q0 := 9) (As := [.int (iI b)]) (rest := [.int (iI (bg a))]) X hK hP hD hA hS hl.1 gX1_soundAtOnce_X1_tickBehind rfl ⟨rfl, rfl⟩ hd_X1_tickBehind ⟨Nat.le_of_ble_eq_true rfl, Nat.le_of_ble_eq_true rfl⟩ rfl rfl rfl (Nat.le_of_ble_eq_true rfl) ⟨Nat.zero_le _, Nat.zero_le _⟩ rfl dX1_soundAtOnce_8 (c_X1_tickBehind I b (by omega)) (fun H locs hP hD hS => ?_)
  refine z_icmp_ge (tgt := 32) hx hb dX1_soundAtOnce_11 (by decide) (by omega) (fun c_2 => ?_) (fun c_2 => ?_)
  · refine lv_iconst (v := iI (0)) hx hb dX1_soundAtOnce_32 rfl ?_
    exact z_pret0 X hK hP hD hS dX1_soundAtOnce_33 (by first | rfl | omega | grind)
  · refine lv_aload_n hx hb dX1_soundAtOnce_14 rfl (lv_at hl 0 rfl) ?_
    refine va_get (D := D) (ci := 1) (v := .ref (q 11)) (C := RX1) (T := TX1) (N := 5) hx hb hts n_X1 hown hK hP 9 rfl rfl 2 (by decide) f_15 (fun _ h9 => h9) rfl dX1_soundAtOnce_15 ?_
    refine lv_iload_n hx hb dX1_soundAtOnce_18 rfl (lv_at hl 2 rfl) ?_
    refine z_iald hx hb hK hP 11 0 rfl rfl (by omega) dX1_soundAtOnce_19 ?_
    have b_3 := I.bg b
    refine lv_aload_n hx hb dX1_soundAtOnce_20 rfl (lv_at hl 0 rfl) ?_
    refine lv_iload_n hx hb dX1_soundAtOnce_21 rfl (lv_at hl 1 rfl) ?_
    refine z_callVi (ci := 1) (q0 := 9) (As := [.int (iI a)]) (rest := [.int (iI (bg b))]) X hK hP hD hA hS hl.1 gX1_soundAtOnce_X1_tickBehind rfl ⟨rfl, rfl⟩ hd_X1_tickBehind ⟨Nat.le_of_ble_eq_true rfl, Nat.le_of_ble_eq_true rfl⟩ rfl rfl rfl (Nat.le_of_ble_eq_true rfl) ⟨Nat.zero_le _, Nat.zero_le _⟩ rfl dX1_soundAtOnce_22 (c_X1_tickBehind I a (by omega)) (fun H locs hP hD hS => ?_)
    refine z_icmp_ge (tgt := 32) hx hb dX1_soundAtOnce_25 (by decide) (by omega) (fun c_4 => ?_) (fun c_4 => ?_)
    · refine lv_iconst (v := iI (0)) hx hb dX1_soundAtOnce_32 rfl ?_
      exact z_pret0 X hK hP hD hS dX1_soundAtOnce_33 (by first | rfl | omega | grind)
    · refine lv_iconst (v := iI (1)) hx hb dX1_soundAtOnce_28 rfl ?_
      refine lv_goto (tgt := 33) hx hb dX1_soundAtOnce_29 (by decide) ?_
      exact z_pret1 X hK hP hD hS dX1_soundAtOnce_33 (by first | rfl | omega | grind)

theorem hd_X1_doClash : yX1_doClash.cls = RX1 ∧ yX1_doClash.cls ≠ "java/lang/invoke/MethodHandle" ∧ yX1_doClash.cls ≠ "java/lang/invoke/VarHandle" ∧ (parseMethodDescriptor yX1_doClash.desc).map (fun d => d.parameters.length) = some 2 := by decide +kernel
set_option maxHeartbeats 4000000 in
set_option maxRecDepth 100000 in
theorem c_X1_doClash (I : okS nK st le be te ab bl ka bg ln ns me sc pi re bk) (a : Int) (b : Int) (h : 0 ≤ a ∧ a < 160) (h2 : 0 ≤ b ∧ b < 160) : MI l D cy yX1_doClash wsX1_doClash ({ frames := 2, cells := 0, slots := 0, locals := 43 } : Room) [.ref (q 9), .int (iI a), .int (iI b)] (wT q cy nK st le be te ab bl ka bg ln ns me sc pi re bk pa lz go ss sm pf mf) (bP (clP nK st ka bg ln a b)) (wT q cy nK st le be te ab bl ka bg ln ns me sc pi re bk pa lz go ss sm pf mf) := by
  refine MI.ofW (cc := cX1_doClash) (maxL := 3) (ret := (some .boolean)) (by decide) rfl (Nat.le_of_ble_eq_true rfl) ?_
  intro p e s m below meth c A ls X hK hP hD hA hS hl
  obtain ⟨hx, hb, hml, hr, hts, hown, hlocks⟩ := id X
  have hl : lv_has ls 3 [(0, .ref (q 9)), (1, .int (iI a)), (2, .int (iI b))] := hl
  have f_24 := hts (Cond.fieldLink RX1 24 "TwoKeys$Music" "board" "LTwoKeys$Board;") (by decide +kernel)
  have f_9 := hts (Cond.fieldLink RX1 9 "TwoKeys$Music" "keyAt" "[I") (by decide +kernel)
  have n_X1 : ∀ w ∈ u_ws RX1 TX1 5, w ∈ wsX1_doClash := by decide +kernel
  have iK := I.nK
  refine lv_aload_n hx hb dX1_doClash_0 rfl (lv_at hl 0 rfl) ?_
  refine va_get (D := D) (ci := 1) (v := .ref (q 1)) (C := RX1) (T := TX1) (N := 5) hx hb hts n_X1 hown hK hP 9 rfl rfl 0 (by decide) f_24 (fun _ h9 => h9) rfl dX1_doClash_1 ?_
  refine lv_aload_n hx hb dX1_doClash_4 rfl (lv_at hl 0 rfl) ?_
  refine va_get (D := D) (ci := 1) (v := .ref (q 10)) (C := RX1) (T := TX1) (N := 5) hx hb hts n_X1 hown hK hP 9 rfl rfl 1 (by decide) f_9 (fun _ h9 => h9) rfl dX1_doClash_5 ?_
  refine lv_iload_n hx hb dX1_doClash_8 rfl (lv_at hl 1 rfl) ?_
  refine z_iald hx hb hK hP 10 0 rfl rfl (by omega) dX1_doClash_9 ?_
  have b_1 := I.ka a
  refine lv_aload_n hx hb dX1_doClash_10 rfl (lv_at hl 0 rfl) ?_
  refine va_get (D := D) (ci := 1) (v := .ref (q 10)) (C := RX1) (T := TX1) (N := 5) hx hb hts n_X1 hown hK hP 9 rfl rfl 1 (by decide) f_9 (fun _ h9 => h9) rfl dX1_doClash_11 ?_
  refine lv_iload_n hx hb dX1_doClash_14 rfl (lv_at hl 2 rfl) ?_
  refine z_iald hx hb hK hP 10 0 rfl rfl (by omega) dX1_doClash_15 ?_
  have b_2 := I.ka b
  refine z_callVi (ci := 0) (q0 := 1) (As := [.int (iI (ka a)), .int (iI (ka b))]) (rest := []) X hK hP hD hA hS hl.1 gX1_doClash_X0_doShare rfl ⟨rfl, rfl⟩ hd_X0_doShare ⟨Nat.le_of_ble_eq_true rfl, Nat.le_of_ble_eq_true rfl⟩ rfl rfl rfl (Nat.le_of_ble_eq_true rfl) ⟨Nat.zero_le _, Nat.zero_le _⟩ rfl dX1_doClash_16 (c_X0_doShare I (ka a) (ka b) (by omega)) (fun H locs hP hD hS => ?_)
  refine z_ifp_eq (tgt := 35) hx hb dX1_doClash_19 (by decide) (fun c_3 => ?_) (fun c_3 => ?_)
  · refine lv_iconst (v := iI (0)) hx hb dX1_doClash_35 rfl ?_
    exact z_pret0 X hK hP hD hS dX1_doClash_36 (by first | exact ⟨by assumption, by assumption⟩ | exact fun z => absurd z.1 (by assumption) | exact fun z => absurd z.2 (by assumption))
  · refine lv_aload_n hx hb dX1_doClash_22 rfl (lv_at hl 0 rfl) ?_
    refine lv_iload_n hx hb dX1_doClash_23 rfl (lv_at hl 1 rfl) ?_
    refine lv_iload_n hx hb dX1_doClash_24 rfl (lv_at hl 2 rfl) ?_
    refine z_callVi (ci := 1) (q0 := 9) (As := [.int (iI a), .int (iI b)]) (rest := []) X hK hP hD hA hS hl.1 gX1_doClash_X1_soundAtOnce rfl ⟨rfl, rfl⟩ hd_X1_soundAtOnce ⟨Nat.le_of_ble_eq_true rfl, Nat.le_of_ble_eq_true rfl⟩ rfl rfl rfl (Nat.le_of_ble_eq_true rfl) ⟨Nat.zero_le _, Nat.zero_le _⟩ rfl dX1_doClash_25 (c_X1_soundAtOnce I a b (by omega) (by omega)) (fun H locs hP hD hS => ?_)
    refine z_ifp_eq (tgt := 35) hx hb dX1_doClash_28 (by decide) (fun c_4 => ?_) (fun c_4 => ?_)
    · refine lv_iconst (v := iI (0)) hx hb dX1_doClash_35 rfl ?_
      exact z_pret0 X hK hP hD hS dX1_doClash_36 (by first | exact ⟨by assumption, by assumption⟩ | exact fun z => absurd z.1 (by assumption) | exact fun z => absurd z.2 (by assumption))
    · refine lv_iconst (v := iI (1)) hx hb dX1_doClash_31 rfl ?_
      refine lv_goto (tgt := 36) hx hb dX1_doClash_32 (by decide) ?_
      exact z_pret1 X hK hP hD hS dX1_doClash_36 (by first | exact ⟨by assumption, by assumption⟩ | exact fun z => absurd z.1 (by assumption) | exact fun z => absurd z.2 (by assumption))

theorem hd_X1_countClashes : yX1_countClashes.cls = RX1 ∧ yX1_countClashes.cls ≠ "java/lang/invoke/MethodHandle" ∧ yX1_countClashes.cls ≠ "java/lang/invoke/VarHandle" ∧ (parseMethodDescriptor yX1_countClashes.desc).map (fun d => d.parameters.length) = some 1 := by decide +kernel
set_option maxHeartbeats 4000000 in
set_option maxRecDepth 100000 in
theorem c_X1_countClashes (I : okS nK st le be te ab bl ka bg ln ns me sc pi re bk) (p9 : Int) (h : 0 ≤ p9 ∧ p9 ≤ 3) : MI l D cy yX1_countClashes wsX1_countClashes ({ frames := 3, cells := 0, slots := 0, locals := 65 } : Room) [.ref (q 9), .int (iI p9)] (wT q cy nK st le be te ab bl ka bg ln ns me sc pi re bk pa lz go ss sm pf mf) (clN nK st ka bg ln (p9 * 40) (p9 * 40 + ns p9)) (wT q cy nK st le be te ab bl ka bg ln ns me sc pi re bk pa lz go ss sm pf mf) := by
  refine MI.ofW (cc := cX1_countClashes) (maxL := 5) (ret := (some .int)) (by decide) rfl (Nat.le_of_ble_eq_true rfl) ?_
  intro p e s m below meth c A ls X hK hP hD hA hS hl
  obtain ⟨hx, hb, hml, hr, hts, hown, hlocks⟩ := id X
  have hl : lv_has ls 5 [(0, .ref (q 9)), (1, .int (iI p9))] := hl
  have iK := I.nK
  have i9 := I.ns p9
  refine lv_iconst (v := iI (0)) hx hb dX1_countClashes_0 rfl ?_
  refine lv_istore_n (lv' := [(2, .int (iI 0)), (0, .ref (q 9)), (1, .int (iI p9))]) hx hb dX1_countClashes_1 rfl hl (by decide) rfl (fun ls hl => ?_)
  refine lv_aload_n hx hb dX1_countClashes_2 rfl (lv_at hl 1 rfl) ?_
  refine lv_iload_n hx hb dX1_countClashes_3 rfl (lv_at hl 2 rfl) ?_
  refine z_callVi (ci := 1) (q0 := 9) (As := [.int (iI p9)]) (rest := []) X hK hP hD hA hS hl.1 gX1_countClashes_X1_startOf rfl ⟨rfl, rfl⟩ hd_X1_startOf ⟨Nat.le_of_ble_eq_true rfl, Nat.le_of_ble_eq_true rfl⟩ rfl rfl rfl (Nat.le_of_ble_eq_true rfl) ⟨Nat.zero_le _, Nat.zero_le _⟩ rfl dX1_countClashes_4 (c_X1_startOf p9) (fun H locs hP hD hS => ?_)
  refine lv_istore_n (lv' := [(3, .int (iI (p9 * 40))), (2, .int (iI 0)), (0, .ref (q 9)), (1, .int (iI p9))]) hx hb dX1_countClashes_7 rfl hl (by decide) rfl (fun ls hl => ?_)
  have L_8 : ∀ (n : Nat) (acc : Int) (b : Int), (h0 : p9 * 40 ≤ b ∧ b ≤ p9 * 40 + ns p9) → (hf : p9 * 40 + ns p9 - b < n) → (hr : acc = clN nK st ka bg ln (p9 * 40) b) → ∀ (H : Heap) (locs : List Loc) (ls : Array Slot), va_P D vwCl (wT q cy nK st le be te ab bl ka bg ln ns me sc pi re bk pa lz go ss sm pf mf) H → va_D A (wT q cy nK st le be te ab bl ka bg ln ns me sc pi re bk pa lz go ss sm pf mf) → va_S A s.heap H locs → lv_has ls 5 [(3, .int (iI b)), (2, .int (iI acc)), (0, .ref (q 9)), (1, .int (iI p9))] → W p l e ({ frames := 3, cells := 0, slots := 0, locals := 65 } : Room) s m [.ref (q 9), .int (iI p9)].toArray below meth c H locs 0 0 (MQ below (zQi D cy (wT q cy nK st le be te ab bl ka bg ln ns me sc pi re bk pa lz go ss sm pf mf) A (clN nK st ka bg ln (p9 * 40) (p9 * 40 + ns p9))) [.ref (q 9), .int (iI p9)].toArray s 0 0 A) (F0 m 8 ls []) := by
    intro n
    induction n with
    | zero =>
      intro acc b h0 hf hr
      exfalso; omega
    | succ n ih_8 =>
      intro acc b h0 hf hr H locs ls hP hD hS hl
      refine lv_iload_n hx hb dX1_countClashes_8 rfl (lv_at hl 0 rfl) ?_
      refine lv_aload_n hx hb dX1_countClashes_9 rfl (lv_at hl 2 rfl) ?_
      refine lv_iload_n hx hb dX1_countClashes_10 rfl (lv_at hl 3 rfl) ?_
      refine z_callVi (ci := 1) (q0 := 9) (As := [.int (iI p9)]) (rest := [.int (iI b)]) X hK hP hD hA hS hl.1 gX1_countClashes_X1_endOf rfl ⟨rfl, rfl⟩ hd_X1_endOf ⟨Nat.le_of_ble_eq_true rfl, Nat.le_of_ble_eq_true rfl⟩ rfl rfl rfl (Nat.le_of_ble_eq_true rfl) ⟨Nat.zero_le _, Nat.zero_le _⟩ rfl dX1_countClashes_11 (c_X1_endOf I p9 (by omega)) (fun H locs hP hD hS => ?_)
      refine z_icmp_ge (tgt := 55) hx hb dX1_countClashes_14 (by decide) (by omega) (fun c_1 => ?_) (fun c_1 => ?_)
      · refine lv_iload_n hx hb dX1_countClashes_55 rfl (lv_at hl 1 rfl) ?_
        exact z_iret X hK hP hD hS dX1_countClashes_56 (by rw [hr, show b = p9 * 40 + ns p9 by omega])
      · refine lv_aload_n hx hb dX1_countClashes_17 rfl (lv_at hl 2 rfl) ?_
        refine lv_iload_n hx hb dX1_countClashes_18 rfl (lv_at hl 3 rfl) ?_
        refine z_callVi (ci := 1) (q0 := 9) (As := [.int (iI p9)]) (rest := []) X hK hP hD hA hS hl.1 gX1_countClashes_X1_startOf rfl ⟨rfl, rfl⟩ hd_X1_startOf ⟨Nat.le_of_ble_eq_true rfl, Nat.le_of_ble_eq_true rfl⟩ rfl rfl rfl (Nat.le_of_ble_eq_true rfl) ⟨Nat.zero_le _, Nat.zero_le _⟩ rfl dX1_countClashes_19 (c_X1_startOf p9) (fun H locs hP hD hS => ?_)
        refine lv_istore (lv' := [(4, .int (iI (p9 * 40))), (3, .int (iI b)), (2, .int (iI acc)), (0, .ref (q 9)), (1, .int (iI p9))]) hx hb dX1_countClashes_22 hl (by decide) rfl (fun ls hl => ?_)
        have L_24 : ∀ (n : Nat) (acc2 : Int) (a : Int), (h3 : p9 * 40 ≤ a ∧ a ≤ b) → (hf2 : b - a < n) → (hr2 : acc2 = clN nK st ka bg ln (p9 * 40) b + sZ (fun a => bP (clP nK st ka bg ln a b)) (p9 * 40) a) → ∀ (H : Heap) (locs : List Loc) (ls : Array Slot), va_P D vwCl (wT q cy nK st le be te ab bl ka bg ln ns me sc pi re bk pa lz go ss sm pf mf) H → va_D A (wT q cy nK st le be te ab bl ka bg ln ns me sc pi re bk pa lz go ss sm pf mf) → va_S A s.heap H locs → lv_has ls 5 [(4, .int (iI a)), (3, .int (iI b)), (2, .int (iI acc2)), (0, .ref (q 9)), (1, .int (iI p9))] → W p l e ({ frames := 3, cells := 0, slots := 0, locals := 65 } : Room) s m [.ref (q 9), .int (iI p9)].toArray below meth c H locs 0 0 (MQ below (zQi D cy (wT q cy nK st le be te ab bl ka bg ln ns me sc pi re bk pa lz go ss sm pf mf) A (clN nK st ka bg ln (p9 * 40) (p9 * 40 + ns p9))) [.ref (q 9), .int (iI p9)].toArray s 0 0 A) (F0 m 24 ls []) := by
          intro n
          induction n with
          | zero =>
            intro acc2 a h3 hf2 hr2
            exfalso; omega
          | succ n ih_24 =>
            intro acc2 a h3 hf2 hr2 H locs ls hP hD hS hl
            refine lv_iload hx hb dX1_countClashes_24 (lv_at hl 0 rfl) ?_
            refine lv_iload_n hx hb dX1_countClashes_26 rfl (lv_at hl 1 rfl) ?_
            refine z_icmp_ge (tgt := 49) hx hb dX1_countClashes_27 (by decide) (by omega) (fun c_2 => ?_) (fun c_2 => ?_)
            · refine lv_iinc (v := iI (b + 1)) (lv' := [(3, .int (iI (b + 1))), (4, .int (iI a)), (2, .int (iI acc2)), (0, .ref (q 9)), (1, .int (iI p9))]) hx hb dX1_countClashes_49 hl (k := 1) rfl (iI_add _ _) (by decide) rfl (fun ls hl => ?_)
              refine lv_goto (tgt := 8) hx hb dX1_countClashes_52 (by decide) ?_
              exact ih_8 acc2 (b + 1) (by omega) (by omega) (by show acc2 = sZ _ _ _; rw [sZ_step (by omega), hr2, show a = b by omega]; rfl) _ _ _ hP hD hS (lv_sub hl [0, 2, 3, 4] rfl)
            · refine lv_aload_n hx hb dX1_countClashes_30 rfl (lv_at hl 3 rfl) ?_
              refine lv_iload hx hb dX1_countClashes_31 (lv_at hl 0 rfl) ?_
              refine lv_iload_n hx hb dX1_countClashes_33 rfl (lv_at hl 1 rfl) ?_
              refine z_callVi (ci := 1) (q0 := 9) (As := [.int (iI a), .int (iI b)]) (rest := []) X hK hP hD hA hS hl.1 gX1_countClashes_X1_doClash rfl ⟨rfl, rfl⟩ hd_X1_doClash ⟨Nat.le_of_ble_eq_true rfl, Nat.le_of_ble_eq_true rfl⟩ rfl rfl rfl (Nat.le_of_ble_eq_true rfl) ⟨Nat.zero_le _, Nat.zero_le _⟩ rfl dX1_countClashes_34 (c_X1_doClash I a b (by omega) (by omega)) (fun H locs hP hD hS => ?_)
              refine z_ifp_eq (tgt := 43) hx hb dX1_countClashes_37 (by decide) (fun c_3 => ?_) (fun c_3 => ?_)
              · refine lv_iinc (v := iI (a + 1)) (lv' := [(4, .int (iI (a + 1))), (3, .int (iI b)), (2, .int (iI acc2)), (0, .ref (q 9)), (1, .int (iI p9))]) hx hb dX1_countClashes_43 hl (k := 0) rfl (iI_add _ _) (by decide) rfl (fun ls hl => ?_)
                refine lv_goto (tgt := 24) hx hb dX1_countClashes_46 (by decide) ?_
                exact ih_24 acc2 (a + 1) (by omega) (by omega) (by rw [sZ_step (by omega)]; (try dsimp only); first | (rw [bP_1 (by assumption)]; omega) | (rw [bP_0 (by assumption)]; omega)) _ _ _ hP hD hS (lv_sub hl [0, 1, 2, 3, 4] rfl)
              · refine lv_iinc (v := iI (acc2 + 1)) (lv' := [(2, .int (iI (acc2 + 1))), (4, .int (iI a)), (3, .int (iI b)), (0, .ref (q 9)), (1, .int (iI p9))]) hx hb dX1_countClashes_40 hl (k := 2) rfl (iI_add _ _) (by decide) rfl (fun ls hl => ?_)
                refine lv_iinc (v := iI (a + 1)) (lv' := [(4, .int (iI (a + 1))), (2, .int (iI (acc2 + 1))), (3, .int (iI b)), (0, .ref (q 9)), (1, .int (iI p9))]) hx hb dX1_countClashes_43 hl (k := 1) rfl (iI_add _ _) (by decide) rfl (fun ls hl => ?_)
                refine lv_goto (tgt := 24) hx hb dX1_countClashes_46 (by decide) ?_
                exact ih_24 (acc2 + 1) (a + 1) (by omega) (by omega) (by rw [sZ_step (by omega)]; (try dsimp only); first | (rw [bP_1 (by assumption)]; omega) | (rw [bP_0 (by assumption)]; omega)) _ _ _ hP hD hS (lv_sub hl [0, 2, 1, 3, 4] rfl)
        exact L_24 41 acc (p9 * 40) (by omega) (by omega) (by rw [sZ_nil (by omega), ← hr, Int.add_zero]) _ _ _ hP hD hS (lv_sub hl [0, 1, 2, 3, 4] rfl)
  exact L_8 41 0 (p9 * 40) (by omega) (by omega) ((sZ_nil (by omega)).symm) _ _ _ hP hD hS (lv_sub hl [0, 1, 2, 3] rfl)

theorem hd_X1_allKeysThere : yX1_allKeysThere.cls = RX1 ∧ yX1_allKeysThere.cls ≠ "java/lang/invoke/MethodHandle" ∧ yX1_allKeysThere.cls ≠ "java/lang/invoke/VarHandle" ∧ (parseMethodDescriptor yX1_allKeysThere.desc).map (fun d => d.parameters.length) = some 1 := by decide +kernel
set_option maxHeartbeats 4000000 in
set_option maxRecDepth 100000 in
theorem c_X1_allKeysThere (I : okS nK st le be te ab bl ka bg ln ns me sc pi re bk) (p9 : Int) (h : 0 ≤ p9 ∧ p9 ≤ 3) : MI l D cy yX1_allKeysThere wsX1_allKeysThere ({ frames := 1, cells := 0, slots := 0, locals := 21 } : Room) [.ref (q 9), .int (iI p9)] (wT q cy nK st le be te ab bl ka bg ln ns me sc pi re bk pa lz go ss sm pf mf) (bP (∀ a, p9 * 40 ≤ a → a < p9 * 40 + ns p9 → ka a < nK)) (wT q cy nK st le be te ab bl ka bg ln ns me sc pi re bk pa lz go ss sm pf mf) := by
  refine MI.ofW (cc := cX1_allKeysThere) (maxL := 3) (ret := (some .boolean)) (by decide) rfl (Nat.le_of_ble_eq_true rfl) ?_
  intro p e s m below meth c A ls X hK hP hD hA hS hl
  obtain ⟨hx, hb, hml, hr, hts, hown, hlocks⟩ := id X
  have hl : lv_has ls 3 [(0, .ref (q 9)), (1, .int (iI p9))] := hl
  have f_24 := hts (Cond.fieldLink RX1 24 "TwoKeys$Music" "board" "LTwoKeys$Board;") (by decide +kernel)
  have f_9 := hts (Cond.fieldLink RX1 9 "TwoKeys$Music" "keyAt" "[I") (by decide +kernel)
  have n_X1 : ∀ w ∈ u_ws RX1 TX1 5, w ∈ wsX1_allKeysThere := by decide +kernel
  have iK := I.nK
  have i9 := I.ns p9
  refine lv_aload_n hx hb dX1_allKeysThere_0 rfl (lv_at hl 0 rfl) ?_
  refine lv_iload_n hx hb dX1_allKeysThere_1 rfl (lv_at hl 1 rfl) ?_
  refine z_callVi (ci := 1) (q0 := 9) (As := [.int (iI p9)]) (rest := []) X hK hP hD hA hS hl.1 gX1_allKeysThere_X1_startOf rfl ⟨rfl, rfl⟩ hd_X1_startOf ⟨Nat.le_of_ble_eq_true rfl, Nat.le_of_ble_eq_true rfl⟩ rfl rfl rfl (Nat.le_of_ble_eq_true rfl) ⟨Nat.zero_le _, Nat.zero_le _⟩ rfl dX1_allKeysThere_2 (c_X1_startOf p9) (fun H locs hP hD hS => ?_)
  refine lv_istore_n (lv' := [(2, .int (iI (p9 * 40))), (0, .ref (q 9)), (1, .int (iI p9))]) hx hb dX1_allKeysThere_5 rfl hl (by decide) rfl (fun ls hl => ?_)
  have L_6 : ∀ (n : Nat) (a : Int), (h0 : p9 * 40 ≤ a ∧ a ≤ p9 * 40 + ns p9) → (hf : p9 * 40 + ns p9 - a < n) → (hr : ∀ j, p9 * 40 ≤ j → j < a → ka j < nK) → ∀ (H : Heap) (locs : List Loc) (ls : Array Slot), va_P D vwCl (wT q cy nK st le be te ab bl ka bg ln ns me sc pi re bk pa lz go ss sm pf mf) H → va_D A (wT q cy nK st le be te ab bl ka bg ln ns me sc pi re bk pa lz go ss sm pf mf) → va_S A s.heap H locs → lv_has ls 3 [(2, .int (iI a)), (0, .ref (q 9)), (1, .int (iI p9))] → W p l e ({ frames := 1, cells := 0, slots := 0, locals := 21 } : Room) s m [.ref (q 9), .int (iI p9)].toArray below meth c H locs 0 0 (MQ below (zQi D cy (wT q cy nK st le be te ab bl ka bg ln ns me sc pi re bk pa lz go ss sm pf mf) A (bP (∀ a, p9 * 40 ≤ a → a < p9 * 40 + ns p9 → ka a < nK))) [.ref (q 9), .int (iI p9)].toArray s 0 0 A) (F0 m 6 ls []) := by
    intro n
    induction n with
    | zero =>
      intro a h0 hf hr
      exfalso; omega
    | succ n ih_6 =>
      intro a h0 hf hr H locs ls hP hD hS hl
      refine lv_iload_n hx hb dX1_allKeysThere_6 rfl (lv_at hl 0 rfl) ?_
      refine lv_aload_n hx hb dX1_allKeysThere_7 rfl (lv_at hl 1 rfl) ?_
      refine lv_iload_n hx hb dX1_allKeysThere_8 rfl (lv_at hl 2 rfl) ?_
      refine z_callVi (ci := 1) (q0 := 9) (As := [.int (iI p9)]) (rest := [.int (iI a)]) X hK hP hD hA hS hl.1 gX1_allKeysThere_X1_endOf rfl ⟨rfl, rfl⟩ hd_X1_endOf ⟨Nat.le_of_ble_eq_true rfl, Nat.le_of_ble_eq_true rfl⟩ rfl rfl rfl (Nat.le_of_ble_eq_true rfl) ⟨Nat.zero_le _, Nat.zero_le _⟩ rfl dX1_allKeysThere_9 (c_X1_endOf I p9 (by omega)) (fun H locs hP hD hS => ?_)
      refine z_icmp_ge (tgt := 39) hx hb dX1_allKeysThere_12 (by decide) (by omega) (fun c_1 => ?_) (fun c_1 => ?_)
      · refine lv_iconst (v := iI (1)) hx hb dX1_allKeysThere_39 rfl ?_
        exact z_pret1 X hK hP hD hS dX1_allKeysThere_40 (fun j h1 h2 => hr j h1 (by omega))
      · refine lv_aload_n hx hb dX1_allKeysThere_15 rfl (lv_at hl 1 rfl) ?_
        refine va_get (D := D) (ci := 1) (v := .ref (q 1)) (C := RX1) (T := TX1) (N := 5) hx hb hts n_X1 hown hK hP 9 rfl rfl 0 (by decide) f_24 (fun _ h9 => h9) rfl dX1_allKeysThere_16 ?_
        refine lv_aload_n hx hb dX1_allKeysThere_19 rfl (lv_at hl 1 rfl) ?_
        refine va_get (D := D) (ci := 1) (v := .ref (q 10)) (C := RX1) (T := TX1) (N := 5) hx hb hts n_X1 hown hK hP 9 rfl rfl 1 (by decide) f_9 (fun _ h9 => h9) rfl dX1_allKeysThere_20 ?_
        refine lv_iload_n hx hb dX1_allKeysThere_23 rfl (lv_at hl 0 rfl) ?_
        refine z_iald hx hb hK hP 10 0 rfl rfl (by omega) dX1_allKeysThere_24 ?_
        have b_2 := I.ka a
        refine z_callVi (ci := 0) (q0 := 1) (As := [.int (iI (ka a))]) (rest := []) X hK hP hD hA hS hl.1 gX1_allKeysThere_X0_has rfl ⟨rfl, rfl⟩ hd_X0_has ⟨Nat.le_of_ble_eq_true rfl, Nat.le_of_ble_eq_true rfl⟩ rfl rfl rfl (Nat.le_of_ble_eq_true rfl) ⟨Nat.zero_le _, Nat.zero_le _⟩ rfl dX1_allKeysThere_25 (c_X0_has I (ka a) (by omega)) (fun H locs hP hD hS => ?_)
        refine z_ifp_ne (tgt := 33) hx hb dX1_allKeysThere_28 (by decide) (fun c_3 => ?_) (fun c_3 => ?_)
        · refine lv_iinc (v := iI (a + 1)) (lv' := [(2, .int (iI (a + 1))), (0, .ref (q 9)), (1, .int (iI p9))]) hx hb dX1_allKeysThere_33 hl (k := 0) rfl (iI_add _ _) (by decide) rfl (fun ls hl => ?_)
          refine lv_goto (tgt := 6) hx hb dX1_allKeysThere_36 (by decide) ?_
          exact ih_6 (a + 1) (by omega) (by omega) (fun j h1 h2 => by rcases (show j < a ∨ j = a by omega) with g | g; exact hr j h1 g; subst g; omega) _ _ _ hP hD hS (lv_sub hl [0, 1, 2] rfl)
        · refine lv_iconst (v := iI (0)) hx hb dX1_allKeysThere_31 rfl ?_
          exact z_pret0 X hK hP hD hS dX1_allKeysThere_32 (fun z => by have := z a (by omega) (by omega); omega)
  exact L_6 41 (p9 * 40) (by omega) (by omega) (fun j _ _ => by omega) _ _ _ hP hD hS (lv_sub hl [0, 1, 2] rfl)
end
section
variable {l : Launch} {D : va_G} {cy : ClassId} {q : Nat → Nat} {nK sc pi re bk ss sm pf mf th lo : Int} {st le be te ab bl ka bg ln ns me pa lz go co bs gr : Int → Int}
theorem hd_X5_goalOf : yX5_goalOf.cls = RX5 ∧ yX5_goalOf.cls ≠ "java/lang/invoke/MethodHandle" ∧ yX5_goalOf.cls ≠ "java/lang/invoke/VarHandle" ∧ (parseMethodDescriptor yX5_goalOf.desc).map (fun d => d.parameters.length) = some 1 := by decide +kernel
set_option maxHeartbeats 4000000 in
set_option maxRecDepth 100000 in
theorem c_X5_goalOf (I : okS nK st le be te ab bl ka bg ln ns me sc pi re bk) (k : Int) (h : 0 ≤ k ∧ k < 24) : MI l D cy yX5_goalOf wsX5_goalOf ({ frames := 1, cells := 0, slots := 0, locals := 26 } : Room) [.ref (q 0), .int (iI k)] (wT q cy nK st le be te ab bl ka bg ln ns me sc pi re bk pa lz go ss sm pf mf) (gl ab bl sc pi k) (wT q cy nK st le be te ab bl ka bg ln ns me sc pi re bk pa lz go ss sm pf mf) := by
  refine MI.ofW (cc := cX5_goalOf) (maxL := 2) (ret := (some .int)) (by decide) rfl (Nat.le_of_ble_eq_true rfl) ?_
  intro p e s m below meth c A ls X hK hP hD hA hS hl
  obtain ⟨hx, hb, hml, hr, hts, hown, hlocks⟩ := id X
  have hl : lv_has ls 2 [(0, .ref (q 0)), (1, .int (iI k))] := hl
  have f_32 := hts (Cond.fieldLink RX5 32 "TwoKeys" "scales" "LTwoKeys$Scales;") (by decide +kernel)
  have f_7 := hts (Cond.fieldLink RX5 7 "TwoKeys" "scaleInUse" "I") (by decide +kernel)
  have f_13 := hts (Cond.fieldLink RX5 13 "TwoKeys" "pitchNow" "I") (by decide +kernel)
  have n_X5 : ∀ w ∈ u_ws RX5 TX5 9, w ∈ wsX5_goalOf := by decide +kernel
  have iK := I.nK
  have i1 := I.sc
  have i2 := I.pi
  refine lv_aload_n hx hb dX5_goalOf_0 rfl (lv_at hl 0 rfl) ?_
  refine va_get (D := D) (ci := 5) (v := .ref (q 6)) (C := RX5) (T := TX5) (N := 9) hx hb hts n_X5 hown hK hP 0 rfl rfl 1 (by decide) f_32 (fun _ h9 => h9) rfl dX5_goalOf_1 ?_
  refine lv_aload_n hx hb dX5_goalOf_4 rfl (lv_at hl 0 rfl) ?_
  refine va_get (D := D) (ci := 5) (v := .int (iI sc)) (C := RX5) (T := TX5) (N := 9) hx hb hts n_X5 hown hK hP 0 rfl rfl 5 (by decide) f_7 (fun _ h9 => h9) rfl dX5_goalOf_5 ?_
  refine lv_aload_n hx hb dX5_goalOf_8 rfl (lv_at hl 0 rfl) ?_
  refine va_get (D := D) (ci := 5) (v := .int (iI pi)) (C := RX5) (T := TX5) (N := 9) hx hb hts n_X5 hown hK hP 0 rfl rfl 6 (by decide) f_13 (fun _ h9 => h9) rfl dX5_goalOf_9 ?_
  refine lv_iload_n hx hb dX5_goalOf_12 rfl (lv_at hl 1 rfl) ?_
  refine z_callVi (ci := 3) (q0 := 6) (As := [.int (iI sc), .int (iI pi), .int (iI k)]) (rest := []) X hK hP hD hA hS hl.1 gX5_goalOf_X3_goalAt rfl ⟨rfl, rfl⟩ hd_X3_goalAt ⟨Nat.le_of_ble_eq_true rfl, Nat.le_of_ble_eq_true rfl⟩ rfl rfl rfl (Nat.le_of_ble_eq_true rfl) ⟨Nat.zero_le _, Nat.zero_le _⟩ rfl dX5_goalOf_13 (c_X3_goalAt I sc pi k (by omega) (by omega) (by omega)) (fun H locs hP hD hS => ?_)
  exact z_iret X hK hP hD hS dX5_goalOf_16 (by first | rfl | omega | grind)

theorem hd_X5_errorOf : yX5_errorOf.cls = RX5 ∧ yX5_errorOf.cls ≠ "java/lang/invoke/MethodHandle" ∧ yX5_errorOf.cls ≠ "java/lang/invoke/VarHandle" ∧ (parseMethodDescriptor yX5_errorOf.desc).map (fun d => d.parameters.length) = some 1 := by decide +kernel
set_option maxHeartbeats 4000000 in
set_option maxRecDepth 100000 in
theorem c_X5_errorOf (I : okS nK st le be te ab bl ka bg ln ns me sc pi re bk) (k : Int) (h : 0 ≤ k ∧ k < 24) : MI l D cy yX5_errorOf wsX5_errorOf ({ frames := 2, cells := 0, slots := 0, locals := 47 } : Room) [.ref (q 0), .int (iI k)] (wT q cy nK st le be te ab bl ka bg ln ns me sc pi re bk pa lz go ss sm pf mf) (er st le be te ab bl sc pi k) (wT q cy nK st le be te ab bl ka bg ln ns me sc pi re bk pa lz go ss sm pf mf) := by
  refine MI.ofW (cc := cX5_errorOf) (maxL := 2) (ret := (some .int)) (by decide) rfl (Nat.le_of_ble_eq_true rfl) ?_
  intro p e s m below meth c A ls X hK hP hD hA hS hl
  obtain ⟨hx, hb, hml, hr, hts, hown, hlocks⟩ := id X
  have hl : lv_has ls 2 [(0, .ref (q 0)), (1, .int (iI k))] := hl
  have f_25 := hts (Cond.fieldLink RX5 25 "TwoKeys" "board" "LTwoKeys$Board;") (by decide +kernel)
  have n_X5 : ∀ w ∈ u_ws RX5 TX5 9, w ∈ wsX5_errorOf := by decide +kernel
  have iK := I.nK
  refine lv_aload_n hx hb dX5_errorOf_0 rfl (lv_at hl 0 rfl) ?_
  refine va_get (D := D) (ci := 5) (v := .ref (q 1)) (C := RX5) (T := TX5) (N := 9) hx hb hts n_X5 hown hK hP 0 rfl rfl 0 (by decide) f_25 (fun _ h9 => h9) rfl dX5_errorOf_1 ?_
  refine lv_iload_n hx hb dX5_errorOf_4 rfl (lv_at hl 1 rfl) ?_
  refine z_callVi (ci := 0) (q0 := 1) (As := [.int (iI k)]) (rest := []) X hK hP hD hA hS hl.1 gX5_errorOf_X0_toneOf rfl ⟨rfl, rfl⟩ hd_X0_toneOf ⟨Nat.le_of_ble_eq_true rfl, Nat.le_of_ble_eq_true rfl⟩ rfl rfl rfl (Nat.le_of_ble_eq_true rfl) ⟨Nat.zero_le _, Nat.zero_le _⟩ rfl dX5_errorOf_5 (c_X0_toneOf I k (by omega)) (fun H locs hP hD hS => ?_)
  refine lv_aload_n hx hb dX5_errorOf_8 rfl (lv_at hl 0 rfl) ?_
  refine lv_iload_n hx hb dX5_errorOf_9 rfl (lv_at hl 1 rfl) ?_
  refine z_callVi (ci := 5) (q0 := 0) (As := [.int (iI k)]) (rest := [.int (iI (te (st k) * 10000 / (le k + be k)))]) X hK hP hD hA hS hl.1 gX5_errorOf_X5_goalOf rfl ⟨rfl, rfl⟩ hd_X5_goalOf ⟨Nat.le_of_ble_eq_true rfl, Nat.le_of_ble_eq_true rfl⟩ rfl rfl rfl (Nat.le_of_ble_eq_true rfl) ⟨Nat.zero_le _, Nat.zero_le _⟩ rfl dX5_errorOf_10 (c_X5_goalOf I k (by omega)) (fun H locs hP hD hS => ?_)
  refine z_isub hx hb dX5_errorOf_13 ?_
  exact z_iret X hK hP hD hS dX5_errorOf_14 (by first | rfl | omega | grind)

theorem hd_X5_allErrors : yX5_allErrors.cls = RX5 ∧ yX5_allErrors.cls ≠ "java/lang/invoke/MethodHandle" ∧ yX5_allErrors.cls ≠ "java/lang/invoke/VarHandle" ∧ (parseMethodDescriptor yX5_allErrors.desc).map (fun d => d.parameters.length) = some 0 := by decide +kernel
set_option maxHeartbeats 4000000 in
set_option maxRecDepth 100000 in
theorem c_X5_allErrors (I : okS nK st le be te ab bl ka bg ln ns me sc pi re bk)   : MI l D cy yX5_allErrors wsX5_allErrors ({ frames := 3, cells := 0, slots := 0, locals := 68 } : Room) [.ref (q 0)] (wT q cy nK st le be te ab bl ka bg ln ns me sc pi re bk pa lz go ss sm pf mf) (sZ (fun k => aZ (er st le be te ab bl sc pi k)) 0 nK) (wT q cy nK st le be te ab bl ka bg ln ns me sc pi re bk pa lz go ss sm pf mf) := by
  refine MI.ofW (cc := cX5_allErrors) (maxL := 3) (ret := (some .int)) (by decide) rfl (Nat.le_of_ble_eq_true rfl) ?_
  intro p e s m below meth c A ls X hK hP hD hA hS hl
  obtain ⟨hx, hb, hml, hr, hts, hown, hlocks⟩ := id X
  have hl : lv_has ls 3 [(0, .ref (q 0))] := hl
  have f_25 := hts (Cond.fieldLink RX5 25 "TwoKeys" "board" "LTwoKeys$Board;") (by decide +kernel)
  have f_66 := hts (Cond.fieldLink RX5 66 "TwoKeys$Board" "size" "I") (by decide +kernel)
  have k_X5_136_Lib_Math_abs_name := hts (Cond.methodLink RX5 136 Lib.Math.abs.name) (by decide +kernel)
  have k_static_Lib_Math_abs_name := hts (Cond.static Lib.Math.abs.name) (by decide +kernel)
  have k_ialized__java_lang_Math_ := hts (Cond.initialized "java/lang/Math") (by decide +kernel)
  have k_h_abs_code_1__some__int_ := hts (Cond.code Lib.Math.abs.name Lib.Math.abs.code 1 (some .int)) (by decide +kernel)
  have n_X0 : ∀ w ∈ u_ws RX0 TX0 5, w ∈ wsX5_allErrors := by decide +kernel
  have n_X5 : ∀ w ∈ u_ws RX5 TX5 9, w ∈ wsX5_allErrors := by decide +kernel
  have iK := I.nK
  have i2 := I.pi
  refine lv_iconst (v := iI (0)) hx hb dX5_allErrors_0 rfl ?_
  refine lv_istore_n (lv' := [(1, .int (iI 0)), (0, .ref (q 0))]) hx hb dX5_allErrors_1 rfl hl (by decide) rfl (fun ls hl => ?_)
  refine lv_iconst (v := iI (0)) hx hb dX5_allErrors_2 rfl ?_
  refine lv_istore_n (lv' := [(2, .int (iI 0)), (1, .int (iI 0)), (0, .ref (q 0))]) hx hb dX5_allErrors_3 rfl hl (by decide) rfl (fun ls hl => ?_)
  have L_4 : ∀ (n : Nat) (acc : Int) (k : Int), (h0 : 0 ≤ k ∧ k ≤ nK) → (hf : nK - k < n) → (hr : acc = sZ (fun k => aZ (er st le be te ab bl sc pi k)) 0 k) → ∀ (H : Heap) (locs : List Loc) (ls : Array Slot), va_P D vwCl (wT q cy nK st le be te ab bl ka bg ln ns me sc pi re bk pa lz go ss sm pf mf) H → va_D A (wT q cy nK st le be te ab bl ka bg ln ns me sc pi re bk pa lz go ss sm pf mf) → va_S A s.heap H locs → lv_has ls 3 [(2, .int (iI k)), (1, .int (iI acc)), (0, .ref (q 0))] → W p l e ({ frames := 3, cells := 0, slots := 0, locals := 68 } : Room) s m [.ref (q 0)].toArray below meth c H locs 0 0 (MQ below (zQi D cy (wT q cy nK st le be te ab bl ka bg ln ns me sc pi re bk pa lz go ss sm pf mf) A (sZ (fun k => aZ (er st le be te ab bl sc pi k)) 0 nK)) [.ref (q 0)].toArray s 0 0 A) (F0 m 4 ls []) := by
    intro n
    induction n with
    | zero =>
      intro acc k h0 hf hr
      exfalso; omega
    | succ n ih_4 =>
      intro acc k h0 hf hr H locs ls hP hD hS hl
      refine lv_iload_n hx hb dX5_allErrors_4 rfl (lv_at hl 0 rfl) ?_
      refine lv_aload_n hx hb dX5_allErrors_5 rfl (lv_at hl 2 rfl) ?_
      refine va_get (D := D) (ci := 5) (v := .ref (q 1)) (C := RX5) (T := TX5) (N := 9) hx hb hts n_X5 hown hK hP 0 rfl rfl 0 (by decide) f_25 (fun _ h9 => h9) rfl dX5_allErrors_6 ?_
      refine va_get (D := D) (ci := 0) (v := .int (iI nK)) (C := RX0) (T := TX0) (N := 5) hx hb hts n_X0 hown hK hP 1 rfl rfl 0 (by decide) f_66 (fun _ h9 => h9) rfl dX5_allErrors_9 ?_
      refine z_icmp_ge (tgt := 32) hx hb dX5_allErrors_12 (by decide) (by omega) (fun c_1 => ?_) (fun c_1 => ?_)
      · refine lv_iload_n hx hb dX5_allErrors_32 rfl (lv_at hl 1 rfl) ?_
        exact z_iret X hK hP hD hS dX5_allErrors_33 (by rw [hr, show k = nK by omega])
      · refine lv_iload_n hx hb dX5_allErrors_15 rfl (lv_at hl 1 rfl) ?_
        refine lv_aload_n hx hb dX5_allErrors_16 rfl (lv_at hl 2 rfl) ?_
        refine lv_iload_n hx hb dX5_allErrors_17 rfl (lv_at hl 0 rfl) ?_
        refine z_callVi (ci := 5) (q0 := 0) (As := [.int (iI k)]) (rest := [.int (iI acc)]) X hK hP hD hA hS hl.1 gX5_allErrors_X5_errorOf rfl ⟨rfl, rfl⟩ hd_X5_errorOf ⟨Nat.le_of_ble_eq_true rfl, Nat.le_of_ble_eq_true rfl⟩ rfl rfl rfl (Nat.le_of_ble_eq_true rfl) ⟨Nat.zero_le _, Nat.zero_le _⟩ rfl dX5_allErrors_18 (c_X5_errorOf I k (by omega)) (fun H locs hP hD hS => ?_)
        have b7 := er_b I k
        refine z_abs hx hb (by rw [hml]; exact hl.1.symm) hown k_X5_136_Lib_Math_abs_name k_static_Lib_Math_abs_name k_ialized__java_lang_Math_ k_h_abs_code_1__some__int_ (Nat.le_of_ble_eq_true rfl) (Nat.le_of_ble_eq_true rfl) (Nat.zero_le _) (Nat.zero_le _) (by omega) dX5_allErrors_21 ?_
        refine z_iadd hx hb dX5_allErrors_24 ?_
        refine lv_istore_n (lv' := [(1, .int (iI (acc + (aZ (er st le be te ab bl sc pi k))))), (2, .int (iI k)), (0, .ref (q 0))]) hx hb dX5_allErrors_25 rfl hl (by decide) rfl (fun ls hl => ?_)
        refine lv_iinc (v := iI (k + 1)) (lv' := [(2, .int (iI (k + 1))), (1, .int (iI (acc + (aZ (er st le be te ab bl sc pi k))))), (0, .ref (q 0))]) hx hb dX5_allErrors_26 hl (k := 1) rfl (iI_add _ _) (by decide) rfl (fun ls hl => ?_)
        refine lv_goto (tgt := 4) hx hb dX5_allErrors_29 (by decide) ?_
        exact ih_4 (acc + (aZ (er st le be te ab bl sc pi k))) (k + 1) (by omega) (by omega) (by rw [sZ_step (by omega), ← hr]) _ _ _ hP hD hS (lv_sub hl [0, 1, 2] rfl)
  exact L_4 25 0 0 (by omega) (by omega) ((sZ_nil (by omega)).symm) _ _ _ hP hD hS (lv_sub hl [0, 1, 2] rfl)

theorem hd_X5_wrong : yX5_wrong.cls = RX5 ∧ yX5_wrong.cls ≠ "java/lang/invoke/MethodHandle" ∧ yX5_wrong.cls ≠ "java/lang/invoke/VarHandle" ∧ (parseMethodDescriptor yX5_wrong.desc).map (fun d => d.parameters.length) = some 0 := by decide +kernel
set_option maxHeartbeats 4000000 in
set_option maxRecDepth 100000 in
theorem c_X5_wrong (I : okS nK st le be te ab bl ka bg ln ns me sc pi re bk)   : MI l D cy yX5_wrong wsX5_wrong ({ frames := 4, cells := 0, slots := 0, locals := 90 } : Room) [.ref (q 0)] (wT q cy nK st le be te ab bl ka bg ln ns me sc pi re bk pa lz go ss sm pf mf) (sZ (fun k => aZ (er st le be te ab bl sc pi k)) 0 nK) (wT q cy nK st le be te ab bl ka bg ln ns me sc pi re bk pa lz go ss sm pf mf) := by
  refine MI.ofW (cc := cX5_wrong) (maxL := 1) (ret := (some .int)) (by decide) rfl (Nat.le_of_ble_eq_true rfl) ?_
  intro p e s m below meth c A ls X hK hP hD hA hS hl
  obtain ⟨hx, hb, hml, hr, hts, hown, hlocks⟩ := id X
  have hl : lv_has ls 1 [(0, .ref (q 0))] := hl
  have iK := I.nK
  refine lv_aload_n hx hb dX5_wrong_0 rfl (lv_at hl 0 rfl) ?_
  refine z_callVi (ci := 5) (q0 := 0) (As := []) (rest := []) X hK hP hD hA hS hl.1 gX5_wrong_X5_allErrors rfl ⟨rfl, rfl⟩ hd_X5_allErrors ⟨Nat.le_of_ble_eq_true rfl, Nat.le_of_ble_eq_true rfl⟩ rfl rfl rfl (Nat.le_of_ble_eq_true rfl) ⟨Nat.zero_le _, Nat.zero_le _⟩ rfl dX5_wrong_1 (c_X5_allErrors I) (fun H locs hP hD hS => ?_)
  exact z_iret X hK hP hD hS dX5_wrong_4 (by first | rfl | omega | grind)

theorem hd_X5_worst : yX5_worst.cls = RX5 ∧ yX5_worst.cls ≠ "java/lang/invoke/MethodHandle" ∧ yX5_worst.cls ≠ "java/lang/invoke/VarHandle" ∧ (parseMethodDescriptor yX5_worst.desc).map (fun d => d.parameters.length) = some 0 := by decide +kernel
set_option maxHeartbeats 4000000 in
set_option maxRecDepth 100000 in
theorem c_X5_worst (I : okS nK st le be te ab bl ka bg ln ns me sc pi re bk)   : MI l D cy yX5_worst wsX5_worst ({ frames := 3, cells := 0, slots := 0, locals := 68 } : Room) [.ref (q 0)] (wT q cy nK st le be te ab bl ka bg ln ns me sc pi re bk pa lz go ss sm pf mf) (wsZ (fun k => aZ (er st le be te ab bl sc pi k)) (nK - 1).toNat) (wT q cy nK st le be te ab bl ka bg ln ns me sc pi re bk pa lz go ss sm pf mf) := by
  refine MI.ofW (cc := cX5_worst) (maxL := 5) (ret := (some .int)) (by decide) rfl (Nat.le_of_ble_eq_true rfl) ?_
  intro p e s m below meth c A ls X hK hP hD hA hS hl
  obtain ⟨hx, hb, hml, hr, hts, hown, hlocks⟩ := id X
  have hl : lv_has ls 5 [(0, .ref (q 0))] := hl
  have k_X5_136_Lib_Math_abs_name := hts (Cond.methodLink RX5 136 Lib.Math.abs.name) (by decide +kernel)
  have k_static_Lib_Math_abs_name := hts (Cond.static Lib.Math.abs.name) (by decide +kernel)
  have k_ialized__java_lang_Math_ := hts (Cond.initialized "java/lang/Math") (by decide +kernel)
  have k_h_abs_code_1__some__int_ := hts (Cond.code Lib.Math.abs.name Lib.Math.abs.code 1 (some .int)) (by decide +kernel)
  have f_25 := hts (Cond.fieldLink RX5 25 "TwoKeys" "board" "LTwoKeys$Board;") (by decide +kernel)
  have f_66 := hts (Cond.fieldLink RX5 66 "TwoKeys$Board" "size" "I") (by decide +kernel)
  have n_X0 : ∀ w ∈ u_ws RX0 TX0 5, w ∈ wsX5_worst := by decide +kernel
  have n_X5 : ∀ w ∈ u_ws RX5 TX5 9, w ∈ wsX5_worst := by decide +kernel
  have iK := I.nK
  have i2 := I.pi
  refine lv_iconst (v := iI (0)) hx hb dX5_worst_0 rfl ?_
  refine lv_istore_n (lv' := [(1, .int (iI 0)), (0, .ref (q 0))]) hx hb dX5_worst_1 rfl hl (by decide) rfl (fun ls hl => ?_)
  refine lv_aload_n hx hb dX5_worst_2 rfl (lv_at hl 1 rfl) ?_
  refine lv_iconst (v := iI (0)) hx hb dX5_worst_3 rfl ?_
  refine z_callVi (ci := 5) (q0 := 0) (As := [.int (iI 0)]) (rest := []) X hK hP hD hA hS hl.1 gX5_worst_X5_errorOf rfl ⟨rfl, rfl⟩ hd_X5_errorOf ⟨Nat.le_of_ble_eq_true rfl, Nat.le_of_ble_eq_true rfl⟩ rfl rfl rfl (Nat.le_of_ble_eq_true rfl) ⟨Nat.zero_le _, Nat.zero_le _⟩ rfl dX5_worst_4 (c_X5_errorOf I 0 (by omega)) (fun H locs hP hD hS => ?_)
  have b7 := er_b I 0
  refine z_abs hx hb (by rw [hml]; exact hl.1.symm) hown k_X5_136_Lib_Math_abs_name k_static_Lib_Math_abs_name k_ialized__java_lang_Math_ k_h_abs_code_1__some__int_ (Nat.le_of_ble_eq_true rfl) (Nat.le_of_ble_eq_true rfl) (Nat.zero_le _) (Nat.zero_le _) (by omega) dX5_worst_7 ?_
  refine lv_istore_n (lv' := [(2, .int (iI (aZ (er st le be te ab bl sc pi 0)))), (1, .int (iI 0)), (0, .ref (q 0))]) hx hb dX5_worst_10 rfl hl (by decide) rfl (fun ls hl => ?_)
  refine lv_iconst (v := iI (1)) hx hb dX5_worst_11 rfl ?_
  refine lv_istore_n (lv' := [(3, .int (iI 1)), (2, .int (iI (aZ (er st le be te ab bl sc pi 0)))), (1, .int (iI 0)), (0, .ref (q 0))]) hx hb dX5_worst_12 rfl hl (by decide) rfl (fun ls hl => ?_)
  have L_13 : ∀ (n : Nat) (at9 : Int) (g : Int) (k : Int), (h0 : 1 ≤ k ∧ k ≤ nK) → (hf : nK - k < n) → (hr : at9 = wsZ (fun k => aZ (er st le be te ab bl sc pi k)) (k - 1).toNat) → (hg : g = aZ (er st le be te ab bl sc pi at9)) → (ha : 0 ≤ at9 ∧ at9 < 24) → ∀ (H : Heap) (locs : List Loc) (ls : Array Slot), va_P D vwCl (wT q cy nK st le be te ab bl ka bg ln ns me sc pi re bk pa lz go ss sm pf mf) H → va_D A (wT q cy nK st le be te ab bl ka bg ln ns me sc pi re bk pa lz go ss sm pf mf) → va_S A s.heap H locs → lv_has ls 5 [(3, .int (iI k)), (2, .int (iI g)), (1, .int (iI at9)), (0, .ref (q 0))] → W p l e ({ frames := 3, cells := 0, slots := 0, locals := 68 } : Room) s m [.ref (q 0)].toArray below meth c H locs 0 0 (MQ below (zQi D cy (wT q cy nK st le be te ab bl ka bg ln ns me sc pi re bk pa lz go ss sm pf mf) A (wsZ (fun k => aZ (er st le be te ab bl sc pi k)) (nK - 1).toNat)) [.ref (q 0)].toArray s 0 0 A) (F0 m 13 ls []) := by
    intro n
    induction n with
    | zero =>
      intro at9 g k h0 hf hr hg ha
      exfalso; omega
    | succ n ih_13 =>
      intro at9 g k h0 hf hr hg ha H locs ls hP hD hS hl
      have b5 := er_b I at9
      have b3 := aZ_b (er st le be te ab bl sc pi at9)
      refine lv_iload_n hx hb dX5_worst_13 rfl (lv_at hl 0 rfl) ?_
      refine lv_aload_n hx hb dX5_worst_14 rfl (lv_at hl 3 rfl) ?_
      refine va_get (D := D) (ci := 5) (v := .ref (q 1)) (C := RX5) (T := TX5) (N := 9) hx hb hts n_X5 hown hK hP 0 rfl rfl 0 (by decide) f_25 (fun _ h9 => h9) rfl dX5_worst_15 ?_
      refine va_get (D := D) (ci := 0) (v := .int (iI nK)) (C := RX0) (T := TX0) (N := 5) hx hb hts n_X0 hown hK hP 1 rfl rfl 0 (by decide) f_66 (fun _ h9 => h9) rfl dX5_worst_18 ?_
      refine z_icmp_ge (tgt := 51) hx hb dX5_worst_21 (by decide) (by omega) (fun c_1 => ?_) (fun c_1 => ?_)
      · refine lv_iload_n hx hb dX5_worst_51 rfl (lv_at hl 2 rfl) ?_
        exact z_iret X hK hP hD hS dX5_worst_52 (by rw [hr, show k = nK by omega])
      · refine lv_aload_n hx hb dX5_worst_24 rfl (lv_at hl 3 rfl) ?_
        refine lv_iload_n hx hb dX5_worst_25 rfl (lv_at hl 0 rfl) ?_
        refine z_callVi (ci := 5) (q0 := 0) (As := [.int (iI k)]) (rest := []) X hK hP hD hA hS hl.1 gX5_worst_X5_errorOf rfl ⟨rfl, rfl⟩ hd_X5_errorOf ⟨Nat.le_of_ble_eq_true rfl, Nat.le_of_ble_eq_true rfl⟩ rfl rfl rfl (Nat.le_of_ble_eq_true rfl) ⟨Nat.zero_le _, Nat.zero_le _⟩ rfl dX5_worst_26 (c_X5_errorOf I k (by omega)) (fun H locs hP hD hS => ?_)
        have b7 := er_b I k
        have b2 := aZ_b (er st le be te ab bl sc pi k)
        refine z_abs hx hb (by rw [hml]; exact hl.1.symm) hown k_X5_136_Lib_Math_abs_name k_static_Lib_Math_abs_name k_ialized__java_lang_Math_ k_h_abs_code_1__some__int_ (Nat.le_of_ble_eq_true rfl) (Nat.le_of_ble_eq_true rfl) (Nat.zero_le _) (Nat.zero_le _) (by omega) dX5_worst_29 ?_
        refine lv_istore (lv' := [(4, .int (iI (aZ (er st le be te ab bl sc pi k)))), (3, .int (iI k)), (2, .int (iI g)), (1, .int (iI at9)), (0, .ref (q 0))]) hx hb dX5_worst_32 hl (by decide) rfl (fun ls hl => ?_)
        refine lv_iload hx hb dX5_worst_34 (lv_at hl 0 rfl) ?_
        refine lv_iload_n hx hb dX5_worst_36 rfl (lv_at hl 2 rfl) ?_
        refine z_icmp_le (tgt := 45) hx hb dX5_worst_37 (by decide) (by omega) (fun c_2 => ?_) (fun c_2 => ?_)
        · refine lv_iinc (v := iI (k + 1)) (lv' := [(3, .int (iI (k + 1))), (4, .int (iI (aZ (er st le be te ab bl sc pi k)))), (2, .int (iI g)), (1, .int (iI at9)), (0, .ref (q 0))]) hx hb dX5_worst_45 hl (k := 1) rfl (iI_add _ _) (by decide) rfl (fun ls hl => ?_)
          refine lv_goto (tgt := 13) hx hb dX5_worst_48 (by decide) ?_
          exact ih_13 at9 g (k + 1) (by omega) (by omega) (by first | exact wsZ_gt (by omega) hr hg (by omega) | exact wsZ_le (by omega) hr hg (by omega)) (by first | rfl | exact hg) (by omega) _ _ _ hP hD hS (lv_sub hl [0, 2, 3, 4] rfl)
        · refine lv_iload hx hb dX5_worst_40 (lv_at hl 0 rfl) ?_
          refine lv_istore_n (lv' := [(2, .int (iI (aZ (er st le be te ab bl sc pi k)))), (4, .int (iI (aZ (er st le be te ab bl sc pi k)))), (3, .int (iI k)), (1, .int (iI at9)), (0, .ref (q 0))]) hx hb dX5_worst_42 rfl hl (by decide) rfl (fun ls hl => ?_)
          refine lv_iload_n hx hb dX5_worst_43 rfl (lv_at hl 2 rfl) ?_
          refine lv_istore_n (lv' := [(1, .int (iI k)), (2, .int (iI (aZ (er st le be te ab bl sc pi k)))), (4, .int (iI (aZ (er st le be te ab bl sc pi k)))), (3, .int (iI k)), (0, .ref (q 0))]) hx hb dX5_worst_44 rfl hl (by decide) rfl (fun ls hl => ?_)
          refine lv_iinc (v := iI (k + 1)) (lv' := [(3, .int (iI (k + 1))), (1, .int (iI k)), (2, .int (iI (aZ (er st le be te ab bl sc pi k)))), (4, .int (iI (aZ (er st le be te ab bl sc pi k)))), (0, .ref (q 0))]) hx hb dX5_worst_45 hl (k := 3) rfl (iI_add _ _) (by decide) rfl (fun ls hl => ?_)
          refine lv_goto (tgt := 13) hx hb dX5_worst_48 (by decide) ?_
          exact ih_13 k (aZ (er st le be te ab bl sc pi k)) (k + 1) (by omega) (by omega) (by first | exact wsZ_gt (by omega) hr hg (by omega) | exact wsZ_le (by omega) hr hg (by omega)) (by first | rfl | exact hg) (by omega) _ _ _ hP hD hS (lv_sub hl [0, 2, 1, 4] rfl)
  exact L_13 25 0 (aZ (er st le be te ab bl sc pi 0)) 1 (by omega) (by omega) rfl rfl (by omega) _ _ _ hP hD hS (lv_sub hl [0, 1, 2, 3] rfl)

theorem hd_X5_keys : yX5_keys.cls = RX5 ∧ yX5_keys.cls ≠ "java/lang/invoke/MethodHandle" ∧ yX5_keys.cls ≠ "java/lang/invoke/VarHandle" ∧ (parseMethodDescriptor yX5_keys.desc).map (fun d => d.parameters.length) = some 1 := by decide +kernel
set_option maxHeartbeats 4000000 in
set_option maxRecDepth 100000 in
theorem c_X5_keys_ok (I : okS nK st le be te ab bl ka bg ln ns me sc pi re bk) (n9 : Int) (h : -2147483648 ≤ n9 ∧ n9 ≤ 2147483647) (hok : 1 ≤ n9 ∧ n9 ≤ 24) : MI l D cy yX5_keys wsX5_keys ({ frames := 1, cells := 0, slots := 0, locals := 22 } : Room) [.ref (q 0), .int (iI n9)] (wT q cy nK st le be te ab bl ka bg ln ns me sc pi re bk pa lz go ss sm pf mf) nK (wT q cy n9 st le be te ab bl ka bg ln ns me sc pi re bk pa lz go ss sm pf mf) := by
  refine MI.ofW (cc := cX5_keys) (maxL := 3) (ret := (some .int)) (by decide) rfl (Nat.le_of_ble_eq_true rfl) ?_
  intro p e s m below meth c A ls X hK hP hD hA hS hl
  obtain ⟨hx, hb, hml, hr, hts, hown, hlocks⟩ := id X
  have hl : lv_has ls 3 [(0, .ref (q 0)), (1, .int (iI n9))] := hl
  have f_25 := hts (Cond.fieldLink RX5 25 "TwoKeys" "board" "LTwoKeys$Board;") (by decide +kernel)
  have f_66 := hts (Cond.fieldLink RX5 66 "TwoKeys$Board" "size" "I") (by decide +kernel)
  have n_X0 : ∀ w ∈ u_ws RX0 TX0 5, w ∈ wsX5_keys := by decide +kernel
  have n_X5 : ∀ w ∈ u_ws RX5 TX5 9, w ∈ wsX5_keys := by decide +kernel
  have iK := I.nK
  refine lv_iload_n hx hb dX5_keys_0 rfl (lv_at hl 1 rfl) ?_
  refine lv_iconst (v := iI (1)) hx hb dX5_keys_1 rfl ?_
  refine lv_bipush (v := iI (24)) hx hb dX5_keys_2 (by decide) ?_
  refine z_callSi (As := [.int (iI n9), .int (iI 1), .int (iI 24)]) (rest := []) X hK hP hD hA hS hl.1 gX5_keys_X5_within rfl ⟨rfl, rfl⟩ hd_X5_within ⟨Nat.le_of_ble_eq_true rfl, Nat.le_of_ble_eq_true rfl⟩ rfl (Nat.le_of_ble_eq_true rfl) ⟨Nat.zero_le _, Nat.zero_le _⟩ rfl dX5_keys_4 (c_X5_within n9 1 24 (by omega)) (fun H locs hP hD hS => ?_)
  refine z_ifp_ne (tgt := 13) hx hb dX5_keys_7 (by decide) (fun c_1 => ?_) (fun c_1 => ?_)
  · refine lv_aload_n hx hb dX5_keys_13 rfl (lv_at hl 0 rfl) ?_
    refine va_get (D := D) (ci := 5) (v := .ref (q 1)) (C := RX5) (T := TX5) (N := 9) hx hb hts n_X5 hown hK hP 0 rfl rfl 0 (by decide) f_25 (fun _ h9 => h9) rfl dX5_keys_14 ?_
    refine va_get (D := D) (ci := 0) (v := .int (iI nK)) (C := RX0) (T := TX0) (N := 5) hx hb hts n_X0 hown hK hP 1 rfl rfl 0 (by decide) f_66 (fun _ h9 => h9) rfl dX5_keys_17 ?_
    refine lv_istore_n (lv' := [(2, .int (iI nK)), (0, .ref (q 0)), (1, .int (iI n9))]) hx hb dX5_keys_20 rfl hl (by decide) rfl (fun ls hl => ?_)
    refine lv_aload_n hx hb dX5_keys_21 rfl (lv_at hl 1 rfl) ?_
    refine va_get (D := D) (ci := 5) (v := .ref (q 1)) (C := RX5) (T := TX5) (N := 9) hx hb hts n_X5 hown hK hP 0 rfl rfl 0 (by decide) f_25 (fun _ h9 => h9) rfl dX5_keys_22 ?_
    refine lv_iload_n hx hb dX5_keys_25 rfl (lv_at hl 2 rfl) ?_
    refine va_put (D := D) (ci := 0) (v := .int (iI n9)) (ty := .int) (C := RX0) (T := TX0) (N := 5) hx hb hts n_X0 tyX0 tyX0_ok nmX0 hown hK hP hD hS 1 rfl rfl 0 (by decide) f_66 (fun _ h9 => h9) rfl (by decide +kernel) rfl rfl (Nat.le_of_ble_eq_true rfl) dX5_keys_26 (fun H locs hP hD hS => ?_)
    have hP : va_P D vwCl (wT q cy n9 st le be te ab bl ka bg ln ns me sc pi re bk pa lz go ss sm pf mf) H := hP
    have hD : va_D A (wT q cy n9 st le be te ab bl ka bg ln ns me sc pi re bk pa lz go ss sm pf mf) := hD
    refine lv_iload_n hx hb dX5_keys_29 rfl (lv_at hl 0 rfl) ?_
    exact z_iret X hK hP hD hS dX5_keys_30 (by first | rfl | omega | grind)
  · exact absurd c_1 (by omega)

set_option maxHeartbeats 4000000 in
set_option maxRecDepth 100000 in
theorem c_X5_keys_no (I : okS nK st le be te ab bl ka bg ln ns me sc pi re bk) (n9 : Int) (h : -2147483648 ≤ n9 ∧ n9 ≤ 2147483647) (hno : ¬ (1 ≤ n9 ∧ n9 ≤ 24)) : MI l D cy yX5_keys wsX5_keys ({ frames := 1, cells := 0, slots := 0, locals := 22 } : Room) [.ref (q 0), .int (iI n9)] (wT q cy nK st le be te ab bl ka bg ln ns me sc pi re bk pa lz go ss sm pf mf) (-100002) (wT q cy nK st le be te ab bl ka bg ln ns me sc pi re bk pa lz go ss sm pf mf) := by
  refine MI.ofW (cc := cX5_keys) (maxL := 3) (ret := (some .int)) (by decide) rfl (Nat.le_of_ble_eq_true rfl) ?_
  intro p e s m below meth c A ls X hK hP hD hA hS hl
  obtain ⟨hx, hb, hml, hr, hts, hown, hlocks⟩ := id X
  have hl : lv_has ls 3 [(0, .ref (q 0)), (1, .int (iI n9))] := hl
  have k_65 := hts (Cond.constant RX5 65 (-100002)) (by decide +kernel)
  have iK := I.nK
  refine lv_iload_n hx hb dX5_keys_0 rfl (lv_at hl 1 rfl) ?_
  refine lv_iconst (v := iI (1)) hx hb dX5_keys_1 rfl ?_
  refine lv_bipush (v := iI (24)) hx hb dX5_keys_2 (by decide) ?_
  refine z_callSi (As := [.int (iI n9), .int (iI 1), .int (iI 24)]) (rest := []) X hK hP hD hA hS hl.1 gX5_keys_X5_within rfl ⟨rfl, rfl⟩ hd_X5_within ⟨Nat.le_of_ble_eq_true rfl, Nat.le_of_ble_eq_true rfl⟩ rfl (Nat.le_of_ble_eq_true rfl) ⟨Nat.zero_le _, Nat.zero_le _⟩ rfl dX5_keys_4 (c_X5_within n9 1 24 (by omega)) (fun H locs hP hD hS => ?_)
  refine z_ifp_ne (tgt := 13) hx hb dX5_keys_7 (by decide) (fun c_1 => ?_) (fun c_1 => ?_)
  · exact absurd c_1 (by omega)
  · refine z_ldc (n := -100002) hx hb hown k_65 (by decide) dX5_keys_10 ?_
    exact z_iret X hK hP hD hS dX5_keys_12 (by (repeat' split) <;> first | rfl | omega)

theorem hd_X5_strike : yX5_strike.cls = RX5 ∧ yX5_strike.cls ≠ "java/lang/invoke/MethodHandle" ∧ yX5_strike.cls ≠ "java/lang/invoke/VarHandle" ∧ (parseMethodDescriptor yX5_strike.desc).map (fun d => d.parameters.length) = some 3 := by decide +kernel
set_option maxHeartbeats 4000000 in
set_option maxRecDepth 100000 in
theorem c_X5_strike_ok (I : okS nK st le be te ab bl ka bg ln ns me sc pi re bk) (k : Int) (s9 : Int) (l9 : Int) (h : -2147483648 ≤ k ∧ k ≤ 2147483647 ∧ -2147483648 ≤ s9 ∧ s9 ≤ 2147483647 ∧ -2147483648 ≤ l9 ∧ l9 ≤ 2147483647) (hok : (0 ≤ k ∧ k < nK) ∧ (0 ≤ s9 ∧ s9 ≤ 23) ∧ (500 ≤ l9 ∧ l9 ≤ 9999)) : MI l D cy yX5_strike wsX5_strike ({ frames := 2, cells := 0, slots := 0, locals := 42 } : Room) [.ref (q 0), .int (iI k), .int (iI s9), .int (iI l9)] (wT q cy nK st le be te ab bl ka bg ln ns me sc pi re bk pa lz go ss sm pf mf) (st k) (wT q cy nK (uZ st k s9) (uZ le k l9) (uZ be k 0) te ab bl ka bg ln ns me sc pi re bk pa lz go ss sm pf mf) := by
  refine MI.ofW (cc := cX5_strike) (maxL := 5) (ret := (some .int)) (by decide) rfl (Nat.le_of_ble_eq_true rfl) ?_
  intro p e s m below meth c A ls X hK hP hD hA hS hl
  obtain ⟨hx, hb, hml, hr, hts, hown, hlocks⟩ := id X
  have hl : lv_has ls 5 [(0, .ref (q 0)), (1, .int (iI k)), (2, .int (iI s9)), (3, .int (iI l9))] := hl
  have f_25 := hts (Cond.fieldLink RX5 25 "TwoKeys" "board" "LTwoKeys$Board;") (by decide +kernel)
  have f_77 := hts (Cond.fieldLink RX5 77 "TwoKeys$Board" "struck" "[I") (by decide +kernel)
  have f_81 := hts (Cond.fieldLink RX5 81 "TwoKeys$Board" "lengths" "[I") (by decide +kernel)
  have f_84 := hts (Cond.fieldLink RX5 84 "TwoKeys$Board" "bends" "[I") (by decide +kernel)
  have n_X0 : ∀ w ∈ u_ws RX0 TX0 5, w ∈ wsX5_strike := by decide +kernel
  have n_X5 : ∀ w ∈ u_ws RX5 TX5 9, w ∈ wsX5_strike := by decide +kernel
  have iK := I.nK
  refine lv_aload_n hx hb dX5_strike_0 rfl (lv_at hl 0 rfl) ?_
  refine va_get (D := D) (ci := 5) (v := .ref (q 1)) (C := RX5) (T := TX5) (N := 9) hx hb hts n_X5 hown hK hP 0 rfl rfl 0 (by decide) f_25 (fun _ h9 => h9) rfl dX5_strike_1 ?_
  refine lv_iload_n hx hb dX5_strike_4 rfl (lv_at hl 1 rfl) ?_
  refine z_callVi (ci := 0) (q0 := 1) (As := [.int (iI k)]) (rest := []) X hK hP hD hA hS hl.1 gX5_strike_X0_has rfl ⟨rfl, rfl⟩ hd_X0_has ⟨Nat.le_of_ble_eq_true rfl, Nat.le_of_ble_eq_true rfl⟩ rfl rfl rfl (Nat.le_of_ble_eq_true rfl) ⟨Nat.zero_le _, Nat.zero_le _⟩ rfl dX5_strike_5 (c_X0_has I k (by omega)) (fun H locs hP hD hS => ?_)
  refine z_ifp_eq (tgt := 18) hx hb dX5_strike_8 (by decide) (fun c_1 => ?_) (fun c_1 => ?_)
  · exact absurd c_1 (by omega)
  · refine lv_iload_n hx hb dX5_strike_11 rfl (lv_at hl 2 rfl) ?_
    refine z_callSi (As := [.int (iI s9)]) (rest := []) X hK hP hD hA hS hl.1 gX5_strike_X5_isString rfl ⟨rfl, rfl⟩ hd_X5_isString ⟨Nat.le_of_ble_eq_true rfl, Nat.le_of_ble_eq_true rfl⟩ rfl (Nat.le_of_ble_eq_true rfl) ⟨Nat.zero_le _, Nat.zero_le _⟩ rfl dX5_strike_12 (c_X5_isString s9 (by omega)) (fun H locs hP hD hS => ?_)
    refine z_ifp_ne (tgt := 21) hx hb dX5_strike_15 (by decide) (fun c_2 => ?_) (fun c_2 => ?_)
    · refine lv_iload_n hx hb dX5_strike_21 rfl (lv_at hl 3 rfl) ?_
      refine lv_sipush (v := iI (500)) hx hb dX5_strike_22 (by decide) ?_
      refine lv_sipush (v := iI (9999)) hx hb dX5_strike_25 (by decide) ?_
      refine z_callSi (As := [.int (iI l9), .int (iI 500), .int (iI 9999)]) (rest := []) X hK hP hD hA hS hl.1 gX5_strike_X5_within rfl ⟨rfl, rfl⟩ hd_X5_within ⟨Nat.le_of_ble_eq_true rfl, Nat.le_of_ble_eq_true rfl⟩ rfl (Nat.le_of_ble_eq_true rfl) ⟨Nat.zero_le _, Nat.zero_le _⟩ rfl dX5_strike_28 (c_X5_within l9 500 9999 (by omega)) (fun H locs hP hD hS => ?_)
      refine z_ifp_ne (tgt := 37) hx hb dX5_strike_31 (by decide) (fun c_3 => ?_) (fun c_3 => ?_)
      · refine lv_aload_n hx hb dX5_strike_37 rfl (lv_at hl 0 rfl) ?_
        refine va_get (D := D) (ci := 5) (v := .ref (q 1)) (C := RX5) (T := TX5) (N := 9) hx hb hts n_X5 hown hK hP 0 rfl rfl 0 (by decide) f_25 (fun _ h9 => h9) rfl dX5_strike_38 ?_
        refine va_get (D := D) (ci := 0) (v := .ref (q 2)) (C := RX0) (T := TX0) (N := 5) hx hb hts n_X0 hown hK hP 1 rfl rfl 1 (by decide) f_77 (fun _ h9 => h9) rfl dX5_strike_41 ?_
        refine lv_iload_n hx hb dX5_strike_44 rfl (lv_at hl 1 rfl) ?_
        refine z_iald hx hb hK hP 2 0 rfl rfl (by omega) dX5_strike_45 ?_
        have b_4 := I.st k
        refine lv_istore (lv' := [(4, .int (iI (st k))), (0, .ref (q 0)), (1, .int (iI k)), (2, .int (iI s9)), (3, .int (iI l9))]) hx hb dX5_strike_46 hl (by decide) rfl (fun ls hl => ?_)
        refine lv_aload_n hx hb dX5_strike_48 rfl (lv_at hl 1 rfl) ?_
        refine va_get (D := D) (ci := 5) (v := .ref (q 1)) (C := RX5) (T := TX5) (N := 9) hx hb hts n_X5 hown hK hP 0 rfl rfl 0 (by decide) f_25 (fun _ h9 => h9) rfl dX5_strike_49 ?_
        refine va_get (D := D) (ci := 0) (v := .ref (q 2)) (C := RX0) (T := TX0) (N := 5) hx hb hts n_X0 hown hK hP 1 rfl rfl 1 (by decide) f_77 (fun _ h9 => h9) rfl dX5_strike_52 ?_
        refine lv_iload_n hx hb dX5_strike_55 rfl (lv_at hl 2 rfl) ?_
        refine lv_iload_n hx hb dX5_strike_56 rfl (lv_at hl 3 rfl) ?_
        refine z_iast (v := s9) hx hb hK hP hD hS 2 0 rfl rfl (by omega) dX5_strike_57 (fun H locs hP hD hS => ?_)
        have hP : va_P D vwCl (wT q cy nK (uZ st k s9) le be te ab bl ka bg ln ns me sc pi re bk pa lz go ss sm pf mf) H := hP
        have hD : va_D A (wT q cy nK (uZ st k s9) le be te ab bl ka bg ln ns me sc pi re bk pa lz go ss sm pf mf) := hD
        refine lv_aload_n hx hb dX5_strike_58 rfl (lv_at hl 1 rfl) ?_
        refine va_get (D := D) (ci := 5) (v := .ref (q 1)) (C := RX5) (T := TX5) (N := 9) hx hb hts n_X5 hown hK hP 0 rfl rfl 0 (by decide) f_25 (fun _ h9 => h9) rfl dX5_strike_59 ?_
        refine va_get (D := D) (ci := 0) (v := .ref (q 3)) (C := RX0) (T := TX0) (N := 5) hx hb hts n_X0 hown hK hP 1 rfl rfl 2 (by decide) f_81 (fun _ h9 => h9) rfl dX5_strike_62 ?_
        refine lv_iload_n hx hb dX5_strike_65 rfl (lv_at hl 2 rfl) ?_
        refine lv_iload_n hx hb dX5_strike_66 rfl (lv_at hl 4 rfl) ?_
        refine z_iast (v := l9) hx hb hK hP hD hS 3 0 rfl rfl (by omega) dX5_strike_67 (fun H locs hP hD hS => ?_)
        have hP : va_P D vwCl (wT q cy nK (uZ st k s9) (uZ le k l9) be te ab bl ka bg ln ns me sc pi re bk pa lz go ss sm pf mf) H := hP
        have hD : va_D A (wT q cy nK (uZ st k s9) (uZ le k l9) be te ab bl ka bg ln ns me sc pi re bk pa lz go ss sm pf mf) := hD
        refine lv_aload_n hx hb dX5_strike_68 rfl (lv_at hl 1 rfl) ?_
        refine va_get (D := D) (ci := 5) (v := .ref (q 1)) (C := RX5) (T := TX5) (N := 9) hx hb hts n_X5 hown hK hP 0 rfl rfl 0 (by decide) f_25 (fun _ h9 => h9) rfl dX5_strike_69 ?_
        refine va_get (D := D) (ci := 0) (v := .ref (q 4)) (C := RX0) (T := TX0) (N := 5) hx hb hts n_X0 hown hK hP 1 rfl rfl 3 (by decide) f_84 (fun _ h9 => h9) rfl dX5_strike_72 ?_
        refine lv_iload_n hx hb dX5_strike_75 rfl (lv_at hl 2 rfl) ?_
        refine lv_iconst (v := iI (0)) hx hb dX5_strike_76 rfl ?_
        refine z_iast (v := 0) hx hb hK hP hD hS 4 0 rfl rfl (by omega) dX5_strike_77 (fun H locs hP hD hS => ?_)
        have hP : va_P D vwCl (wT q cy nK (uZ st k s9) (uZ le k l9) (uZ be k 0) te ab bl ka bg ln ns me sc pi re bk pa lz go ss sm pf mf) H := hP
        have hD : va_D A (wT q cy nK (uZ st k s9) (uZ le k l9) (uZ be k 0) te ab bl ka bg ln ns me sc pi re bk pa lz go ss sm pf mf) := hD
        refine lv_iload hx hb dX5_strike_78 (lv_at hl 0 rfl) ?_
        exact z_iret X hK hP hD hS dX5_strike_80 (by first | rfl | omega | grind)
      · exact absurd c_3 (by omega)
    · exact absurd c_2 (by omega)

set_option maxHeartbeats 4000000 in
set_option maxRecDepth 100000 in
theorem c_X5_strike_no (I : okS nK st le be te ab bl ka bg ln ns me sc pi re bk) (k : Int) (s9 : Int) (l9 : Int) (h : -2147483648 ≤ k ∧ k ≤ 2147483647 ∧ -2147483648 ≤ s9 ∧ s9 ≤ 2147483647 ∧ -2147483648 ≤ l9 ∧ l9 ≤ 2147483647) (hno : ¬ ((0 ≤ k ∧ k < nK) ∧ (0 ≤ s9 ∧ s9 ≤ 23) ∧ (500 ≤ l9 ∧ l9 ≤ 9999))) : MI l D cy yX5_strike wsX5_strike ({ frames := 2, cells := 0, slots := 0, locals := 42 } : Room) [.ref (q 0), .int (iI k), .int (iI s9), .int (iI l9)] (wT q cy nK st le be te ab bl ka bg ln ns me sc pi re bk pa lz go ss sm pf mf) (if (0 ≤ k ∧ k < nK) ∧ (0 ≤ s9 ∧ s9 ≤ 23) then (-100002) else (-100001)) (wT q cy nK st le be te ab bl ka bg ln ns me sc pi re bk pa lz go ss sm pf mf) := by
  refine MI.ofW (cc := cX5_strike) (maxL := 5) (ret := (some .int)) (by decide) rfl (Nat.le_of_ble_eq_true rfl) ?_
  intro p e s m below meth c A ls X hK hP hD hA hS hl
  obtain ⟨hx, hb, hml, hr, hts, hown, hlocks⟩ := id X
  have hl : lv_has ls 5 [(0, .ref (q 0)), (1, .int (iI k)), (2, .int (iI s9)), (3, .int (iI l9))] := hl
  have f_25 := hts (Cond.fieldLink RX5 25 "TwoKeys" "board" "LTwoKeys$Board;") (by decide +kernel)
  have k_76 := hts (Cond.constant RX5 76 (-100001)) (by decide +kernel)
  have k_65 := hts (Cond.constant RX5 65 (-100002)) (by decide +kernel)
  have n_X5 : ∀ w ∈ u_ws RX5 TX5 9, w ∈ wsX5_strike := by decide +kernel
  have iK := I.nK
  refine lv_aload_n hx hb dX5_strike_0 rfl (lv_at hl 0 rfl) ?_
  refine va_get (D := D) (ci := 5) (v := .ref (q 1)) (C := RX5) (T := TX5) (N := 9) hx hb hts n_X5 hown hK hP 0 rfl rfl 0 (by decide) f_25 (fun _ h9 => h9) rfl dX5_strike_1 ?_
  refine lv_iload_n hx hb dX5_strike_4 rfl (lv_at hl 1 rfl) ?_
  refine z_callVi (ci := 0) (q0 := 1) (As := [.int (iI k)]) (rest := []) X hK hP hD hA hS hl.1 gX5_strike_X0_has rfl ⟨rfl, rfl⟩ hd_X0_has ⟨Nat.le_of_ble_eq_true rfl, Nat.le_of_ble_eq_true rfl⟩ rfl rfl rfl (Nat.le_of_ble_eq_true rfl) ⟨Nat.zero_le _, Nat.zero_le _⟩ rfl dX5_strike_5 (c_X0_has I k (by omega)) (fun H locs hP hD hS => ?_)
  refine z_ifp_eq (tgt := 18) hx hb dX5_strike_8 (by decide) (fun c_1 => ?_) (fun c_1 => ?_)
  · refine z_ldc (n := -100001) hx hb hown k_76 (by decide) dX5_strike_18 ?_
    exact z_iret X hK hP hD hS dX5_strike_20 (by (repeat' split) <;> first | rfl | omega)
  · refine lv_iload_n hx hb dX5_strike_11 rfl (lv_at hl 2 rfl) ?_
    refine z_callSi (As := [.int (iI s9)]) (rest := []) X hK hP hD hA hS hl.1 gX5_strike_X5_isString rfl ⟨rfl, rfl⟩ hd_X5_isString ⟨Nat.le_of_ble_eq_true rfl, Nat.le_of_ble_eq_true rfl⟩ rfl (Nat.le_of_ble_eq_true rfl) ⟨Nat.zero_le _, Nat.zero_le _⟩ rfl dX5_strike_12 (c_X5_isString s9 (by omega)) (fun H locs hP hD hS => ?_)
    refine z_ifp_ne (tgt := 21) hx hb dX5_strike_15 (by decide) (fun c_2 => ?_) (fun c_2 => ?_)
    · refine lv_iload_n hx hb dX5_strike_21 rfl (lv_at hl 3 rfl) ?_
      refine lv_sipush (v := iI (500)) hx hb dX5_strike_22 (by decide) ?_
      refine lv_sipush (v := iI (9999)) hx hb dX5_strike_25 (by decide) ?_
      refine z_callSi (As := [.int (iI l9), .int (iI 500), .int (iI 9999)]) (rest := []) X hK hP hD hA hS hl.1 gX5_strike_X5_within rfl ⟨rfl, rfl⟩ hd_X5_within ⟨Nat.le_of_ble_eq_true rfl, Nat.le_of_ble_eq_true rfl⟩ rfl (Nat.le_of_ble_eq_true rfl) ⟨Nat.zero_le _, Nat.zero_le _⟩ rfl dX5_strike_28 (c_X5_within l9 500 9999 (by omega)) (fun H locs hP hD hS => ?_)
      refine z_ifp_ne (tgt := 37) hx hb dX5_strike_31 (by decide) (fun c_3 => ?_) (fun c_3 => ?_)
      · exact absurd c_3 (by omega)
      · refine z_ldc (n := -100002) hx hb hown k_65 (by decide) dX5_strike_34 ?_
        exact z_iret X hK hP hD hS dX5_strike_36 (by (repeat' split) <;> first | rfl | omega)
    · refine z_ldc (n := -100001) hx hb hown k_76 (by decide) dX5_strike_18 ?_
      exact z_iret X hK hP hD hS dX5_strike_20 (by (repeat' split) <;> first | rfl | omega)

theorem hd_X5_tension : yX5_tension.cls = RX5 ∧ yX5_tension.cls ≠ "java/lang/invoke/MethodHandle" ∧ yX5_tension.cls ≠ "java/lang/invoke/VarHandle" ∧ (parseMethodDescriptor yX5_tension.desc).map (fun d => d.parameters.length) = some 2 := by decide +kernel
set_option maxHeartbeats 4000000 in
set_option maxRecDepth 100000 in
theorem c_X5_tension_ok (I : okS nK st le be te ab bl ka bg ln ns me sc pi re bk) (s9 : Int) (v : Int) (h : -2147483648 ≤ s9 ∧ s9 ≤ 2147483647 ∧ -2147483648 ≤ v ∧ v ≤ 2147483647) (hok : (0 ≤ s9 ∧ s9 ≤ 23) ∧ (100 ≤ v ∧ v ≤ 20000)) : MI l D cy yX5_tension wsX5_tension ({ frames := 2, cells := 0, slots := 0, locals := 42 } : Room) [.ref (q 0), .int (iI s9), .int (iI v)] (wT q cy nK st le be te ab bl ka bg ln ns me sc pi re bk pa lz go ss sm pf mf) (te s9) (wT q cy nK st le be (uZ te s9 v) ab bl ka bg ln ns me sc pi re bk pa lz go ss sm pf mf) := by
  refine MI.ofW (cc := cX5_tension) (maxL := 4) (ret := (some .int)) (by decide) rfl (Nat.le_of_ble_eq_true rfl) ?_
  intro p e s m below meth c A ls X hK hP hD hA hS hl
  obtain ⟨hx, hb, hml, hr, hts, hown, hlocks⟩ := id X
  have hl : lv_has ls 4 [(0, .ref (q 0)), (1, .int (iI s9)), (2, .int (iI v))] := hl
  have f_25 := hts (Cond.fieldLink RX5 25 "TwoKeys" "board" "LTwoKeys$Board;") (by decide +kernel)
  have f_87 := hts (Cond.fieldLink RX5 87 "TwoKeys$Board" "tensions" "[I") (by decide +kernel)
  have n_X0 : ∀ w ∈ u_ws RX0 TX0 5, w ∈ wsX5_tension := by decide +kernel
  have n_X5 : ∀ w ∈ u_ws RX5 TX5 9, w ∈ wsX5_tension := by decide +kernel
  have iK := I.nK
  refine lv_iload_n hx hb dX5_tension_0 rfl (lv_at hl 1 rfl) ?_
  refine z_callSi (As := [.int (iI s9)]) (rest := []) X hK hP hD hA hS hl.1 gX5_tension_X5_isString rfl ⟨rfl, rfl⟩ hd_X5_isString ⟨Nat.le_of_ble_eq_true rfl, Nat.le_of_ble_eq_true rfl⟩ rfl (Nat.le_of_ble_eq_true rfl) ⟨Nat.zero_le _, Nat.zero_le _⟩ rfl dX5_tension_1 (c_X5_isString s9 (by omega)) (fun H locs hP hD hS => ?_)
  refine z_ifp_ne (tgt := 10) hx hb dX5_tension_4 (by decide) (fun c_1 => ?_) (fun c_1 => ?_)
  · refine lv_iload_n hx hb dX5_tension_10 rfl (lv_at hl 2 rfl) ?_
    refine lv_bipush (v := iI (100)) hx hb dX5_tension_11 (by decide) ?_
    refine lv_sipush (v := iI (20000)) hx hb dX5_tension_13 (by decide) ?_
    refine z_callSi (As := [.int (iI v), .int (iI 100), .int (iI 20000)]) (rest := []) X hK hP hD hA hS hl.1 gX5_tension_X5_within rfl ⟨rfl, rfl⟩ hd_X5_within ⟨Nat.le_of_ble_eq_true rfl, Nat.le_of_ble_eq_true rfl⟩ rfl (Nat.le_of_ble_eq_true rfl) ⟨Nat.zero_le _, Nat.zero_le _⟩ rfl dX5_tension_16 (c_X5_within v 100 20000 (by omega)) (fun H locs hP hD hS => ?_)
    refine z_ifp_ne (tgt := 25) hx hb dX5_tension_19 (by decide) (fun c_2 => ?_) (fun c_2 => ?_)
    · refine lv_aload_n hx hb dX5_tension_25 rfl (lv_at hl 0 rfl) ?_
      refine va_get (D := D) (ci := 5) (v := .ref (q 1)) (C := RX5) (T := TX5) (N := 9) hx hb hts n_X5 hown hK hP 0 rfl rfl 0 (by decide) f_25 (fun _ h9 => h9) rfl dX5_tension_26 ?_
      refine va_get (D := D) (ci := 0) (v := .ref (q 5)) (C := RX0) (T := TX0) (N := 5) hx hb hts n_X0 hown hK hP 1 rfl rfl 4 (by decide) f_87 (fun _ h9 => h9) rfl dX5_tension_29 ?_
      refine lv_iload_n hx hb dX5_tension_32 rfl (lv_at hl 1 rfl) ?_
      refine z_iald hx hb hK hP 5 0 rfl rfl (by omega) dX5_tension_33 ?_
      have b_3 := I.te s9
      refine lv_istore_n (lv' := [(3, .int (iI (te s9))), (0, .ref (q 0)), (1, .int (iI s9)), (2, .int (iI v))]) hx hb dX5_tension_34 rfl hl (by decide) rfl (fun ls hl => ?_)
      refine lv_aload_n hx hb dX5_tension_35 rfl (lv_at hl 1 rfl) ?_
      refine va_get (D := D) (ci := 5) (v := .ref (q 1)) (C := RX5) (T := TX5) (N := 9) hx hb hts n_X5 hown hK hP 0 rfl rfl 0 (by decide) f_25 (fun _ h9 => h9) rfl dX5_tension_36 ?_
      refine va_get (D := D) (ci := 0) (v := .ref (q 5)) (C := RX0) (T := TX0) (N := 5) hx hb hts n_X0 hown hK hP 1 rfl rfl 4 (by decide) f_87 (fun _ h9 => h9) rfl dX5_tension_39 ?_
      refine lv_iload_n hx hb dX5_tension_42 rfl (lv_at hl 2 rfl) ?_
      refine lv_iload_n hx hb dX5_tension_43 rfl (lv_at hl 3 rfl) ?_
      refine z_iast (v := v) hx hb hK hP hD hS 5 0 rfl rfl (by omega) dX5_tension_44 (fun H locs hP hD hS => ?_)
      have hP : va_P D vwCl (wT q cy nK st le be (uZ te s9 v) ab bl ka bg ln ns me sc pi re bk pa lz go ss sm pf mf) H := hP
      have hD : va_D A (wT q cy nK st le be (uZ te s9 v) ab bl ka bg ln ns me sc pi re bk pa lz go ss sm pf mf) := hD
      refine lv_iload_n hx hb dX5_tension_45 rfl (lv_at hl 0 rfl) ?_
      exact z_iret X hK hP hD hS dX5_tension_46 (by first | rfl | omega | grind)
    · exact absurd c_2 (by omega)
  · exact absurd c_1 (by omega)

set_option maxHeartbeats 4000000 in
set_option maxRecDepth 100000 in
theorem c_X5_tension_no (I : okS nK st le be te ab bl ka bg ln ns me sc pi re bk) (s9 : Int) (v : Int) (h : -2147483648 ≤ s9 ∧ s9 ≤ 2147483647 ∧ -2147483648 ≤ v ∧ v ≤ 2147483647) (hno : ¬ ((0 ≤ s9 ∧ s9 ≤ 23) ∧ (100 ≤ v ∧ v ≤ 20000))) : MI l D cy yX5_tension wsX5_tension ({ frames := 2, cells := 0, slots := 0, locals := 42 } : Room) [.ref (q 0), .int (iI s9), .int (iI v)] (wT q cy nK st le be te ab bl ka bg ln ns me sc pi re bk pa lz go ss sm pf mf) (if 0 ≤ s9 ∧ s9 ≤ 23 then (-100002) else (-100001)) (wT q cy nK st le be te ab bl ka bg ln ns me sc pi re bk pa lz go ss sm pf mf) := by
  refine MI.ofW (cc := cX5_tension) (maxL := 4) (ret := (some .int)) (by decide) rfl (Nat.le_of_ble_eq_true rfl) ?_
  intro p e s m below meth c A ls X hK hP hD hA hS hl
  obtain ⟨hx, hb, hml, hr, hts, hown, hlocks⟩ := id X
  have hl : lv_has ls 4 [(0, .ref (q 0)), (1, .int (iI s9)), (2, .int (iI v))] := hl
  have k_65 := hts (Cond.constant RX5 65 (-100002)) (by decide +kernel)
  have k_76 := hts (Cond.constant RX5 76 (-100001)) (by decide +kernel)
  have iK := I.nK
  refine lv_iload_n hx hb dX5_tension_0 rfl (lv_at hl 1 rfl) ?_
  refine z_callSi (As := [.int (iI s9)]) (rest := []) X hK hP hD hA hS hl.1 gX5_tension_X5_isString rfl ⟨rfl, rfl⟩ hd_X5_isString ⟨Nat.le_of_ble_eq_true rfl, Nat.le_of_ble_eq_true rfl⟩ rfl (Nat.le_of_ble_eq_true rfl) ⟨Nat.zero_le _, Nat.zero_le _⟩ rfl dX5_tension_1 (c_X5_isString s9 (by omega)) (fun H locs hP hD hS => ?_)
  refine z_ifp_ne (tgt := 10) hx hb dX5_tension_4 (by decide) (fun c_1 => ?_) (fun c_1 => ?_)
  · refine lv_iload_n hx hb dX5_tension_10 rfl (lv_at hl 2 rfl) ?_
    refine lv_bipush (v := iI (100)) hx hb dX5_tension_11 (by decide) ?_
    refine lv_sipush (v := iI (20000)) hx hb dX5_tension_13 (by decide) ?_
    refine z_callSi (As := [.int (iI v), .int (iI 100), .int (iI 20000)]) (rest := []) X hK hP hD hA hS hl.1 gX5_tension_X5_within rfl ⟨rfl, rfl⟩ hd_X5_within ⟨Nat.le_of_ble_eq_true rfl, Nat.le_of_ble_eq_true rfl⟩ rfl (Nat.le_of_ble_eq_true rfl) ⟨Nat.zero_le _, Nat.zero_le _⟩ rfl dX5_tension_16 (c_X5_within v 100 20000 (by omega)) (fun H locs hP hD hS => ?_)
    refine z_ifp_ne (tgt := 25) hx hb dX5_tension_19 (by decide) (fun c_2 => ?_) (fun c_2 => ?_)
    · exact absurd c_2 (by omega)
    · refine z_ldc (n := -100002) hx hb hown k_65 (by decide) dX5_tension_22 ?_
      exact z_iret X hK hP hD hS dX5_tension_24 (by (repeat' split) <;> first | rfl | omega)
  · refine z_ldc (n := -100001) hx hb hown k_76 (by decide) dX5_tension_7 ?_
    exact z_iret X hK hP hD hS dX5_tension_9 (by (repeat' split) <;> first | rfl | omega)

theorem hd_X5_bend : yX5_bend.cls = RX5 ∧ yX5_bend.cls ≠ "java/lang/invoke/MethodHandle" ∧ yX5_bend.cls ≠ "java/lang/invoke/VarHandle" ∧ (parseMethodDescriptor yX5_bend.desc).map (fun d => d.parameters.length) = some 2 := by decide +kernel
set_option maxHeartbeats 4000000 in
set_option maxRecDepth 100000 in
theorem c_X5_bend_ok (I : okS nK st le be te ab bl ka bg ln ns me sc pi re bk) (k : Int) (v : Int) (h : -2147483648 ≤ k ∧ k ≤ 2147483647 ∧ -2147483648 ≤ v ∧ v ≤ 2147483647) (hok : (0 ≤ k ∧ k < nK) ∧ (-40 ≤ v ∧ v ≤ 40)) : MI l D cy yX5_bend wsX5_bend ({ frames := 1, cells := 0, slots := 0, locals := 22 } : Room) [.ref (q 0), .int (iI k), .int (iI v)] (wT q cy nK st le be te ab bl ka bg ln ns me sc pi re bk pa lz go ss sm pf mf) (be k) (wT q cy nK st le (uZ be k v) te ab bl ka bg ln ns me sc pi re bk pa lz go ss sm pf mf) := by
  refine MI.ofW (cc := cX5_bend) (maxL := 4) (ret := (some .int)) (by decide) rfl (Nat.le_of_ble_eq_true rfl) ?_
  intro p e s m below meth c A ls X hK hP hD hA hS hl
  obtain ⟨hx, hb, hml, hr, hts, hown, hlocks⟩ := id X
  have hl : lv_has ls 4 [(0, .ref (q 0)), (1, .int (iI k)), (2, .int (iI v))] := hl
  have f_25 := hts (Cond.fieldLink RX5 25 "TwoKeys" "board" "LTwoKeys$Board;") (by decide +kernel)
  have f_84 := hts (Cond.fieldLink RX5 84 "TwoKeys$Board" "bends" "[I") (by decide +kernel)
  have n_X0 : ∀ w ∈ u_ws RX0 TX0 5, w ∈ wsX5_bend := by decide +kernel
  have n_X5 : ∀ w ∈ u_ws RX5 TX5 9, w ∈ wsX5_bend := by decide +kernel
  have iK := I.nK
  refine lv_aload_n hx hb dX5_bend_0 rfl (lv_at hl 0 rfl) ?_
  refine va_get (D := D) (ci := 5) (v := .ref (q 1)) (C := RX5) (T := TX5) (N := 9) hx hb hts n_X5 hown hK hP 0 rfl rfl 0 (by decide) f_25 (fun _ h9 => h9) rfl dX5_bend_1 ?_
  refine lv_iload_n hx hb dX5_bend_4 rfl (lv_at hl 1 rfl) ?_
  refine z_callVi (ci := 0) (q0 := 1) (As := [.int (iI k)]) (rest := []) X hK hP hD hA hS hl.1 gX5_bend_X0_has rfl ⟨rfl, rfl⟩ hd_X0_has ⟨Nat.le_of_ble_eq_true rfl, Nat.le_of_ble_eq_true rfl⟩ rfl rfl rfl (Nat.le_of_ble_eq_true rfl) ⟨Nat.zero_le _, Nat.zero_le _⟩ rfl dX5_bend_5 (c_X0_has I k (by omega)) (fun H locs hP hD hS => ?_)
  refine z_ifp_ne (tgt := 14) hx hb dX5_bend_8 (by decide) (fun c_1 => ?_) (fun c_1 => ?_)
  · refine lv_iload_n hx hb dX5_bend_14 rfl (lv_at hl 2 rfl) ?_
    refine lv_bipush (v := iI (-40)) hx hb dX5_bend_15 (by decide) ?_
    refine lv_bipush (v := iI (40)) hx hb dX5_bend_17 (by decide) ?_
    refine z_callSi (As := [.int (iI v), .int (iI (-40)), .int (iI 40)]) (rest := []) X hK hP hD hA hS hl.1 gX5_bend_X5_within rfl ⟨rfl, rfl⟩ hd_X5_within ⟨Nat.le_of_ble_eq_true rfl, Nat.le_of_ble_eq_true rfl⟩ rfl (Nat.le_of_ble_eq_true rfl) ⟨Nat.zero_le _, Nat.zero_le _⟩ rfl dX5_bend_19 (c_X5_within v (-40) 40 (by omega)) (fun H locs hP hD hS => ?_)
    refine z_ifp_ne (tgt := 28) hx hb dX5_bend_22 (by decide) (fun c_2 => ?_) (fun c_2 => ?_)
    · refine lv_aload_n hx hb dX5_bend_28 rfl (lv_at hl 0 rfl) ?_
      refine va_get (D := D) (ci := 5) (v := .ref (q 1)) (C := RX5) (T := TX5) (N := 9) hx hb hts n_X5 hown hK hP 0 rfl rfl 0 (by decide) f_25 (fun _ h9 => h9) rfl dX5_bend_29 ?_
      refine va_get (D := D) (ci := 0) (v := .ref (q 4)) (C := RX0) (T := TX0) (N := 5) hx hb hts n_X0 hown hK hP 1 rfl rfl 3 (by decide) f_84 (fun _ h9 => h9) rfl dX5_bend_32 ?_
      refine lv_iload_n hx hb dX5_bend_35 rfl (lv_at hl 1 rfl) ?_
      refine z_iald hx hb hK hP 4 0 rfl rfl (by omega) dX5_bend_36 ?_
      have b_3 := I.be k
      refine lv_istore_n (lv' := [(3, .int (iI (be k))), (0, .ref (q 0)), (1, .int (iI k)), (2, .int (iI v))]) hx hb dX5_bend_37 rfl hl (by decide) rfl (fun ls hl => ?_)
      refine lv_aload_n hx hb dX5_bend_38 rfl (lv_at hl 1 rfl) ?_
      refine va_get (D := D) (ci := 5) (v := .ref (q 1)) (C := RX5) (T := TX5) (N := 9) hx hb hts n_X5 hown hK hP 0 rfl rfl 0 (by decide) f_25 (fun _ h9 => h9) rfl dX5_bend_39 ?_
      refine va_get (D := D) (ci := 0) (v := .ref (q 4)) (C := RX0) (T := TX0) (N := 5) hx hb hts n_X0 hown hK hP 1 rfl rfl 3 (by decide) f_84 (fun _ h9 => h9) rfl dX5_bend_42 ?_
      refine lv_iload_n hx hb dX5_bend_45 rfl (lv_at hl 2 rfl) ?_
      refine lv_iload_n hx hb dX5_bend_46 rfl (lv_at hl 3 rfl) ?_
      refine z_iast (v := v) hx hb hK hP hD hS 4 0 rfl rfl (by omega) dX5_bend_47 (fun H locs hP hD hS => ?_)
      have hP : va_P D vwCl (wT q cy nK st le (uZ be k v) te ab bl ka bg ln ns me sc pi re bk pa lz go ss sm pf mf) H := hP
      have hD : va_D A (wT q cy nK st le (uZ be k v) te ab bl ka bg ln ns me sc pi re bk pa lz go ss sm pf mf) := hD
      refine lv_iload_n hx hb dX5_bend_48 rfl (lv_at hl 0 rfl) ?_
      exact z_iret X hK hP hD hS dX5_bend_49 (by first | rfl | omega | grind)
    · exact absurd c_2 (by omega)
  · exact absurd c_1 (by omega)

set_option maxHeartbeats 4000000 in
set_option maxRecDepth 100000 in
theorem c_X5_bend_no (I : okS nK st le be te ab bl ka bg ln ns me sc pi re bk) (k : Int) (v : Int) (h : -2147483648 ≤ k ∧ k ≤ 2147483647 ∧ -2147483648 ≤ v ∧ v ≤ 2147483647) (hno : ¬ ((0 ≤ k ∧ k < nK) ∧ (-40 ≤ v ∧ v ≤ 40))) : MI l D cy yX5_bend wsX5_bend ({ frames := 1, cells := 0, slots := 0, locals := 22 } : Room) [.ref (q 0), .int (iI k), .int (iI v)] (wT q cy nK st le be te ab bl ka bg ln ns me sc pi re bk pa lz go ss sm pf mf) (if 0 ≤ k ∧ k < nK then (-100002) else (-100001)) (wT q cy nK st le be te ab bl ka bg ln ns me sc pi re bk pa lz go ss sm pf mf) := by
  refine MI.ofW (cc := cX5_bend) (maxL := 4) (ret := (some .int)) (by decide) rfl (Nat.le_of_ble_eq_true rfl) ?_
  intro p e s m below meth c A ls X hK hP hD hA hS hl
  obtain ⟨hx, hb, hml, hr, hts, hown, hlocks⟩ := id X
  have hl : lv_has ls 4 [(0, .ref (q 0)), (1, .int (iI k)), (2, .int (iI v))] := hl
  have f_25 := hts (Cond.fieldLink RX5 25 "TwoKeys" "board" "LTwoKeys$Board;") (by decide +kernel)
  have k_65 := hts (Cond.constant RX5 65 (-100002)) (by decide +kernel)
  have k_76 := hts (Cond.constant RX5 76 (-100001)) (by decide +kernel)
  have n_X5 : ∀ w ∈ u_ws RX5 TX5 9, w ∈ wsX5_bend := by decide +kernel
  have iK := I.nK
  refine lv_aload_n hx hb dX5_bend_0 rfl (lv_at hl 0 rfl) ?_
  refine va_get (D := D) (ci := 5) (v := .ref (q 1)) (C := RX5) (T := TX5) (N := 9) hx hb hts n_X5 hown hK hP 0 rfl rfl 0 (by decide) f_25 (fun _ h9 => h9) rfl dX5_bend_1 ?_
  refine lv_iload_n hx hb dX5_bend_4 rfl (lv_at hl 1 rfl) ?_
  refine z_callVi (ci := 0) (q0 := 1) (As := [.int (iI k)]) (rest := []) X hK hP hD hA hS hl.1 gX5_bend_X0_has rfl ⟨rfl, rfl⟩ hd_X0_has ⟨Nat.le_of_ble_eq_true rfl, Nat.le_of_ble_eq_true rfl⟩ rfl rfl rfl (Nat.le_of_ble_eq_true rfl) ⟨Nat.zero_le _, Nat.zero_le _⟩ rfl dX5_bend_5 (c_X0_has I k (by omega)) (fun H locs hP hD hS => ?_)
  refine z_ifp_ne (tgt := 14) hx hb dX5_bend_8 (by decide) (fun c_1 => ?_) (fun c_1 => ?_)
  · refine lv_iload_n hx hb dX5_bend_14 rfl (lv_at hl 2 rfl) ?_
    refine lv_bipush (v := iI (-40)) hx hb dX5_bend_15 (by decide) ?_
    refine lv_bipush (v := iI (40)) hx hb dX5_bend_17 (by decide) ?_
    refine z_callSi (As := [.int (iI v), .int (iI (-40)), .int (iI 40)]) (rest := []) X hK hP hD hA hS hl.1 gX5_bend_X5_within rfl ⟨rfl, rfl⟩ hd_X5_within ⟨Nat.le_of_ble_eq_true rfl, Nat.le_of_ble_eq_true rfl⟩ rfl (Nat.le_of_ble_eq_true rfl) ⟨Nat.zero_le _, Nat.zero_le _⟩ rfl dX5_bend_19 (c_X5_within v (-40) 40 (by omega)) (fun H locs hP hD hS => ?_)
    refine z_ifp_ne (tgt := 28) hx hb dX5_bend_22 (by decide) (fun c_2 => ?_) (fun c_2 => ?_)
    · exact absurd c_2 (by omega)
    · refine z_ldc (n := -100002) hx hb hown k_65 (by decide) dX5_bend_25 ?_
      exact z_iret X hK hP hD hS dX5_bend_27 (by (repeat' split) <;> first | rfl | omega)
  · refine z_ldc (n := -100001) hx hb hown k_76 (by decide) dX5_bend_11 ?_
    exact z_iret X hK hP hD hS dX5_bend_13 (by (repeat' split) <;> first | rfl | omega)

theorem hd_X5_about : yX5_about.cls = RX5 ∧ yX5_about.cls ≠ "java/lang/invoke/MethodHandle" ∧ yX5_about.cls ≠ "java/lang/invoke/VarHandle" ∧ (parseMethodDescriptor yX5_about.desc).map (fun d => d.parameters.length) = some 2 := by decide +kernel
set_option maxHeartbeats 4000000 in
set_option maxRecDepth 100000 in
theorem c_X5_about (I : okS nK st le be te ab bl ka bg ln ns me sc pi re bk) (k : Int) (w9 : Int) (h : -2147483648 ≤ k ∧ k ≤ 2147483647 ∧ -2147483648 ≤ w9 ∧ w9 ≤ 2147483647) : MI l D cy yX5_about wsX5_about ({ frames := 3, cells := 0, slots := 0, locals := 68 } : Room) [.ref (q 0), .int (iI k), .int (iI w9)] (wT q cy nK st le be te ab bl ka bg ln ns me sc pi re bk pa lz go ss sm pf mf) (if 0 ≤ k ∧ k < nK then (if w9 = 0 then st k else if w9 = 1 then le k else if w9 = 2 then be k else if w9 = 3 then te (st k) * 10000 / (le k + be k) else if w9 = 4 then gl ab bl sc pi k else if w9 = 5 then er st le be te ab bl sc pi k else (-100002)) else (-100001)) (wT q cy nK st le be te ab bl ka bg ln ns me sc pi re bk pa lz go ss sm pf mf) := by
  refine MI.ofW (cc := cX5_about) (maxL := 3) (ret := (some .int)) (by decide) rfl (Nat.le_of_ble_eq_true rfl) ?_
  intro p e s m below meth c A ls X hK hP hD hA hS hl
  obtain ⟨hx, hb, hml, hr, hts, hown, hlocks⟩ := id X
  have hl : lv_has ls 3 [(0, .ref (q 0)), (1, .int (iI k)), (2, .int (iI w9))] := hl
  have f_25 := hts (Cond.fieldLink RX5 25 "TwoKeys" "board" "LTwoKeys$Board;") (by decide +kernel)
  have f_77 := hts (Cond.fieldLink RX5 77 "TwoKeys$Board" "struck" "[I") (by decide +kernel)
  have f_81 := hts (Cond.fieldLink RX5 81 "TwoKeys$Board" "lengths" "[I") (by decide +kernel)
  have f_84 := hts (Cond.fieldLink RX5 84 "TwoKeys$Board" "bends" "[I") (by decide +kernel)
  have k_65 := hts (Cond.constant RX5 65 (-100002)) (by decide +kernel)
  have k_76 := hts (Cond.constant RX5 76 (-100001)) (by decide +kernel)
  have n_X0 : ∀ w ∈ u_ws RX0 TX0 5, w ∈ wsX5_about := by decide +kernel
  have n_X5 : ∀ w ∈ u_ws RX5 TX5 9, w ∈ wsX5_about := by decide +kernel
  have iK := I.nK
  refine lv_aload_n hx hb dX5_about_0 rfl (lv_at hl 0 rfl) ?_
  refine va_get (D := D) (ci := 5) (v := .ref (q 1)) (C := RX5) (T := TX5) (N := 9) hx hb hts n_X5 hown hK hP 0 rfl rfl 0 (by decide) f_25 (fun _ h9 => h9) rfl dX5_about_1 ?_
  refine lv_iload_n hx hb dX5_about_4 rfl (lv_at hl 1 rfl) ?_
  refine z_callVi (ci := 0) (q0 := 1) (As := [.int (iI k)]) (rest := []) X hK hP hD hA hS hl.1 gX5_about_X0_has rfl ⟨rfl, rfl⟩ hd_X0_has ⟨Nat.le_of_ble_eq_true rfl, Nat.le_of_ble_eq_true rfl⟩ rfl rfl rfl (Nat.le_of_ble_eq_true rfl) ⟨Nat.zero_le _, Nat.zero_le _⟩ rfl dX5_about_5 (c_X0_has I k (by omega)) (fun H locs hP hD hS => ?_)
  refine z_ifp_ne (tgt := 14) hx hb dX5_about_8 (by decide) (fun c_1 => ?_) (fun c_1 => ?_)
  · refine lv_iload_n hx hb dX5_about_14 rfl (lv_at hl 2 rfl) ?_
    by_cases c_2_0 : w9 = 0
    · refine z_tabIn (off := 37) (tgt := 52) (z := 0) hx hb dX5_about_15 c_2_0 (by decide) (by decide) (by decide) rfl (by decide) ?_
      refine lv_aload_n hx hb dX5_about_52 rfl (lv_at hl 0 rfl) ?_
      refine va_get (D := D) (ci := 5) (v := .ref (q 1)) (C := RX5) (T := TX5) (N := 9) hx hb hts n_X5 hown hK hP 0 rfl rfl 0 (by decide) f_25 (fun _ h9 => h9) rfl dX5_about_53 ?_
      refine va_get (D := D) (ci := 0) (v := .ref (q 2)) (C := RX0) (T := TX0) (N := 5) hx hb hts n_X0 hown hK hP 1 rfl rfl 1 (by decide) f_77 (fun _ h9 => h9) rfl dX5_about_56 ?_
      refine lv_iload_n hx hb dX5_about_59 rfl (lv_at hl 1 rfl) ?_
      refine z_iald hx hb hK hP 2 0 rfl rfl (by omega) dX5_about_60 ?_
      have b_3 := I.st k
      exact z_iret X hK hP hD hS dX5_about_61 (by (repeat' split) <;> first | rfl | omega)
    by_cases c_2_1 : w9 = 1
    · refine z_tabIn (off := 47) (tgt := 62) (z := 1) hx hb dX5_about_15 c_2_1 (by decide) (by decide) (by decide) rfl (by decide) ?_
      refine lv_aload_n hx hb dX5_about_62 rfl (lv_at hl 0 rfl) ?_
      refine va_get (D := D) (ci := 5) (v := .ref (q 1)) (C := RX5) (T := TX5) (N := 9) hx hb hts n_X5 hown hK hP 0 rfl rfl 0 (by decide) f_25 (fun _ h9 => h9) rfl dX5_about_63 ?_
      refine va_get (D := D) (ci := 0) (v := .ref (q 3)) (C := RX0) (T := TX0) (N := 5) hx hb hts n_X0 hown hK hP 1 rfl rfl 2 (by decide) f_81 (fun _ h9 => h9) rfl dX5_about_66 ?_
      refine lv_iload_n hx hb dX5_about_69 rfl (lv_at hl 1 rfl) ?_
      refine z_iald hx hb hK hP 3 0 rfl rfl (by omega) dX5_about_70 ?_
      have b_4 := I.le k
      exact z_iret X hK hP hD hS dX5_about_71 (by (repeat' split) <;> first | rfl | omega)
    by_cases c_2_2 : w9 = 2
    · refine z_tabIn (off := 57) (tgt := 72) (z := 2) hx hb dX5_about_15 c_2_2 (by decide) (by decide) (by decide) rfl (by decide) ?_
      refine lv_aload_n hx hb dX5_about_72 rfl (lv_at hl 0 rfl) ?_
      refine va_get (D := D) (ci := 5) (v := .ref (q 1)) (C := RX5) (T := TX5) (N := 9) hx hb hts n_X5 hown hK hP 0 rfl rfl 0 (by decide) f_25 (fun _ h9 => h9) rfl dX5_about_73 ?_
      refine va_get (D := D) (ci := 0) (v := .ref (q 4)) (C := RX0) (T := TX0) (N := 5) hx hb hts n_X0 hown hK hP 1 rfl rfl 3 (by decide) f_84 (fun _ h9 => h9) rfl dX5_about_76 ?_
      refine lv_iload_n hx hb dX5_about_79 rfl (lv_at hl 1 rfl) ?_
      refine z_iald hx hb hK hP 4 0 rfl rfl (by omega) dX5_about_80 ?_
      have b_5 := I.be k
      exact z_iret X hK hP hD hS dX5_about_81 (by (repeat' split) <;> first | rfl | omega)
    by_cases c_2_3 : w9 = 3
    · refine z_tabIn (off := 67) (tgt := 82) (z := 3) hx hb dX5_about_15 c_2_3 (by decide) (by decide) (by decide) rfl (by decide) ?_
      refine lv_aload_n hx hb dX5_about_82 rfl (lv_at hl 0 rfl) ?_
      refine va_get (D := D) (ci := 5) (v := .ref (q 1)) (C := RX5) (T := TX5) (N := 9) hx hb hts n_X5 hown hK hP 0 rfl rfl 0 (by decide) f_25 (fun _ h9 => h9) rfl dX5_about_83 ?_
      refine lv_iload_n hx hb dX5_about_86 rfl (lv_at hl 1 rfl) ?_
      refine z_callVi (ci := 0) (q0 := 1) (As := [.int (iI k)]) (rest := []) X hK hP hD hA hS hl.1 gX5_about_X0_toneOf rfl ⟨rfl, rfl⟩ hd_X0_toneOf ⟨Nat.le_of_ble_eq_true rfl, Nat.le_of_ble_eq_true rfl⟩ rfl rfl rfl (Nat.le_of_ble_eq_true rfl) ⟨Nat.zero_le _, Nat.zero_le _⟩ rfl dX5_about_87 (c_X0_toneOf I k (by omega)) (fun H locs hP hD hS => ?_)
      exact z_iret X hK hP hD hS dX5_about_90 (by (repeat' split) <;> first | rfl | omega)
    by_cases c_2_4 : w9 = 4
    · refine z_tabIn (off := 76) (tgt := 91) (z := 4) hx hb dX5_about_15 c_2_4 (by decide) (by decide) (by decide) rfl (by decide) ?_
      refine lv_aload_n hx hb dX5_about_91 rfl (lv_at hl 0 rfl) ?_
      refine lv_iload_n hx hb dX5_about_92 rfl (lv_at hl 1 rfl) ?_
      refine z_callVi (ci := 5) (q0 := 0) (As := [.int (iI k)]) (rest := []) X hK hP hD hA hS hl.1 gX5_about_X5_goalOf rfl ⟨rfl, rfl⟩ hd_X5_goalOf ⟨Nat.le_of_ble_eq_true rfl, Nat.le_of_ble_eq_true rfl⟩ rfl rfl rfl (Nat.le_of_ble_eq_true rfl) ⟨Nat.zero_le _, Nat.zero_le _⟩ rfl dX5_about_93 (c_X5_goalOf I k (by omega)) (fun H locs hP hD hS => ?_)
      exact z_iret X hK hP hD hS dX5_about_96 (by (repeat' split) <;> first | rfl | omega)
    by_cases c_2_5 : w9 = 5
    · refine z_tabIn (off := 82) (tgt := 97) (z := 5) hx hb dX5_about_15 c_2_5 (by decide) (by decide) (by decide) rfl (by decide) ?_
      refine lv_aload_n hx hb dX5_about_97 rfl (lv_at hl 0 rfl) ?_
      refine lv_iload_n hx hb dX5_about_98 rfl (lv_at hl 1 rfl) ?_
      refine z_callVi (ci := 5) (q0 := 0) (As := [.int (iI k)]) (rest := []) X hK hP hD hA hS hl.1 gX5_about_X5_errorOf rfl ⟨rfl, rfl⟩ hd_X5_errorOf ⟨Nat.le_of_ble_eq_true rfl, Nat.le_of_ble_eq_true rfl⟩ rfl rfl rfl (Nat.le_of_ble_eq_true rfl) ⟨Nat.zero_le _, Nat.zero_le _⟩ rfl dX5_about_99 (c_X5_errorOf I k (by omega)) (fun H locs hP hD hS => ?_)
      exact z_iret X hK hP hD hS dX5_about_102 (by (repeat' split) <;> first | rfl | omega)
    refine z_tabOut (tgt := 103) hx hb dX5_about_15 (by omega) (by omega) (by decide) ?_
    refine z_ldc (n := -100002) hx hb hown k_65 (by decide) dX5_about_103 ?_
    exact z_iret X hK hP hD hS dX5_about_105 (by (repeat' split) <;> first | rfl | omega)
  · refine z_ldc (n := -100001) hx hb hown k_76 (by decide) dX5_about_11 ?_
    exact z_iret X hK hP hD hS dX5_about_13 (by (repeat' split) <;> first | rfl | omega)

theorem hd_X5_pressed : yX5_pressed.cls = RX5 ∧ yX5_pressed.cls ≠ "java/lang/invoke/MethodHandle" ∧ yX5_pressed.cls ≠ "java/lang/invoke/VarHandle" ∧ (parseMethodDescriptor yX5_pressed.desc).map (fun d => d.parameters.length) = some 2 := by decide +kernel
set_option maxHeartbeats 4000000 in
set_option maxRecDepth 100000 in
theorem c_X5_pressed (I : okS nK st le be te ab bl ka bg ln ns me sc pi re bk) (k : Int) (p9 : Int) (h : -2147483648 ≤ k ∧ k ≤ 2147483647 ∧ -2147483648 ≤ p9 ∧ p9 ≤ 2147483647) : MI l D cy yX5_pressed wsX5_pressed ({ frames := 2, cells := 0, slots := 0, locals := 44 } : Room) [.ref (q 0), .int (iI k), .int (iI p9)] (wT q cy nK st le be te ab bl ka bg ln ns me sc pi re bk pa lz go ss sm pf mf) (if 0 ≤ k ∧ k < nK then (if 0 ≤ p9 ∧ p9 ≤ 20 then te (st k) * 10000 / (le k + be k) + te (st k) * 10000 / (le k + be k) * p9 / 1000 else (-100002)) else (-100001)) (wT q cy nK st le be te ab bl ka bg ln ns me sc pi re bk pa lz go ss sm pf mf) := by
  refine MI.ofW (cc := cX5_pressed) (maxL := 4) (ret := (some .int)) (by decide) rfl (Nat.le_of_ble_eq_true rfl) ?_
  intro p e s m below meth c A ls X hK hP hD hA hS hl
  obtain ⟨hx, hb, hml, hr, hts, hown, hlocks⟩ := id X
  have hl : lv_has ls 4 [(0, .ref (q 0)), (1, .int (iI k)), (2, .int (iI p9))] := hl
  have f_25 := hts (Cond.fieldLink RX5 25 "TwoKeys" "board" "LTwoKeys$Board;") (by decide +kernel)
  have k_65 := hts (Cond.constant RX5 65 (-100002)) (by decide +kernel)
  have k_76 := hts (Cond.constant RX5 76 (-100001)) (by decide +kernel)
  have n_X5 : ∀ w ∈ u_ws RX5 TX5 9, w ∈ wsX5_pressed := by decide +kernel
  have iK := I.nK
  refine lv_aload_n hx hb dX5_pressed_0 rfl (lv_at hl 0 rfl) ?_
  refine va_get (D := D) (ci := 5) (v := .ref (q 1)) (C := RX5) (T := TX5) (N := 9) hx hb hts n_X5 hown hK hP 0 rfl rfl 0 (by decide) f_25 (fun _ h9 => h9) rfl dX5_pressed_1 ?_
  refine lv_iload_n hx hb dX5_pressed_4 rfl (lv_at hl 1 rfl) ?_
  refine z_callVi (ci := 0) (q0 := 1) (As := [.int (iI k)]) (rest := []) X hK hP hD hA hS hl.1 gX5_pressed_X0_has rfl ⟨rfl, rfl⟩ hd_X0_has ⟨Nat.le_of_ble_eq_true rfl, Nat.le_of_ble_eq_true rfl⟩ rfl rfl rfl (Nat.le_of_ble_eq_true rfl) ⟨Nat.zero_le _, Nat.zero_le _⟩ rfl dX5_pressed_5 (c_X0_has I k (by omega)) (fun H locs hP hD hS => ?_)
  refine z_ifp_ne (tgt := 14) hx hb dX5_pressed_8 (by decide) (fun c_1 => ?_) (fun c_1 => ?_)
  · refine lv_iload_n hx hb dX5_pressed_14 rfl (lv_at hl 2 rfl) ?_
    refine lv_iconst (v := iI (0)) hx hb dX5_pressed_15 rfl ?_
    refine lv_bipush (v := iI (20)) hx hb dX5_pressed_16 (by decide) ?_
    refine z_callSi (As := [.int (iI p9), .int (iI 0), .int (iI 20)]) (rest := []) X hK hP hD hA hS hl.1 gX5_pressed_X5_within rfl ⟨rfl, rfl⟩ hd_X5_within ⟨Nat.le_of_ble_eq_true rfl, Nat.le_of_ble_eq_true rfl⟩ rfl (Nat.le_of_ble_eq_true rfl) ⟨Nat.zero_le _, Nat.zero_le _⟩ rfl dX5_pressed_18 (c_X5_within p9 0 20 (by omega)) (fun H locs hP hD hS => ?_)
    refine z_ifp_ne (tgt := 27) hx hb dX5_pressed_21 (by decide) (fun c_2 => ?_) (fun c_2 => ?_)
    · refine lv_aload_n hx hb dX5_pressed_27 rfl (lv_at hl 0 rfl) ?_
      refine va_get (D := D) (ci := 5) (v := .ref (q 1)) (C := RX5) (T := TX5) (N := 9) hx hb hts n_X5 hown hK hP 0 rfl rfl 0 (by decide) f_25 (fun _ h9 => h9) rfl dX5_pressed_28 ?_
      refine lv_iload_n hx hb dX5_pressed_31 rfl (lv_at hl 1 rfl) ?_
      refine z_callVi (ci := 0) (q0 := 1) (As := [.int (iI k)]) (rest := []) X hK hP hD hA hS hl.1 gX5_pressed_X0_toneOf rfl ⟨rfl, rfl⟩ hd_X0_toneOf ⟨Nat.le_of_ble_eq_true rfl, Nat.le_of_ble_eq_true rfl⟩ rfl rfl rfl (Nat.le_of_ble_eq_true rfl) ⟨Nat.zero_le _, Nat.zero_le _⟩ rfl dX5_pressed_32 (c_X0_toneOf I k (by omega)) (fun H locs hP hD hS => ?_)
      have b7 := tn_b (st := st) (k := k) (b := be k) I.le I.te (I.be k)
      have b6 := mul_b b7.1 b7.2 (show 0 ≤ p9 by omega) (show p9 ≤ 20 by omega)
      refine lv_istore_n (lv' := [(3, .int (iI (te (st k) * 10000 / (le k + be k)))), (0, .ref (q 0)), (1, .int (iI k)), (2, .int (iI p9))]) hx hb dX5_pressed_35 rfl hl (by decide) rfl (fun ls hl => ?_)
      refine lv_iload_n hx hb dX5_pressed_36 rfl (lv_at hl 0 rfl) ?_
      refine lv_iload_n hx hb dX5_pressed_37 rfl (lv_at hl 0 rfl) ?_
      refine lv_iload_n hx hb dX5_pressed_38 rfl (lv_at hl 3 rfl) ?_
      refine z_imul hx hb dX5_pressed_39 ?_
      refine lv_sipush (v := iI (1000)) hx hb dX5_pressed_40 (by decide) ?_
      refine z_idiv hx hb dX5_pressed_43 (by omega) ?_
      refine z_iadd hx hb dX5_pressed_44 ?_
      exact z_iret X hK hP hD hS dX5_pressed_45 (by (repeat' split) <;> first | rfl | omega)
    · refine z_ldc (n := -100002) hx hb hown k_65 (by decide) dX5_pressed_24 ?_
      exact z_iret X hK hP hD hS dX5_pressed_26 (by (repeat' split) <;> first | rfl | omega)
  · refine z_ldc (n := -100001) hx hb hown k_76 (by decide) dX5_pressed_11 ?_
    exact z_iret X hK hP hD hS dX5_pressed_13 (by (repeat' split) <;> first | rfl | omega)

theorem hd_X5_sharers : yX5_sharers.cls = RX5 ∧ yX5_sharers.cls ≠ "java/lang/invoke/MethodHandle" ∧ yX5_sharers.cls ≠ "java/lang/invoke/VarHandle" ∧ (parseMethodDescriptor yX5_sharers.desc).map (fun d => d.parameters.length) = some 1 := by decide +kernel
set_option maxHeartbeats 4000000 in
set_option maxRecDepth 100000 in
theorem c_X5_sharers (I : okS nK st le be te ab bl ka bg ln ns me sc pi re bk) (s9 : Int) (h : -2147483648 ≤ s9 ∧ s9 ≤ 2147483647) : MI l D cy yX5_sharers wsX5_sharers ({ frames := 2, cells := 0, slots := 0, locals := 42 } : Room) [.ref (q 0), .int (iI s9)] (wT q cy nK st le be te ab bl ka bg ln ns me sc pi re bk pa lz go ss sm pf mf) (if 0 ≤ s9 ∧ s9 ≤ 23 then sZ (fun k => if st k = s9 then 1 else 0) 0 nK else (-100001)) (wT q cy nK st le be te ab bl ka bg ln ns me sc pi re bk pa lz go ss sm pf mf) := by
  refine MI.ofW (cc := cX5_sharers) (maxL := 2) (ret := (some .int)) (by decide) rfl (Nat.le_of_ble_eq_true rfl) ?_
  intro p e s m below meth c A ls X hK hP hD hA hS hl
  obtain ⟨hx, hb, hml, hr, hts, hown, hlocks⟩ := id X
  have hl : lv_has ls 2 [(0, .ref (q 0)), (1, .int (iI s9))] := hl
  have f_25 := hts (Cond.fieldLink RX5 25 "TwoKeys" "board" "LTwoKeys$Board;") (by decide +kernel)
  have k_76 := hts (Cond.constant RX5 76 (-100001)) (by decide +kernel)
  have n_X5 : ∀ w ∈ u_ws RX5 TX5 9, w ∈ wsX5_sharers := by decide +kernel
  have iK := I.nK
  refine lv_iload_n hx hb dX5_sharers_0 rfl (lv_at hl 1 rfl) ?_
  refine z_callSi (As := [.int (iI s9)]) (rest := []) X hK hP hD hA hS hl.1 gX5_sharers_X5_isString rfl ⟨rfl, rfl⟩ hd_X5_isString ⟨Nat.le_of_ble_eq_true rfl, Nat.le_of_ble_eq_true rfl⟩ rfl (Nat.le_of_ble_eq_true rfl) ⟨Nat.zero_le _, Nat.zero_le _⟩ rfl dX5_sharers_1 (c_X5_isString s9 (by omega)) (fun H locs hP hD hS => ?_)
  refine z_ifp_ne (tgt := 10) hx hb dX5_sharers_4 (by decide) (fun c_1 => ?_) (fun c_1 => ?_)
  · refine lv_aload_n hx hb dX5_sharers_10 rfl (lv_at hl 0 rfl) ?_
    refine va_get (D := D) (ci := 5) (v := .ref (q 1)) (C := RX5) (T := TX5) (N := 9) hx hb hts n_X5 hown hK hP 0 rfl rfl 0 (by decide) f_25 (fun _ h9 => h9) rfl dX5_sharers_11 ?_
    refine lv_iload_n hx hb dX5_sharers_14 rfl (lv_at hl 1 rfl) ?_
    refine z_callVi (ci := 0) (q0 := 1) (As := [.int (iI s9)]) (rest := []) X hK hP hD hA hS hl.1 gX5_sharers_X0_strikersOf rfl ⟨rfl, rfl⟩ hd_X0_strikersOf ⟨Nat.le_of_ble_eq_true rfl, Nat.le_of_ble_eq_true rfl⟩ rfl rfl rfl (Nat.le_of_ble_eq_true rfl) ⟨Nat.zero_le _, Nat.zero_le _⟩ rfl dX5_sharers_15 (c_X0_strikersOf I s9 (by omega)) (fun H locs hP hD hS => ?_)
    exact z_iret X hK hP hD hS dX5_sharers_18 (by (repeat' split) <;> first | rfl | omega)
  · refine z_ldc (n := -100001) hx hb hown k_76 (by decide) dX5_sharers_7 ?_
    exact z_iret X hK hP hD hS dX5_sharers_9 (by (repeat' split) <;> first | rfl | omega)

theorem hd_X5_order : yX5_order.cls = RX5 ∧ yX5_order.cls ≠ "java/lang/invoke/MethodHandle" ∧ yX5_order.cls ≠ "java/lang/invoke/VarHandle" ∧ (parseMethodDescriptor yX5_order.desc).map (fun d => d.parameters.length) = some 0 := by decide +kernel
set_option maxHeartbeats 4000000 in
set_option maxRecDepth 100000 in
theorem c_X5_order (I : okS nK st le be te ab bl ka bg ln ns me sc pi re bk)   : MI l D cy yX5_order wsX5_order ({ frames := 3, cells := 0, slots := 0, locals := 65 } : Room) [.ref (q 0)] (wT q cy nK st le be te ab bl ka bg ln ns me sc pi re bk pa lz go ss sm pf mf) (bP (∀ a b, 0 ≤ a → a < b → b < nK → st a = st b → le b + be b < le a + be a)) (wT q cy nK st le be te ab bl ka bg ln ns me sc pi re bk pa lz go ss sm pf mf) := by
  refine MI.ofW (cc := cX5_order) (maxL := 1) (ret := (some .int)) (by decide) rfl (Nat.le_of_ble_eq_true rfl) ?_
  intro p e s m below meth c A ls X hK hP hD hA hS hl
  obtain ⟨hx, hb, hml, hr, hts, hown, hlocks⟩ := id X
  have hl : lv_has ls 1 [(0, .ref (q 0))] := hl
  have f_25 := hts (Cond.fieldLink RX5 25 "TwoKeys" "board" "LTwoKeys$Board;") (by decide +kernel)
  have n_X5 : ∀ w ∈ u_ws RX5 TX5 9, w ∈ wsX5_order := by decide +kernel
  have iK := I.nK
  refine lv_aload_n hx hb dX5_order_0 rfl (lv_at hl 0 rfl) ?_
  refine va_get (D := D) (ci := 5) (v := .ref (q 1)) (C := RX5) (T := TX5) (N := 9) hx hb hts n_X5 hown hK hP 0 rfl rfl 0 (by decide) f_25 (fun _ h9 => h9) rfl dX5_order_1 ?_
  refine z_callVi (ci := 0) (q0 := 1) (As := []) (rest := []) X hK hP hD hA hS hl.1 gX5_order_X0_isInOrder rfl ⟨rfl, rfl⟩ hd_X0_isInOrder ⟨Nat.le_of_ble_eq_true rfl, Nat.le_of_ble_eq_true rfl⟩ rfl rfl rfl (Nat.le_of_ble_eq_true rfl) ⟨Nat.zero_le _, Nat.zero_le _⟩ rfl dX5_order_4 (c_X0_isInOrder I) (fun H locs hP hD hS => ?_)
  refine z_callSi (As := [.int (iI (bP (∀ a b, 0 ≤ a → a < b → b < nK → st a = st b → le b + be b < le a + be a)))]) (rest := []) X hK hP hD hA hS hl.1 gX5_order_X5_asNumber rfl ⟨rfl, rfl⟩ hd_X5_asNumber ⟨Nat.le_of_ble_eq_true rfl, Nat.le_of_ble_eq_true rfl⟩ rfl (Nat.le_of_ble_eq_true rfl) ⟨Nat.zero_le _, Nat.zero_le _⟩ rfl dX5_order_7 (c_X5_asNumber (bP (∀ a b, 0 ≤ a → a < b → b < nK → st a = st b → le b + be b < le a + be a)) (bP_b _)) (fun H locs hP hD hS => ?_)
  exact z_iret X hK hP hD hS dX5_order_10 (by first | rfl | omega | grind)

theorem hd_X5_step : yX5_step.cls = RX5 ∧ yX5_step.cls ≠ "java/lang/invoke/MethodHandle" ∧ yX5_step.cls ≠ "java/lang/invoke/VarHandle" ∧ (parseMethodDescriptor yX5_step.desc).map (fun d => d.parameters.length) = some 4 := by decide +kernel
set_option maxHeartbeats 4000000 in
set_option maxRecDepth 100000 in
theorem c_X5_step_ok (I : okS nK st le be te ab bl ka bg ln ns me sc pi re bk) (s9 : Int) (t9 : Int) (a9 : Int) (b9 : Int) (h : -2147483648 ≤ s9 ∧ s9 ≤ 2147483647 ∧ -2147483648 ≤ t9 ∧ t9 ≤ 2147483647 ∧ -2147483648 ≤ a9 ∧ a9 ≤ 2147483647 ∧ -2147483648 ≤ b9 ∧ b9 ≤ 2147483647) (hok : ((0 ≤ s9 ∧ s9 ≤ 4) ∧ (0 ≤ t9 ∧ t9 ≤ 11)) ∧ (1 ≤ a9 ∧ a9 ≤ 999) ∧ (1 ≤ b9 ∧ b9 ≤ 999) ∧ a9 ≤ 4 * b9) : MI l D cy yX5_step wsX5_step ({ frames := 2, cells := 0, slots := 0, locals := 42 } : Room) [.ref (q 0), .int (iI s9), .int (iI t9), .int (iI a9), .int (iI b9)] (wT q cy nK st le be te ab bl ka bg ln ns me sc pi re bk pa lz go ss sm pf mf) 1 (wT q cy nK st le be te (uZ ab (s9 * 12 + t9) a9) (uZ bl (s9 * 12 + t9) b9) ka bg ln ns me sc pi re bk pa lz go ss sm pf mf) := by
  refine MI.ofW (cc := cX5_step) (maxL := 5) (ret := (some .int)) (by decide) rfl (Nat.le_of_ble_eq_true rfl) ?_
  intro p e s m below meth c A ls X hK hP hD hA hS hl
  obtain ⟨hx, hb, hml, hr, hts, hown, hlocks⟩ := id X
  have hl : lv_has ls 5 [(0, .ref (q 0)), (1, .int (iI s9)), (2, .int (iI t9)), (3, .int (iI a9)), (4, .int (iI b9))] := hl
  have f_32 := hts (Cond.fieldLink RX5 32 "TwoKeys" "scales" "LTwoKeys$Scales;") (by decide +kernel)
  have n_X5 : ∀ w ∈ u_ws RX5 TX5 9, w ∈ wsX5_step := by decide +kernel
  have iK := I.nK
  refine lv_iload_n hx hb dX5_step_0 rfl (lv_at hl 1 rfl) ?_
  refine z_callSi (As := [.int (iI s9)]) (rest := []) X hK hP hD hA hS hl.1 gX5_step_X5_isScale rfl ⟨rfl, rfl⟩ hd_X5_isScale ⟨Nat.le_of_ble_eq_true rfl, Nat.le_of_ble_eq_true rfl⟩ rfl (Nat.le_of_ble_eq_true rfl) ⟨Nat.zero_le _, Nat.zero_le _⟩ rfl dX5_step_1 (c_X5_isScale s9 (by omega)) (fun H locs hP hD hS => ?_)
  refine z_ifp_eq (tgt := 14) hx hb dX5_step_4 (by decide) (fun c_1 => ?_) (fun c_1 => ?_)
  · exact absurd c_1 (by omega)
  · refine lv_iload_n hx hb dX5_step_7 rfl (lv_at hl 2 rfl) ?_
    refine z_callSi (As := [.int (iI t9)]) (rest := []) X hK hP hD hA hS hl.1 gX5_step_X5_isStep rfl ⟨rfl, rfl⟩ hd_X5_isStep ⟨Nat.le_of_ble_eq_true rfl, Nat.le_of_ble_eq_true rfl⟩ rfl (Nat.le_of_ble_eq_true rfl) ⟨Nat.zero_le _, Nat.zero_le _⟩ rfl dX5_step_8 (c_X5_isStep t9 (by omega)) (fun H locs hP hD hS => ?_)
    refine z_ifp_ne (tgt := 17) hx hb dX5_step_11 (by decide) (fun c_2 => ?_) (fun c_2 => ?_)
    · refine lv_iload_n hx hb dX5_step_17 rfl (lv_at hl 3 rfl) ?_
      refine lv_iconst (v := iI (1)) hx hb dX5_step_18 rfl ?_
      refine lv_sipush (v := iI (999)) hx hb dX5_step_19 (by decide) ?_
      refine z_callSi (As := [.int (iI a9), .int (iI 1), .int (iI 999)]) (rest := []) X hK hP hD hA hS hl.1 gX5_step_X5_within rfl ⟨rfl, rfl⟩ hd_X5_within ⟨Nat.le_of_ble_eq_true rfl, Nat.le_of_ble_eq_true rfl⟩ rfl (Nat.le_of_ble_eq_true rfl) ⟨Nat.zero_le _, Nat.zero_le _⟩ rfl dX5_step_22 (c_X5_within a9 1 999 (by omega)) (fun H locs hP hD hS => ?_)
      refine z_ifp_eq (tgt := 40) hx hb dX5_step_25 (by decide) (fun c_3 => ?_) (fun c_3 => ?_)
      · exact absurd c_3 (by omega)
      · refine lv_iload hx hb dX5_step_28 (lv_at hl 4 rfl) ?_
        refine lv_iconst (v := iI (1)) hx hb dX5_step_30 rfl ?_
        refine lv_sipush (v := iI (999)) hx hb dX5_step_31 (by decide) ?_
        refine z_callSi (As := [.int (iI b9), .int (iI 1), .int (iI 999)]) (rest := []) X hK hP hD hA hS hl.1 gX5_step_X5_within rfl ⟨rfl, rfl⟩ hd_X5_within ⟨Nat.le_of_ble_eq_true rfl, Nat.le_of_ble_eq_true rfl⟩ rfl (Nat.le_of_ble_eq_true rfl) ⟨Nat.zero_le _, Nat.zero_le _⟩ rfl dX5_step_34 (c_X5_within b9 1 999 (by omega)) (fun H locs hP hD hS => ?_)
        refine z_ifp_ne (tgt := 43) hx hb dX5_step_37 (by decide) (fun c_4 => ?_) (fun c_4 => ?_)
        · refine lv_iload_n hx hb dX5_step_43 rfl (lv_at hl 3 rfl) ?_
          refine lv_iconst (v := iI (4)) hx hb dX5_step_44 rfl ?_
          refine lv_iload hx hb dX5_step_45 (lv_at hl 4 rfl) ?_
          refine z_imul hx hb dX5_step_47 ?_
          refine z_icmp_le (tgt := 54) hx hb dX5_step_48 (by decide) (by omega) (fun c_5 => ?_) (fun c_5 => ?_)
          · refine lv_aload_n hx hb dX5_step_54 rfl (lv_at hl 0 rfl) ?_
            refine va_get (D := D) (ci := 5) (v := .ref (q 6)) (C := RX5) (T := TX5) (N := 9) hx hb hts n_X5 hown hK hP 0 rfl rfl 1 (by decide) f_32 (fun _ h9 => h9) rfl dX5_step_55 ?_
            refine lv_iload_n hx hb dX5_step_58 rfl (lv_at hl 1 rfl) ?_
            refine lv_iload_n hx hb dX5_step_59 rfl (lv_at hl 2 rfl) ?_
            refine lv_iload_n hx hb dX5_step_60 rfl (lv_at hl 3 rfl) ?_
            refine lv_iload hx hb dX5_step_61 (lv_at hl 4 rfl) ?_
            refine z_callVv (ci := 3) (q0 := 6) (As := [.int (iI s9), .int (iI t9), .int (iI a9), .int (iI b9)]) (rest := []) X hK hP hD hA hS hl.1 gX5_step_X3_put rfl ⟨rfl, rfl⟩ hd_X3_put ⟨Nat.le_of_ble_eq_true rfl, Nat.le_of_ble_eq_true rfl⟩ rfl rfl rfl (Nat.le_of_ble_eq_true rfl) ⟨Nat.zero_le _, Nat.zero_le _⟩ rfl dX5_step_63 (c_X3_put s9 t9 a9 b9 (by omega) (by omega)) (fun H locs hP hD hS => ?_)
            refine lv_iconst (v := iI (1)) hx hb dX5_step_66 rfl ?_
            exact z_iret X hK hP hD hS dX5_step_67 (by first | rfl | omega | grind)
          · exact absurd c_5 (by omega)
        · exact absurd c_4 (by omega)
    · exact absurd c_2 (by omega)

set_option maxHeartbeats 4000000 in
set_option maxRecDepth 100000 in
theorem c_X5_step_no (I : okS nK st le be te ab bl ka bg ln ns me sc pi re bk) (s9 : Int) (t9 : Int) (a9 : Int) (b9 : Int) (h : -2147483648 ≤ s9 ∧ s9 ≤ 2147483647 ∧ -2147483648 ≤ t9 ∧ t9 ≤ 2147483647 ∧ -2147483648 ≤ a9 ∧ a9 ≤ 2147483647 ∧ -2147483648 ≤ b9 ∧ b9 ≤ 2147483647) (hno : ¬ (((0 ≤ s9 ∧ s9 ≤ 4) ∧ (0 ≤ t9 ∧ t9 ≤ 11)) ∧ (1 ≤ a9 ∧ a9 ≤ 999) ∧ (1 ≤ b9 ∧ b9 ≤ 999) ∧ a9 ≤ 4 * b9)) : MI l D cy yX5_step wsX5_step ({ frames := 2, cells := 0, slots := 0, locals := 42 } : Room) [.ref (q 0), .int (iI s9), .int (iI t9), .int (iI a9), .int (iI b9)] (wT q cy nK st le be te ab bl ka bg ln ns me sc pi re bk pa lz go ss sm pf mf) (if (0 ≤ s9 ∧ s9 ≤ 4) ∧ (0 ≤ t9 ∧ t9 ≤ 11) then (-100002) else (-100001)) (wT q cy nK st le be te ab bl ka bg ln ns me sc pi re bk pa lz go ss sm pf mf) := by
  refine MI.ofW (cc := cX5_step) (maxL := 5) (ret := (some .int)) (by decide) rfl (Nat.le_of_ble_eq_true rfl) ?_
  intro p e s m below meth c A ls X hK hP hD hA hS hl
  obtain ⟨hx, hb, hml, hr, hts, hown, hlocks⟩ := id X
  have hl : lv_has ls 5 [(0, .ref (q 0)), (1, .int (iI s9)), (2, .int (iI t9)), (3, .int (iI a9)), (4, .int (iI b9))] := hl
  have k_76 := hts (Cond.constant RX5 76 (-100001)) (by decide +kernel)
  have k_65 := hts (Cond.constant RX5 65 (-100002)) (by decide +kernel)
  have iK := I.nK
  refine lv_iload_n hx hb dX5_step_0 rfl (lv_at hl 1 rfl) ?_
  refine z_callSi (As := [.int (iI s9)]) (rest := []) X hK hP hD hA hS hl.1 gX5_step_X5_isScale rfl ⟨rfl, rfl⟩ hd_X5_isScale ⟨Nat.le_of_ble_eq_true rfl, Nat.le_of_ble_eq_true rfl⟩ rfl (Nat.le_of_ble_eq_true rfl) ⟨Nat.zero_le _, Nat.zero_le _⟩ rfl dX5_step_1 (c_X5_isScale s9 (by omega)) (fun H locs hP hD hS => ?_)
  refine z_ifp_eq (tgt := 14) hx hb dX5_step_4 (by decide) (fun c_1 => ?_) (fun c_1 => ?_)
  · refine z_ldc (n := -100001) hx hb hown k_76 (by decide) dX5_step_14 ?_
    exact z_iret X hK hP hD hS dX5_step_16 (by (repeat' split) <;> first | rfl | omega)
  · refine lv_iload_n hx hb dX5_step_7 rfl (lv_at hl 2 rfl) ?_
    refine z_callSi (As := [.int (iI t9)]) (rest := []) X hK hP hD hA hS hl.1 gX5_step_X5_isStep rfl ⟨rfl, rfl⟩ hd_X5_isStep ⟨Nat.le_of_ble_eq_true rfl, Nat.le_of_ble_eq_true rfl⟩ rfl (Nat.le_of_ble_eq_true rfl) ⟨Nat.zero_le _, Nat.zero_le _⟩ rfl dX5_step_8 (c_X5_isStep t9 (by omega)) (fun H locs hP hD hS => ?_)
    refine z_ifp_ne (tgt := 17) hx hb dX5_step_11 (by decide) (fun c_2 => ?_) (fun c_2 => ?_)
    · refine lv_iload_n hx hb dX5_step_17 rfl (lv_at hl 3 rfl) ?_
      refine lv_iconst (v := iI (1)) hx hb dX5_step_18 rfl ?_
      refine lv_sipush (v := iI (999)) hx hb dX5_step_19 (by decide) ?_
      refine z_callSi (As := [.int (iI a9), .int (iI 1), .int (iI 999)]) (rest := []) X hK hP hD hA hS hl.1 gX5_step_X5_within rfl ⟨rfl, rfl⟩ hd_X5_within ⟨Nat.le_of_ble_eq_true rfl, Nat.le_of_ble_eq_true rfl⟩ rfl (Nat.le_of_ble_eq_true rfl) ⟨Nat.zero_le _, Nat.zero_le _⟩ rfl dX5_step_22 (c_X5_within a9 1 999 (by omega)) (fun H locs hP hD hS => ?_)
      refine z_ifp_eq (tgt := 40) hx hb dX5_step_25 (by decide) (fun c_3 => ?_) (fun c_3 => ?_)
      · refine z_ldc (n := -100002) hx hb hown k_65 (by decide) dX5_step_40 ?_
        exact z_iret X hK hP hD hS dX5_step_42 (by (repeat' split) <;> first | rfl | omega)
      · refine lv_iload hx hb dX5_step_28 (lv_at hl 4 rfl) ?_
        refine lv_iconst (v := iI (1)) hx hb dX5_step_30 rfl ?_
        refine lv_sipush (v := iI (999)) hx hb dX5_step_31 (by decide) ?_
        refine z_callSi (As := [.int (iI b9), .int (iI 1), .int (iI 999)]) (rest := []) X hK hP hD hA hS hl.1 gX5_step_X5_within rfl ⟨rfl, rfl⟩ hd_X5_within ⟨Nat.le_of_ble_eq_true rfl, Nat.le_of_ble_eq_true rfl⟩ rfl (Nat.le_of_ble_eq_true rfl) ⟨Nat.zero_le _, Nat.zero_le _⟩ rfl dX5_step_34 (c_X5_within b9 1 999 (by omega)) (fun H locs hP hD hS => ?_)
        refine z_ifp_ne (tgt := 43) hx hb dX5_step_37 (by decide) (fun c_4 => ?_) (fun c_4 => ?_)
        · refine lv_iload_n hx hb dX5_step_43 rfl (lv_at hl 3 rfl) ?_
          refine lv_iconst (v := iI (4)) hx hb dX5_step_44 rfl ?_
          refine lv_iload hx hb dX5_step_45 (lv_at hl 4 rfl) ?_
          refine z_imul hx hb dX5_step_47 ?_
          refine z_icmp_le (tgt := 54) hx hb dX5_step_48 (by decide) (by omega) (fun c_5 => ?_) (fun c_5 => ?_)
          · exact absurd c_5 (by omega)
          · refine z_ldc (n := -100002) hx hb hown k_65 (by decide) dX5_step_51 ?_
            exact z_iret X hK hP hD hS dX5_step_53 (by (repeat' split) <;> first | rfl | omega)
        · refine z_ldc (n := -100002) hx hb hown k_65 (by decide) dX5_step_40 ?_
          exact z_iret X hK hP hD hS dX5_step_42 (by (repeat' split) <;> first | rfl | omega)
    · refine z_ldc (n := -100001) hx hb hown k_76 (by decide) dX5_step_14 ?_
      exact z_iret X hK hP hD hS dX5_step_16 (by (repeat' split) <;> first | rfl | omega)

theorem hd_X5_share : yX5_share.cls = RX5 ∧ yX5_share.cls ≠ "java/lang/invoke/MethodHandle" ∧ yX5_share.cls ≠ "java/lang/invoke/VarHandle" ∧ (parseMethodDescriptor yX5_share.desc).map (fun d => d.parameters.length) = some 3 := by decide +kernel
set_option maxHeartbeats 4000000 in
set_option maxRecDepth 100000 in
theorem c_X5_share (I : okS nK st le be te ab bl ka bg ln ns me sc pi re bk) (s9 : Int) (t9 : Int) (up : Bool) (h : -2147483648 ≤ s9 ∧ s9 ≤ 2147483647 ∧ -2147483648 ≤ t9 ∧ t9 ≤ 2147483647) : MI l D cy yX5_share wsX5_share ({ frames := 2, cells := 0, slots := 0, locals := 42 } : Room) [.ref (q 0), .int (iI s9), .int (iI t9), .int (iI (bZ up))] (wT q cy nK st le be te ab bl ka bg ln ns me sc pi re bk pa lz go ss sm pf mf) (if (0 ≤ s9 ∧ s9 ≤ 4) ∧ (0 ≤ t9 ∧ t9 ≤ 11) then (if up = true then ab (s9 * 12 + t9) else bl (s9 * 12 + t9)) else (-100001)) (wT q cy nK st le be te ab bl ka bg ln ns me sc pi re bk pa lz go ss sm pf mf) := by
  refine MI.ofW (cc := cX5_share) (maxL := 4) (ret := (some .int)) (by decide) rfl (Nat.le_of_ble_eq_true rfl) ?_
  intro p e s m below meth c A ls X hK hP hD hA hS hl
  obtain ⟨hx, hb, hml, hr, hts, hown, hlocks⟩ := id X
  have hl : lv_has ls 4 [(0, .ref (q 0)), (1, .int (iI s9)), (2, .int (iI t9)), (3, .int (iI (bZ up)))] := hl
  have k_76 := hts (Cond.constant RX5 76 (-100001)) (by decide +kernel)
  have f_32 := hts (Cond.fieldLink RX5 32 "TwoKeys" "scales" "LTwoKeys$Scales;") (by decide +kernel)
  have n_X5 : ∀ w ∈ u_ws RX5 TX5 9, w ∈ wsX5_share := by decide +kernel
  have iK := I.nK
  refine lv_iload_n hx hb dX5_share_0 rfl (lv_at hl 1 rfl) ?_
  refine z_callSi (As := [.int (iI s9)]) (rest := []) X hK hP hD hA hS hl.1 gX5_share_X5_isScale rfl ⟨rfl, rfl⟩ hd_X5_isScale ⟨Nat.le_of_ble_eq_true rfl, Nat.le_of_ble_eq_true rfl⟩ rfl (Nat.le_of_ble_eq_true rfl) ⟨Nat.zero_le _, Nat.zero_le _⟩ rfl dX5_share_1 (c_X5_isScale s9 (by omega)) (fun H locs hP hD hS => ?_)
  refine z_ifp_eq (tgt := 14) hx hb dX5_share_4 (by decide) (fun c_1 => ?_) (fun c_1 => ?_)
  · refine z_ldc (n := -100001) hx hb hown k_76 (by decide) dX5_share_14 ?_
    exact z_iret X hK hP hD hS dX5_share_16 (by (repeat' split) <;> first | rfl | omega)
  · refine lv_iload_n hx hb dX5_share_7 rfl (lv_at hl 2 rfl) ?_
    refine z_callSi (As := [.int (iI t9)]) (rest := []) X hK hP hD hA hS hl.1 gX5_share_X5_isStep rfl ⟨rfl, rfl⟩ hd_X5_isStep ⟨Nat.le_of_ble_eq_true rfl, Nat.le_of_ble_eq_true rfl⟩ rfl (Nat.le_of_ble_eq_true rfl) ⟨Nat.zero_le _, Nat.zero_le _⟩ rfl dX5_share_8 (c_X5_isStep t9 (by omega)) (fun H locs hP hD hS => ?_)
    refine z_ifp_ne (tgt := 17) hx hb dX5_share_11 (by decide) (fun c_2 => ?_) (fun c_2 => ?_)
    · refine lv_aload_n hx hb dX5_share_17 rfl (lv_at hl 0 rfl) ?_
      refine va_get (D := D) (ci := 5) (v := .ref (q 6)) (C := RX5) (T := TX5) (N := 9) hx hb hts n_X5 hown hK hP 0 rfl rfl 1 (by decide) f_32 (fun _ h9 => h9) rfl dX5_share_18 ?_
      refine lv_iload_n hx hb dX5_share_21 rfl (lv_at hl 1 rfl) ?_
      refine lv_iload_n hx hb dX5_share_22 rfl (lv_at hl 2 rfl) ?_
      refine lv_iload_n hx hb dX5_share_23 rfl (lv_at hl 3 rfl) ?_
      refine z_callVi (ci := 3) (q0 := 6) (As := [.int (iI s9), .int (iI t9), .int (iI (bZ up))]) (rest := []) X hK hP hD hA hS hl.1 gX5_share_X3_partOf rfl ⟨rfl, rfl⟩ hd_X3_partOf ⟨Nat.le_of_ble_eq_true rfl, Nat.le_of_ble_eq_true rfl⟩ rfl rfl rfl (Nat.le_of_ble_eq_true rfl) ⟨Nat.zero_le _, Nat.zero_le _⟩ rfl dX5_share_24 (c_X3_partOf I s9 t9 up (by omega) (by omega)) (fun H locs hP hD hS => ?_)
      exact z_iret X hK hP hD hS dX5_share_27 ((if_pos (by omega)).symm)
    · refine z_ldc (n := -100001) hx hb hown k_76 (by decide) dX5_share_14 ?_
      exact z_iret X hK hP hD hS dX5_share_16 (by (repeat' split) <;> first | rfl | omega)

theorem hd_X5_use : yX5_use.cls = RX5 ∧ yX5_use.cls ≠ "java/lang/invoke/MethodHandle" ∧ yX5_use.cls ≠ "java/lang/invoke/VarHandle" ∧ (parseMethodDescriptor yX5_use.desc).map (fun d => d.parameters.length) = some 1 := by decide +kernel
set_option maxHeartbeats 4000000 in
set_option maxRecDepth 100000 in
theorem c_X5_use_ok (I : okS nK st le be te ab bl ka bg ln ns me sc pi re bk) (s9 : Int) (h : -2147483648 ≤ s9 ∧ s9 ≤ 2147483647) (hok : 0 ≤ s9 ∧ s9 ≤ 4) : MI l D cy yX5_use wsX5_use ({ frames := 2, cells := 0, slots := 0, locals := 42 } : Room) [.ref (q 0), .int (iI s9)] (wT q cy nK st le be te ab bl ka bg ln ns me sc pi re bk pa lz go ss sm pf mf) sc (wT q cy nK st le be te ab bl ka bg ln ns me s9 pi re bk pa lz go ss sm pf mf) := by
  refine MI.ofW (cc := cX5_use) (maxL := 3) (ret := (some .int)) (by decide) rfl (Nat.le_of_ble_eq_true rfl) ?_
  intro p e s m below meth c A ls X hK hP hD hA hS hl
  obtain ⟨hx, hb, hml, hr, hts, hown, hlocks⟩ := id X
  have hl : lv_has ls 3 [(0, .ref (q 0)), (1, .int (iI s9))] := hl
  have f_7 := hts (Cond.fieldLink RX5 7 "TwoKeys" "scaleInUse" "I") (by decide +kernel)
  have n_X5 : ∀ w ∈ u_ws RX5 TX5 9, w ∈ wsX5_use := by decide +kernel
  have iK := I.nK
  refine lv_iload_n hx hb dX5_use_0 rfl (lv_at hl 1 rfl) ?_
  refine z_callSi (As := [.int (iI s9)]) (rest := []) X hK hP hD hA hS hl.1 gX5_use_X5_isScale rfl ⟨rfl, rfl⟩ hd_X5_isScale ⟨Nat.le_of_ble_eq_true rfl, Nat.le_of_ble_eq_true rfl⟩ rfl (Nat.le_of_ble_eq_true rfl) ⟨Nat.zero_le _, Nat.zero_le _⟩ rfl dX5_use_1 (c_X5_isScale s9 (by omega)) (fun H locs hP hD hS => ?_)
  refine z_ifp_ne (tgt := 10) hx hb dX5_use_4 (by decide) (fun c_1 => ?_) (fun c_1 => ?_)
  · refine lv_aload_n hx hb dX5_use_10 rfl (lv_at hl 0 rfl) ?_
    refine va_get (D := D) (ci := 5) (v := .int (iI sc)) (C := RX5) (T := TX5) (N := 9) hx hb hts n_X5 hown hK hP 0 rfl rfl 5 (by decide) f_7 (fun _ h9 => h9) rfl dX5_use_11 ?_
    refine lv_istore_n (lv' := [(2, .int (iI sc)), (0, .ref (q 0)), (1, .int (iI s9))]) hx hb dX5_use_14 rfl hl (by decide) rfl (fun ls hl => ?_)
    refine lv_aload_n hx hb dX5_use_15 rfl (lv_at hl 1 rfl) ?_
    refine lv_iload_n hx hb dX5_use_16 rfl (lv_at hl 2 rfl) ?_
    refine va_put (D := D) (ci := 5) (v := .int (iI s9)) (ty := .int) (C := RX5) (T := TX5) (N := 9) hx hb hts n_X5 tyX5 tyX5_ok nmX5 hown hK hP hD hS 0 rfl rfl 5 (by decide) f_7 (fun _ h9 => h9) rfl (by decide +kernel) rfl rfl (Nat.le_of_ble_eq_true rfl) dX5_use_17 (fun H locs hP hD hS => ?_)
    have hP : va_P D vwCl (wT q cy nK st le be te ab bl ka bg ln ns me s9 pi re bk pa lz go ss sm pf mf) H := hP
    have hD : va_D A (wT q cy nK st le be te ab bl ka bg ln ns me s9 pi re bk pa lz go ss sm pf mf) := hD
    refine lv_iload_n hx hb dX5_use_20 rfl (lv_at hl 0 rfl) ?_
    exact z_iret X hK hP hD hS dX5_use_21 (by first | rfl | omega | grind)
  · exact absurd c_1 (by omega)

set_option maxHeartbeats 4000000 in
set_option maxRecDepth 100000 in
theorem c_X5_use_no (I : okS nK st le be te ab bl ka bg ln ns me sc pi re bk) (s9 : Int) (h : -2147483648 ≤ s9 ∧ s9 ≤ 2147483647) (hno : ¬ (0 ≤ s9 ∧ s9 ≤ 4)) : MI l D cy yX5_use wsX5_use ({ frames := 2, cells := 0, slots := 0, locals := 42 } : Room) [.ref (q 0), .int (iI s9)] (wT q cy nK st le be te ab bl ka bg ln ns me sc pi re bk pa lz go ss sm pf mf) (-100001) (wT q cy nK st le be te ab bl ka bg ln ns me sc pi re bk pa lz go ss sm pf mf) := by
  refine MI.ofW (cc := cX5_use) (maxL := 3) (ret := (some .int)) (by decide) rfl (Nat.le_of_ble_eq_true rfl) ?_
  intro p e s m below meth c A ls X hK hP hD hA hS hl
  obtain ⟨hx, hb, hml, hr, hts, hown, hlocks⟩ := id X
  have hl : lv_has ls 3 [(0, .ref (q 0)), (1, .int (iI s9))] := hl
  have k_76 := hts (Cond.constant RX5 76 (-100001)) (by decide +kernel)
  have iK := I.nK
  refine lv_iload_n hx hb dX5_use_0 rfl (lv_at hl 1 rfl) ?_
  refine z_callSi (As := [.int (iI s9)]) (rest := []) X hK hP hD hA hS hl.1 gX5_use_X5_isScale rfl ⟨rfl, rfl⟩ hd_X5_isScale ⟨Nat.le_of_ble_eq_true rfl, Nat.le_of_ble_eq_true rfl⟩ rfl (Nat.le_of_ble_eq_true rfl) ⟨Nat.zero_le _, Nat.zero_le _⟩ rfl dX5_use_1 (c_X5_isScale s9 (by omega)) (fun H locs hP hD hS => ?_)
  refine z_ifp_ne (tgt := 10) hx hb dX5_use_4 (by decide) (fun c_1 => ?_) (fun c_1 => ?_)
  · exact absurd c_1 (by omega)
  · refine z_ldc (n := -100001) hx hb hown k_76 (by decide) dX5_use_7 ?_
    exact z_iret X hK hP hD hS dX5_use_9 (by (repeat' split) <;> first | rfl | omega)

theorem hd_X5_pitch : yX5_pitch.cls = RX5 ∧ yX5_pitch.cls ≠ "java/lang/invoke/MethodHandle" ∧ yX5_pitch.cls ≠ "java/lang/invoke/VarHandle" ∧ (parseMethodDescriptor yX5_pitch.desc).map (fun d => d.parameters.length) = some 1 := by decide +kernel
set_option maxHeartbeats 4000000 in
set_option maxRecDepth 100000 in
theorem c_X5_pitch_ok (I : okS nK st le be te ab bl ka bg ln ns me sc pi re bk) (v : Int) (h : -2147483648 ≤ v ∧ v ≤ 2147483647) (hok : 1000 ≤ v ∧ v ≤ 200000) : MI l D cy yX5_pitch wsX5_pitch ({ frames := 2, cells := 0, slots := 0, locals := 42 } : Room) [.ref (q 0), .int (iI v)] (wT q cy nK st le be te ab bl ka bg ln ns me sc pi re bk pa lz go ss sm pf mf) pi (wT q cy nK st le be te ab bl ka bg ln ns me sc v re bk pa lz go ss sm pf mf) := by
  refine MI.ofW (cc := cX5_pitch) (maxL := 3) (ret := (some .int)) (by decide) rfl (Nat.le_of_ble_eq_true rfl) ?_
  intro p e s m below meth c A ls X hK hP hD hA hS hl
  obtain ⟨hx, hb, hml, hr, hts, hown, hlocks⟩ := id X
  have hl : lv_has ls 3 [(0, .ref (q 0)), (1, .int (iI v))] := hl
  have f_13 := hts (Cond.fieldLink RX5 13 "TwoKeys" "pitchNow" "I") (by decide +kernel)
  have n_X5 : ∀ w ∈ u_ws RX5 TX5 9, w ∈ wsX5_pitch := by decide +kernel
  have iK := I.nK
  refine lv_iload_n hx hb dX5_pitch_0 rfl (lv_at hl 1 rfl) ?_
  refine z_callSi (As := [.int (iI v)]) (rest := []) X hK hP hD hA hS hl.1 gX5_pitch_X5_isPitch rfl ⟨rfl, rfl⟩ hd_X5_isPitch ⟨Nat.le_of_ble_eq_true rfl, Nat.le_of_ble_eq_true rfl⟩ rfl (Nat.le_of_ble_eq_true rfl) ⟨Nat.zero_le _, Nat.zero_le _⟩ rfl dX5_pitch_1 (c_X5_isPitch v (by omega)) (fun H locs hP hD hS => ?_)
  refine z_ifp_ne (tgt := 10) hx hb dX5_pitch_4 (by decide) (fun c_1 => ?_) (fun c_1 => ?_)
  · refine lv_aload_n hx hb dX5_pitch_10 rfl (lv_at hl 0 rfl) ?_
    refine va_get (D := D) (ci := 5) (v := .int (iI pi)) (C := RX5) (T := TX5) (N := 9) hx hb hts n_X5 hown hK hP 0 rfl rfl 6 (by decide) f_13 (fun _ h9 => h9) rfl dX5_pitch_11 ?_
    refine lv_istore_n (lv' := [(2, .int (iI pi)), (0, .ref (q 0)), (1, .int (iI v))]) hx hb dX5_pitch_14 rfl hl (by decide) rfl (fun ls hl => ?_)
    refine lv_aload_n hx hb dX5_pitch_15 rfl (lv_at hl 1 rfl) ?_
    refine lv_iload_n hx hb dX5_pitch_16 rfl (lv_at hl 2 rfl) ?_
    refine va_put (D := D) (ci := 5) (v := .int (iI v)) (ty := .int) (C := RX5) (T := TX5) (N := 9) hx hb hts n_X5 tyX5 tyX5_ok nmX5 hown hK hP hD hS 0 rfl rfl 6 (by decide) f_13 (fun _ h9 => h9) rfl (by decide +kernel) rfl rfl (Nat.le_of_ble_eq_true rfl) dX5_pitch_17 (fun H locs hP hD hS => ?_)
    have hP : va_P D vwCl (wT q cy nK st le be te ab bl ka bg ln ns me sc v re bk pa lz go ss sm pf mf) H := hP
    have hD : va_D A (wT q cy nK st le be te ab bl ka bg ln ns me sc v re bk pa lz go ss sm pf mf) := hD
    refine lv_iload_n hx hb dX5_pitch_20 rfl (lv_at hl 0 rfl) ?_
    exact z_iret X hK hP hD hS dX5_pitch_21 (by first | rfl | omega | grind)
  · exact absurd c_1 (by omega)

set_option maxHeartbeats 4000000 in
set_option maxRecDepth 100000 in
theorem c_X5_pitch_no (I : okS nK st le be te ab bl ka bg ln ns me sc pi re bk) (v : Int) (h : -2147483648 ≤ v ∧ v ≤ 2147483647) (hno : ¬ (1000 ≤ v ∧ v ≤ 200000)) : MI l D cy yX5_pitch wsX5_pitch ({ frames := 2, cells := 0, slots := 0, locals := 42 } : Room) [.ref (q 0), .int (iI v)] (wT q cy nK st le be te ab bl ka bg ln ns me sc pi re bk pa lz go ss sm pf mf) (-100002) (wT q cy nK st le be te ab bl ka bg ln ns me sc pi re bk pa lz go ss sm pf mf) := by
  refine MI.ofW (cc := cX5_pitch) (maxL := 3) (ret := (some .int)) (by decide) rfl (Nat.le_of_ble_eq_true rfl) ?_
  intro p e s m below meth c A ls X hK hP hD hA hS hl
  obtain ⟨hx, hb, hml, hr, hts, hown, hlocks⟩ := id X
  have hl : lv_has ls 3 [(0, .ref (q 0)), (1, .int (iI v))] := hl
  have k_65 := hts (Cond.constant RX5 65 (-100002)) (by decide +kernel)
  have iK := I.nK
  refine lv_iload_n hx hb dX5_pitch_0 rfl (lv_at hl 1 rfl) ?_
  refine z_callSi (As := [.int (iI v)]) (rest := []) X hK hP hD hA hS hl.1 gX5_pitch_X5_isPitch rfl ⟨rfl, rfl⟩ hd_X5_isPitch ⟨Nat.le_of_ble_eq_true rfl, Nat.le_of_ble_eq_true rfl⟩ rfl (Nat.le_of_ble_eq_true rfl) ⟨Nat.zero_le _, Nat.zero_le _⟩ rfl dX5_pitch_1 (c_X5_isPitch v (by omega)) (fun H locs hP hD hS => ?_)
  refine z_ifp_ne (tgt := 10) hx hb dX5_pitch_4 (by decide) (fun c_1 => ?_) (fun c_1 => ?_)
  · exact absurd c_1 (by omega)
  · refine z_ldc (n := -100002) hx hb hown k_65 (by decide) dX5_pitch_7 ?_
    exact z_iret X hK hP hD hS dX5_pitch_9 (by (repeat' split) <;> first | rfl | omega)

theorem hd_X5_rest : yX5_rest.cls = RX5 ∧ yX5_rest.cls ≠ "java/lang/invoke/MethodHandle" ∧ yX5_rest.cls ≠ "java/lang/invoke/VarHandle" ∧ (parseMethodDescriptor yX5_rest.desc).map (fun d => d.parameters.length) = some 1 := by decide +kernel
set_option maxHeartbeats 4000000 in
set_option maxRecDepth 100000 in
theorem c_X5_rest_ok (I : okS nK st le be te ab bl ka bg ln ns me sc pi re bk) (g : Int) (h : -2147483648 ≤ g ∧ g ≤ 2147483647) (hok : 0 ≤ g ∧ g ≤ 20) : MI l D cy yX5_rest wsX5_rest ({ frames := 1, cells := 0, slots := 0, locals := 22 } : Room) [.ref (q 0), .int (iI g)] (wT q cy nK st le be te ab bl ka bg ln ns me sc pi re bk pa lz go ss sm pf mf) re (wT q cy nK st le be te ab bl ka bg ln ns me sc pi g bk pa lz go ss sm pf mf) := by
  refine MI.ofW (cc := cX5_rest) (maxL := 3) (ret := (some .int)) (by decide) rfl (Nat.le_of_ble_eq_true rfl) ?_
  intro p e s m below meth c A ls X hK hP hD hA hS hl
  obtain ⟨hx, hb, hml, hr, hts, hown, hlocks⟩ := id X
  have hl : lv_has ls 3 [(0, .ref (q 0)), (1, .int (iI g))] := hl
  have f_16 := hts (Cond.fieldLink RX5 16 "TwoKeys" "restNow" "I") (by decide +kernel)
  have n_X5 : ∀ w ∈ u_ws RX5 TX5 9, w ∈ wsX5_rest := by decide +kernel
  have iK := I.nK
  refine lv_iload_n hx hb dX5_rest_0 rfl (lv_at hl 1 rfl) ?_
  refine lv_iconst (v := iI (0)) hx hb dX5_rest_1 rfl ?_
  refine lv_bipush (v := iI (20)) hx hb dX5_rest_2 (by decide) ?_
  refine z_callSi (As := [.int (iI g), .int (iI 0), .int (iI 20)]) (rest := []) X hK hP hD hA hS hl.1 gX5_rest_X5_within rfl ⟨rfl, rfl⟩ hd_X5_within ⟨Nat.le_of_ble_eq_true rfl, Nat.le_of_ble_eq_true rfl⟩ rfl (Nat.le_of_ble_eq_true rfl) ⟨Nat.zero_le _, Nat.zero_le _⟩ rfl dX5_rest_4 (c_X5_within g 0 20 (by omega)) (fun H locs hP hD hS => ?_)
  refine z_ifp_ne (tgt := 13) hx hb dX5_rest_7 (by decide) (fun c_1 => ?_) (fun c_1 => ?_)
  · refine lv_aload_n hx hb dX5_rest_13 rfl (lv_at hl 0 rfl) ?_
    refine va_get (D := D) (ci := 5) (v := .int (iI re)) (C := RX5) (T := TX5) (N := 9) hx hb hts n_X5 hown hK hP 0 rfl rfl 7 (by decide) f_16 (fun _ h9 => h9) rfl dX5_rest_14 ?_
    refine lv_istore_n (lv' := [(2, .int (iI re)), (0, .ref (q 0)), (1, .int (iI g))]) hx hb dX5_rest_17 rfl hl (by decide) rfl (fun ls hl => ?_)
    refine lv_aload_n hx hb dX5_rest_18 rfl (lv_at hl 1 rfl) ?_
    refine lv_iload_n hx hb dX5_rest_19 rfl (lv_at hl 2 rfl) ?_
    refine va_put (D := D) (ci := 5) (v := .int (iI g)) (ty := .int) (C := RX5) (T := TX5) (N := 9) hx hb hts n_X5 tyX5 tyX5_ok nmX5 hown hK hP hD hS 0 rfl rfl 7 (by decide) f_16 (fun _ h9 => h9) rfl (by decide +kernel) rfl rfl (Nat.le_of_ble_eq_true rfl) dX5_rest_20 (fun H locs hP hD hS => ?_)
    have hP : va_P D vwCl (wT q cy nK st le be te ab bl ka bg ln ns me sc pi g bk pa lz go ss sm pf mf) H := hP
    have hD : va_D A (wT q cy nK st le be te ab bl ka bg ln ns me sc pi g bk pa lz go ss sm pf mf) := hD
    refine lv_iload_n hx hb dX5_rest_23 rfl (lv_at hl 0 rfl) ?_
    exact z_iret X hK hP hD hS dX5_rest_24 (by first | rfl | omega | grind)
  · exact absurd c_1 (by omega)

set_option maxHeartbeats 4000000 in
set_option maxRecDepth 100000 in
theorem c_X5_rest_no (I : okS nK st le be te ab bl ka bg ln ns me sc pi re bk) (g : Int) (h : -2147483648 ≤ g ∧ g ≤ 2147483647) (hno : ¬ (0 ≤ g ∧ g ≤ 20)) : MI l D cy yX5_rest wsX5_rest ({ frames := 1, cells := 0, slots := 0, locals := 22 } : Room) [.ref (q 0), .int (iI g)] (wT q cy nK st le be te ab bl ka bg ln ns me sc pi re bk pa lz go ss sm pf mf) (-100002) (wT q cy nK st le be te ab bl ka bg ln ns me sc pi re bk pa lz go ss sm pf mf) := by
  refine MI.ofW (cc := cX5_rest) (maxL := 3) (ret := (some .int)) (by decide) rfl (Nat.le_of_ble_eq_true rfl) ?_
  intro p e s m below meth c A ls X hK hP hD hA hS hl
  obtain ⟨hx, hb, hml, hr, hts, hown, hlocks⟩ := id X
  have hl : lv_has ls 3 [(0, .ref (q 0)), (1, .int (iI g))] := hl
  have k_65 := hts (Cond.constant RX5 65 (-100002)) (by decide +kernel)
  have iK := I.nK
  refine lv_iload_n hx hb dX5_rest_0 rfl (lv_at hl 1 rfl) ?_
  refine lv_iconst (v := iI (0)) hx hb dX5_rest_1 rfl ?_
  refine lv_bipush (v := iI (20)) hx hb dX5_rest_2 (by decide) ?_
  refine z_callSi (As := [.int (iI g), .int (iI 0), .int (iI 20)]) (rest := []) X hK hP hD hA hS hl.1 gX5_rest_X5_within rfl ⟨rfl, rfl⟩ hd_X5_within ⟨Nat.le_of_ble_eq_true rfl, Nat.le_of_ble_eq_true rfl⟩ rfl (Nat.le_of_ble_eq_true rfl) ⟨Nat.zero_le _, Nat.zero_le _⟩ rfl dX5_rest_4 (c_X5_within g 0 20 (by omega)) (fun H locs hP hD hS => ?_)
  refine z_ifp_ne (tgt := 13) hx hb dX5_rest_7 (by decide) (fun c_1 => ?_) (fun c_1 => ?_)
  · exact absurd c_1 (by omega)
  · refine z_ldc (n := -100002) hx hb hown k_65 (by decide) dX5_rest_10 ?_
    exact z_iret X hK hP hD hS dX5_rest_12 (by (repeat' split) <;> first | rfl | omega)

theorem hd_X5_book : yX5_book.cls = RX5 ∧ yX5_book.cls ≠ "java/lang/invoke/MethodHandle" ∧ yX5_book.cls ≠ "java/lang/invoke/VarHandle" ∧ (parseMethodDescriptor yX5_book.desc).map (fun d => d.parameters.length) = some 1 := by decide +kernel
set_option maxHeartbeats 4000000 in
set_option maxRecDepth 100000 in
theorem c_X5_book_ok (I : okS nK st le be te ab bl ka bg ln ns me sc pi re bk) (v : Int) (h : -2147483648 ≤ v ∧ v ≤ 2147483647) (hok : 0 ≤ v ∧ v ≤ 15) : MI l D cy yX5_book wsX5_book ({ frames := 1, cells := 0, slots := 0, locals := 22 } : Room) [.ref (q 0), .int (iI v)] (wT q cy nK st le be te ab bl ka bg ln ns me sc pi re bk pa lz go ss sm pf mf) bk (wT q cy nK st le be te ab bl ka bg ln ns me sc pi re v pa lz go ss sm pf mf) := by
  refine MI.ofW (cc := cX5_book) (maxL := 3) (ret := (some .int)) (by decide) rfl (Nat.le_of_ble_eq_true rfl) ?_
  intro p e s m below meth c A ls X hK hP hD hA hS hl
  obtain ⟨hx, hb, hml, hr, hts, hown, hlocks⟩ := id X
  have hl : lv_has ls 3 [(0, .ref (q 0)), (1, .int (iI v))] := hl
  have f_19 := hts (Cond.fieldLink RX5 19 "TwoKeys" "bookNow" "I") (by decide +kernel)
  have n_X5 : ∀ w ∈ u_ws RX5 TX5 9, w ∈ wsX5_book := by decide +kernel
  have iK := I.nK
  refine lv_iload_n hx hb dX5_book_0 rfl (lv_at hl 1 rfl) ?_
  refine lv_iconst (v := iI (0)) hx hb dX5_book_1 rfl ?_
  refine lv_bipush (v := iI (15)) hx hb dX5_book_2 (by decide) ?_
  refine z_callSi (As := [.int (iI v), .int (iI 0), .int (iI 15)]) (rest := []) X hK hP hD hA hS hl.1 gX5_book_X5_within rfl ⟨rfl, rfl⟩ hd_X5_within ⟨Nat.le_of_ble_eq_true rfl, Nat.le_of_ble_eq_true rfl⟩ rfl (Nat.le_of_ble_eq_true rfl) ⟨Nat.zero_le _, Nat.zero_le _⟩ rfl dX5_book_4 (c_X5_within v 0 15 (by omega)) (fun H locs hP hD hS => ?_)
  refine z_ifp_ne (tgt := 13) hx hb dX5_book_7 (by decide) (fun c_1 => ?_) (fun c_1 => ?_)
  · refine lv_aload_n hx hb dX5_book_13 rfl (lv_at hl 0 rfl) ?_
    refine va_get (D := D) (ci := 5) (v := .int (iI bk)) (C := RX5) (T := TX5) (N := 9) hx hb hts n_X5 hown hK hP 0 rfl rfl 8 (by decide) f_19 (fun _ h9 => h9) rfl dX5_book_14 ?_
    refine lv_istore_n (lv' := [(2, .int (iI bk)), (0, .ref (q 0)), (1, .int (iI v))]) hx hb dX5_book_17 rfl hl (by decide) rfl (fun ls hl => ?_)
    refine lv_aload_n hx hb dX5_book_18 rfl (lv_at hl 1 rfl) ?_
    refine lv_iload_n hx hb dX5_book_19 rfl (lv_at hl 2 rfl) ?_
    refine va_put (D := D) (ci := 5) (v := .int (iI v)) (ty := .int) (C := RX5) (T := TX5) (N := 9) hx hb hts n_X5 tyX5 tyX5_ok nmX5 hown hK hP hD hS 0 rfl rfl 8 (by decide) f_19 (fun _ h9 => h9) rfl (by decide +kernel) rfl rfl (Nat.le_of_ble_eq_true rfl) dX5_book_20 (fun H locs hP hD hS => ?_)
    have hP : va_P D vwCl (wT q cy nK st le be te ab bl ka bg ln ns me sc pi re v pa lz go ss sm pf mf) H := hP
    have hD : va_D A (wT q cy nK st le be te ab bl ka bg ln ns me sc pi re v pa lz go ss sm pf mf) := hD
    refine lv_iload_n hx hb dX5_book_23 rfl (lv_at hl 0 rfl) ?_
    exact z_iret X hK hP hD hS dX5_book_24 (by first | rfl | omega | grind)
  · exact absurd c_1 (by omega)

set_option maxHeartbeats 4000000 in
set_option maxRecDepth 100000 in
theorem c_X5_book_no (I : okS nK st le be te ab bl ka bg ln ns me sc pi re bk) (v : Int) (h : -2147483648 ≤ v ∧ v ≤ 2147483647) (hno : ¬ (0 ≤ v ∧ v ≤ 15)) : MI l D cy yX5_book wsX5_book ({ frames := 1, cells := 0, slots := 0, locals := 22 } : Room) [.ref (q 0), .int (iI v)] (wT q cy nK st le be te ab bl ka bg ln ns me sc pi re bk pa lz go ss sm pf mf) (-100002) (wT q cy nK st le be te ab bl ka bg ln ns me sc pi re bk pa lz go ss sm pf mf) := by
  refine MI.ofW (cc := cX5_book) (maxL := 3) (ret := (some .int)) (by decide) rfl (Nat.le_of_ble_eq_true rfl) ?_
  intro p e s m below meth c A ls X hK hP hD hA hS hl
  obtain ⟨hx, hb, hml, hr, hts, hown, hlocks⟩ := id X
  have hl : lv_has ls 3 [(0, .ref (q 0)), (1, .int (iI v))] := hl
  have k_65 := hts (Cond.constant RX5 65 (-100002)) (by decide +kernel)
  have iK := I.nK
  refine lv_iload_n hx hb dX5_book_0 rfl (lv_at hl 1 rfl) ?_
  refine lv_iconst (v := iI (0)) hx hb dX5_book_1 rfl ?_
  refine lv_bipush (v := iI (15)) hx hb dX5_book_2 (by decide) ?_
  refine z_callSi (As := [.int (iI v), .int (iI 0), .int (iI 15)]) (rest := []) X hK hP hD hA hS hl.1 gX5_book_X5_within rfl ⟨rfl, rfl⟩ hd_X5_within ⟨Nat.le_of_ble_eq_true rfl, Nat.le_of_ble_eq_true rfl⟩ rfl (Nat.le_of_ble_eq_true rfl) ⟨Nat.zero_le _, Nat.zero_le _⟩ rfl dX5_book_4 (c_X5_within v 0 15 (by omega)) (fun H locs hP hD hS => ?_)
  refine z_ifp_ne (tgt := 13) hx hb dX5_book_7 (by decide) (fun c_1 => ?_) (fun c_1 => ?_)
  · exact absurd c_1 (by omega)
  · refine z_ldc (n := -100002) hx hb hown k_65 (by decide) dX5_book_10 ?_
    exact z_iret X hK hP hD hS dX5_book_12 (by (repeat' split) <;> first | rfl | omega)

theorem hd_X5_wipe : yX5_wipe.cls = RX5 ∧ yX5_wipe.cls ≠ "java/lang/invoke/MethodHandle" ∧ yX5_wipe.cls ≠ "java/lang/invoke/VarHandle" ∧ (parseMethodDescriptor yX5_wipe.desc).map (fun d => d.parameters.length) = some 1 := by decide +kernel
set_option maxHeartbeats 4000000 in
set_option maxRecDepth 100000 in
theorem c_X5_wipe_ok (I : okS nK st le be te ab bl ka bg ln ns me sc pi re bk) (p9 : Int) (h : -2147483648 ≤ p9 ∧ p9 ≤ 2147483647) (hok : 0 ≤ p9 ∧ p9 ≤ 3) : MI l D cy yX5_wipe wsX5_wipe ({ frames := 2, cells := 0, slots := 0, locals := 42 } : Room) [.ref (q 0), .int (iI p9)] (wT q cy nK st le be te ab bl ka bg ln ns me sc pi re bk pa lz go ss sm pf mf) (ns p9) (wT q cy nK st le be te ab bl ka bg ln (uZ ns p9 0) me sc pi re bk pa lz go ss sm pf mf) := by
  refine MI.ofW (cc := cX5_wipe) (maxL := 3) (ret := (some .int)) (by decide) rfl (Nat.le_of_ble_eq_true rfl) ?_
  intro p e s m below meth c A ls X hK hP hD hA hS hl
  obtain ⟨hx, hb, hml, hr, hts, hown, hlocks⟩ := id X
  have hl : lv_has ls 3 [(0, .ref (q 0)), (1, .int (iI p9))] := hl
  have f_41 := hts (Cond.fieldLink RX5 41 "TwoKeys" "music" "LTwoKeys$Music;") (by decide +kernel)
  have f_156 := hts (Cond.fieldLink RX5 156 "TwoKeys$Music" "sizes" "[I") (by decide +kernel)
  have n_X1 : ∀ w ∈ u_ws RX1 TX1 5, w ∈ wsX5_wipe := by decide +kernel
  have n_X5 : ∀ w ∈ u_ws RX5 TX5 9, w ∈ wsX5_wipe := by decide +kernel
  have iK := I.nK
  refine lv_iload_n hx hb dX5_wipe_0 rfl (lv_at hl 1 rfl) ?_
  refine z_callSi (As := [.int (iI p9)]) (rest := []) X hK hP hD hA hS hl.1 gX5_wipe_X5_isPiece rfl ⟨rfl, rfl⟩ hd_X5_isPiece ⟨Nat.le_of_ble_eq_true rfl, Nat.le_of_ble_eq_true rfl⟩ rfl (Nat.le_of_ble_eq_true rfl) ⟨Nat.zero_le _, Nat.zero_le _⟩ rfl dX5_wipe_1 (c_X5_isPiece p9 (by omega)) (fun H locs hP hD hS => ?_)
  refine z_ifp_ne (tgt := 10) hx hb dX5_wipe_4 (by decide) (fun c_1 => ?_) (fun c_1 => ?_)
  · refine lv_aload_n hx hb dX5_wipe_10 rfl (lv_at hl 0 rfl) ?_
    refine va_get (D := D) (ci := 5) (v := .ref (q 9)) (C := RX5) (T := TX5) (N := 9) hx hb hts n_X5 hown hK hP 0 rfl rfl 2 (by decide) f_41 (fun _ h9 => h9) rfl dX5_wipe_11 ?_
    refine va_get (D := D) (ci := 1) (v := .ref (q 13)) (C := RX1) (T := TX1) (N := 5) hx hb hts n_X1 hown hK hP 9 rfl rfl 4 (by decide) f_156 (fun _ h9 => h9) rfl dX5_wipe_14 ?_
    refine lv_iload_n hx hb dX5_wipe_17 rfl (lv_at hl 1 rfl) ?_
    refine z_iald hx hb hK hP 13 0 rfl rfl (by omega) dX5_wipe_18 ?_
    have b_2 := I.ns p9
    refine lv_istore_n (lv' := [(2, .int (iI (ns p9))), (0, .ref (q 0)), (1, .int (iI p9))]) hx hb dX5_wipe_19 rfl hl (by decide) rfl (fun ls hl => ?_)
    refine lv_aload_n hx hb dX5_wipe_20 rfl (lv_at hl 1 rfl) ?_
    refine va_get (D := D) (ci := 5) (v := .ref (q 9)) (C := RX5) (T := TX5) (N := 9) hx hb hts n_X5 hown hK hP 0 rfl rfl 2 (by decide) f_41 (fun _ h9 => h9) rfl dX5_wipe_21 ?_
    refine va_get (D := D) (ci := 1) (v := .ref (q 13)) (C := RX1) (T := TX1) (N := 5) hx hb hts n_X1 hown hK hP 9 rfl rfl 4 (by decide) f_156 (fun _ h9 => h9) rfl dX5_wipe_24 ?_
    refine lv_iload_n hx hb dX5_wipe_27 rfl (lv_at hl 2 rfl) ?_
    refine lv_iconst (v := iI (0)) hx hb dX5_wipe_28 rfl ?_
    refine z_iast (v := 0) hx hb hK hP hD hS 13 0 rfl rfl (by omega) dX5_wipe_29 (fun H locs hP hD hS => ?_)
    have hP : va_P D vwCl (wT q cy nK st le be te ab bl ka bg ln (uZ ns p9 0) me sc pi re bk pa lz go ss sm pf mf) H := hP
    have hD : va_D A (wT q cy nK st le be te ab bl ka bg ln (uZ ns p9 0) me sc pi re bk pa lz go ss sm pf mf) := hD
    refine lv_iload_n hx hb dX5_wipe_30 rfl (lv_at hl 0 rfl) ?_
    exact z_iret X hK hP hD hS dX5_wipe_31 (by first | rfl | omega | grind)
  · exact absurd c_1 (by omega)

set_option maxHeartbeats 4000000 in
set_option maxRecDepth 100000 in
theorem c_X5_wipe_no (I : okS nK st le be te ab bl ka bg ln ns me sc pi re bk) (p9 : Int) (h : -2147483648 ≤ p9 ∧ p9 ≤ 2147483647) (hno : ¬ (0 ≤ p9 ∧ p9 ≤ 3)) : MI l D cy yX5_wipe wsX5_wipe ({ frames := 2, cells := 0, slots := 0, locals := 42 } : Room) [.ref (q 0), .int (iI p9)] (wT q cy nK st le be te ab bl ka bg ln ns me sc pi re bk pa lz go ss sm pf mf) (-100001) (wT q cy nK st le be te ab bl ka bg ln ns me sc pi re bk pa lz go ss sm pf mf) := by
  refine MI.ofW (cc := cX5_wipe) (maxL := 3) (ret := (some .int)) (by decide) rfl (Nat.le_of_ble_eq_true rfl) ?_
  intro p e s m below meth c A ls X hK hP hD hA hS hl
  obtain ⟨hx, hb, hml, hr, hts, hown, hlocks⟩ := id X
  have hl : lv_has ls 3 [(0, .ref (q 0)), (1, .int (iI p9))] := hl
  have k_76 := hts (Cond.constant RX5 76 (-100001)) (by decide +kernel)
  have iK := I.nK
  refine lv_iload_n hx hb dX5_wipe_0 rfl (lv_at hl 1 rfl) ?_
  refine z_callSi (As := [.int (iI p9)]) (rest := []) X hK hP hD hA hS hl.1 gX5_wipe_X5_isPiece rfl ⟨rfl, rfl⟩ hd_X5_isPiece ⟨Nat.le_of_ble_eq_true rfl, Nat.le_of_ble_eq_true rfl⟩ rfl (Nat.le_of_ble_eq_true rfl) ⟨Nat.zero_le _, Nat.zero_le _⟩ rfl dX5_wipe_1 (c_X5_isPiece p9 (by omega)) (fun H locs hP hD hS => ?_)
  refine z_ifp_ne (tgt := 10) hx hb dX5_wipe_4 (by decide) (fun c_1 => ?_) (fun c_1 => ?_)
  · exact absurd c_1 (by omega)
  · refine z_ldc (n := -100001) hx hb hown k_76 (by decide) dX5_wipe_7 ?_
    exact z_iret X hK hP hD hS dX5_wipe_9 (by (repeat' split) <;> first | rfl | omega)

theorem hd_X5_note : yX5_note.cls = RX5 ∧ yX5_note.cls ≠ "java/lang/invoke/MethodHandle" ∧ yX5_note.cls ≠ "java/lang/invoke/VarHandle" ∧ (parseMethodDescriptor yX5_note.desc).map (fun d => d.parameters.length) = some 4 := by decide +kernel
set_option maxHeartbeats 4000000 in
set_option maxRecDepth 100000 in
theorem c_X5_note_ok (I : okS nK st le be te ab bl ka bg ln ns me sc pi re bk) (p9 : Int) (k : Int) (b9 : Int) (l9 : Int) (h : -2147483648 ≤ p9 ∧ p9 ≤ 2147483647 ∧ -2147483648 ≤ k ∧ k ≤ 2147483647 ∧ -2147483648 ≤ b9 ∧ b9 ≤ 2147483647 ∧ -2147483648 ≤ l9 ∧ l9 ≤ 2147483647) (hok : (0 ≤ p9 ∧ p9 ≤ 3) ∧ ((0 ≤ k ∧ k ≤ 23) ∧ (0 ≤ b9 ∧ b9 ≤ 999) ∧ (1 ≤ l9 ∧ l9 ≤ 99)) ∧ (if ns p9 = 0 then 0 else bg (p9 * 40 + ns p9 - 1)) ≤ b9 ∧ ns p9 < 40) : MI l D cy yX5_note wsX5_note ({ frames := 2, cells := 0, slots := 0, locals := 46 } : Room) [.ref (q 0), .int (iI p9), .int (iI k), .int (iI b9), .int (iI l9)] (wT q cy nK st le be te ab bl ka bg ln ns me sc pi re bk pa lz go ss sm pf mf) (ns p9) (wT q cy nK st le be te ab bl (uZ ka (p9 * 40 + ns p9) k) (uZ bg (p9 * 40 + ns p9) b9) (uZ ln (p9 * 40 + ns p9) l9) (uZ ns p9 (ns p9 + 1)) me sc pi re bk pa lz go ss sm pf mf) := by
  refine MI.ofW (cc := cX5_note) (maxL := 5) (ret := (some .int)) (by decide) rfl (Nat.le_of_ble_eq_true rfl) ?_
  intro p e s m below meth c A ls X hK hP hD hA hS hl
  obtain ⟨hx, hb, hml, hr, hts, hown, hlocks⟩ := id X
  have hl : lv_has ls 5 [(0, .ref (q 0)), (1, .int (iI p9)), (2, .int (iI k)), (3, .int (iI b9)), (4, .int (iI l9))] := hl
  have f_41 := hts (Cond.fieldLink RX5 41 "TwoKeys" "music" "LTwoKeys$Music;") (by decide +kernel)
  have n_X5 : ∀ w ∈ u_ws RX5 TX5 9, w ∈ wsX5_note := by decide +kernel
  have iK := I.nK
  have i9 := I.ns p9
  have i8 : 0 ≤ (if ns p9 = 0 then 0 else bg (p9 * 40 + ns p9 - 1)) ∧ (if ns p9 = 0 then 0 else bg (p9 * 40 + ns p9 - 1)) ≤ 999 := by have := I.bg (p9 * 40 + ns p9 - 1); split <;> omega
  refine lv_iload_n hx hb dX5_note_0 rfl (lv_at hl 1 rfl) ?_
  refine z_callSi (As := [.int (iI p9)]) (rest := []) X hK hP hD hA hS hl.1 gX5_note_X5_isPiece rfl ⟨rfl, rfl⟩ hd_X5_isPiece ⟨Nat.le_of_ble_eq_true rfl, Nat.le_of_ble_eq_true rfl⟩ rfl (Nat.le_of_ble_eq_true rfl) ⟨Nat.zero_le _, Nat.zero_le _⟩ rfl dX5_note_1 (c_X5_isPiece p9 (by omega)) (fun H locs hP hD hS => ?_)
  refine z_ifp_ne (tgt := 10) hx hb dX5_note_4 (by decide) (fun c_1 => ?_) (fun c_1 => ?_)
  · refine lv_iload_n hx hb dX5_note_10 rfl (lv_at hl 2 rfl) ?_
    refine lv_iconst (v := iI (0)) hx hb dX5_note_11 rfl ?_
    refine lv_bipush (v := iI (23)) hx hb dX5_note_12 (by decide) ?_
    refine z_callSi (As := [.int (iI k), .int (iI 0), .int (iI 23)]) (rest := []) X hK hP hD hA hS hl.1 gX5_note_X5_within rfl ⟨rfl, rfl⟩ hd_X5_within ⟨Nat.le_of_ble_eq_true rfl, Nat.le_of_ble_eq_true rfl⟩ rfl (Nat.le_of_ble_eq_true rfl) ⟨Nat.zero_le _, Nat.zero_le _⟩ rfl dX5_note_14 (c_X5_within k 0 23 (by omega)) (fun H locs hP hD hS => ?_)
    refine z_ifp_ne (tgt := 23) hx hb dX5_note_17 (by decide) (fun c_2 => ?_) (fun c_2 => ?_)
    · refine lv_iload_n hx hb dX5_note_23 rfl (lv_at hl 3 rfl) ?_
      refine lv_iconst (v := iI (0)) hx hb dX5_note_24 rfl ?_
      refine lv_sipush (v := iI (999)) hx hb dX5_note_25 (by decide) ?_
      refine z_callSi (As := [.int (iI b9), .int (iI 0), .int (iI 999)]) (rest := []) X hK hP hD hA hS hl.1 gX5_note_X5_within rfl ⟨rfl, rfl⟩ hd_X5_within ⟨Nat.le_of_ble_eq_true rfl, Nat.le_of_ble_eq_true rfl⟩ rfl (Nat.le_of_ble_eq_true rfl) ⟨Nat.zero_le _, Nat.zero_le _⟩ rfl dX5_note_28 (c_X5_within b9 0 999 (by omega)) (fun H locs hP hD hS => ?_)
      refine z_ifp_eq (tgt := 45) hx hb dX5_note_31 (by decide) (fun c_3 => ?_) (fun c_3 => ?_)
      · exact absurd c_3 (by omega)
      · refine lv_iload hx hb dX5_note_34 (lv_at hl 4 rfl) ?_
        refine lv_iconst (v := iI (1)) hx hb dX5_note_36 rfl ?_
        refine lv_bipush (v := iI (99)) hx hb dX5_note_37 (by decide) ?_
        refine z_callSi (As := [.int (iI l9), .int (iI 1), .int (iI 99)]) (rest := []) X hK hP hD hA hS hl.1 gX5_note_X5_within rfl ⟨rfl, rfl⟩ hd_X5_within ⟨Nat.le_of_ble_eq_true rfl, Nat.le_of_ble_eq_true rfl⟩ rfl (Nat.le_of_ble_eq_true rfl) ⟨Nat.zero_le _, Nat.zero_le _⟩ rfl dX5_note_39 (c_X5_within l9 1 99 (by omega)) (fun H locs hP hD hS => ?_)
        refine z_ifp_ne (tgt := 48) hx hb dX5_note_42 (by decide) (fun c_4 => ?_) (fun c_4 => ?_)
        · refine lv_iload_n hx hb dX5_note_48 rfl (lv_at hl 3 rfl) ?_
          refine lv_aload_n hx hb dX5_note_49 rfl (lv_at hl 0 rfl) ?_
          refine va_get (D := D) (ci := 5) (v := .ref (q 9)) (C := RX5) (T := TX5) (N := 9) hx hb hts n_X5 hown hK hP 0 rfl rfl 2 (by decide) f_41 (fun _ h9 => h9) rfl dX5_note_50 ?_
          refine lv_iload_n hx hb dX5_note_53 rfl (lv_at hl 1 rfl) ?_
          refine z_callVi (ci := 1) (q0 := 9) (As := [.int (iI p9)]) (rest := [.int (iI b9)]) X hK hP hD hA hS hl.1 gX5_note_X1_lastBegin rfl ⟨rfl, rfl⟩ hd_X1_lastBegin ⟨Nat.le_of_ble_eq_true rfl, Nat.le_of_ble_eq_true rfl⟩ rfl rfl rfl (Nat.le_of_ble_eq_true rfl) ⟨Nat.zero_le _, Nat.zero_le _⟩ rfl dX5_note_54 (c_X1_lastBegin I p9 (by omega)) (fun H locs hP hD hS => ?_)
          refine z_icmp_ge (tgt := 63) hx hb dX5_note_57 (by decide) (by omega) (fun c_5 => ?_) (fun c_5 => ?_)
          · refine lv_aload_n hx hb dX5_note_63 rfl (lv_at hl 0 rfl) ?_
            refine va_get (D := D) (ci := 5) (v := .ref (q 9)) (C := RX5) (T := TX5) (N := 9) hx hb hts n_X5 hown hK hP 0 rfl rfl 2 (by decide) f_41 (fun _ h9 => h9) rfl dX5_note_64 ?_
            refine lv_iload_n hx hb dX5_note_67 rfl (lv_at hl 1 rfl) ?_
            refine z_callVi (ci := 1) (q0 := 9) (As := [.int (iI p9)]) (rest := []) X hK hP hD hA hS hl.1 gX5_note_X1_isFull rfl ⟨rfl, rfl⟩ hd_X1_isFull ⟨Nat.le_of_ble_eq_true rfl, Nat.le_of_ble_eq_true rfl⟩ rfl rfl rfl (Nat.le_of_ble_eq_true rfl) ⟨Nat.zero_le _, Nat.zero_le _⟩ rfl dX5_note_68 (c_X1_isFull I p9 (by omega)) (fun H locs hP hD hS => ?_)
            refine z_ifp_eq (tgt := 77) hx hb dX5_note_71 (by decide) (fun c_6 => ?_) (fun c_6 => ?_)
            · refine lv_aload_n hx hb dX5_note_77 rfl (lv_at hl 0 rfl) ?_
              refine va_get (D := D) (ci := 5) (v := .ref (q 9)) (C := RX5) (T := TX5) (N := 9) hx hb hts n_X5 hown hK hP 0 rfl rfl 2 (by decide) f_41 (fun _ h9 => h9) rfl dX5_note_78 ?_
              refine lv_iload_n hx hb dX5_note_81 rfl (lv_at hl 1 rfl) ?_
              refine lv_iload_n hx hb dX5_note_82 rfl (lv_at hl 2 rfl) ?_
              refine lv_iload_n hx hb dX5_note_83 rfl (lv_at hl 3 rfl) ?_
              refine lv_iload hx hb dX5_note_84 (lv_at hl 4 rfl) ?_
              refine z_callVi (ci := 1) (q0 := 9) (As := [.int (iI p9), .int (iI k), .int (iI b9), .int (iI l9)]) (rest := []) X hK hP hD hA hS hl.1 gX5_note_X1_append rfl ⟨rfl, rfl⟩ hd_X1_append ⟨Nat.le_of_ble_eq_true rfl, Nat.le_of_ble_eq_true rfl⟩ rfl rfl rfl (Nat.le_of_ble_eq_true rfl) ⟨Nat.zero_le _, Nat.zero_le _⟩ rfl dX5_note_86 (c_X1_append I p9 k b9 l9 (by omega) (by omega)) (fun H locs hP hD hS => ?_)
              exact z_iret X hK hP hD hS dX5_note_89 (by first | rfl | omega | grind)
            · exact absurd c_6 (by omega)
          · exact absurd c_5 (by omega)
        · exact absurd c_4 (by omega)
    · exact absurd c_2 (by omega)
  · exact absurd c_1 (by omega)

set_option maxHeartbeats 4000000 in
set_option maxRecDepth 100000 in
theorem c_X5_note_no (I : okS nK st le be te ab bl ka bg ln ns me sc pi re bk) (p9 : Int) (k : Int) (b9 : Int) (l9 : Int) (h : -2147483648 ≤ p9 ∧ p9 ≤ 2147483647 ∧ -2147483648 ≤ k ∧ k ≤ 2147483647 ∧ -2147483648 ≤ b9 ∧ b9 ≤ 2147483647 ∧ -2147483648 ≤ l9 ∧ l9 ≤ 2147483647) (hno : ¬ ((0 ≤ p9 ∧ p9 ≤ 3) ∧ ((0 ≤ k ∧ k ≤ 23) ∧ (0 ≤ b9 ∧ b9 ≤ 999) ∧ (1 ≤ l9 ∧ l9 ≤ 99)) ∧ (if ns p9 = 0 then 0 else bg (p9 * 40 + ns p9 - 1)) ≤ b9 ∧ ns p9 < 40)) : MI l D cy yX5_note wsX5_note ({ frames := 2, cells := 0, slots := 0, locals := 42 } : Room) [.ref (q 0), .int (iI p9), .int (iI k), .int (iI b9), .int (iI l9)] (wT q cy nK st le be te ab bl ka bg ln ns me sc pi re bk pa lz go ss sm pf mf) (if 0 ≤ p9 ∧ p9 ≤ 3 then (if (0 ≤ k ∧ k ≤ 23) ∧ (0 ≤ b9 ∧ b9 ≤ 999) ∧ (1 ≤ l9 ∧ l9 ≤ 99) then (if b9 < (if ns p9 = 0 then 0 else bg (p9 * 40 + ns p9 - 1)) then (-100003) else (-100004)) else (-100002)) else (-100001)) (wT q cy nK st le be te ab bl ka bg ln ns me sc pi re bk pa lz go ss sm pf mf) := by
  refine MI.ofW (cc := cX5_note) (maxL := 5) (ret := (some .int)) (by decide) rfl (Nat.le_of_ble_eq_true rfl) ?_
  intro p e s m below meth c A ls X hK hP hD hA hS hl
  obtain ⟨hx, hb, hml, hr, hts, hown, hlocks⟩ := id X
  have hl : lv_has ls 5 [(0, .ref (q 0)), (1, .int (iI p9)), (2, .int (iI k)), (3, .int (iI b9)), (4, .int (iI l9))] := hl
  have k_65 := hts (Cond.constant RX5 65 (-100002)) (by decide +kernel)
  have f_41 := hts (Cond.fieldLink RX5 41 "TwoKeys" "music" "LTwoKeys$Music;") (by decide +kernel)
  have k_151 := hts (Cond.constant RX5 151 (-100004)) (by decide +kernel)
  have k_147 := hts (Cond.constant RX5 147 (-100003)) (by decide +kernel)
  have k_76 := hts (Cond.constant RX5 76 (-100001)) (by decide +kernel)
  have n_X5 : ∀ w ∈ u_ws RX5 TX5 9, w ∈ wsX5_note := by decide +kernel
  have iK := I.nK
  have i9 := I.ns p9
  have i8 : 0 ≤ (if ns p9 = 0 then 0 else bg (p9 * 40 + ns p9 - 1)) ∧ (if ns p9 = 0 then 0 else bg (p9 * 40 + ns p9 - 1)) ≤ 999 := by have := I.bg (p9 * 40 + ns p9 - 1); split <;> omega
  refine lv_iload_n hx hb dX5_note_0 rfl (lv_at hl 1 rfl) ?_
  refine z_callSi (As := [.int (iI p9)]) (rest := []) X hK hP hD hA hS hl.1 gX5_note_X5_isPiece rfl ⟨rfl, rfl⟩ hd_X5_isPiece ⟨Nat.le_of_ble_eq_true rfl, Nat.le_of_ble_eq_true rfl⟩ rfl (Nat.le_of_ble_eq_true rfl) ⟨Nat.zero_le _, Nat.zero_le _⟩ rfl dX5_note_1 (c_X5_isPiece p9 (by omega)) (fun H locs hP hD hS => ?_)
  refine z_ifp_ne (tgt := 10) hx hb dX5_note_4 (by decide) (fun c_1 => ?_) (fun c_1 => ?_)
  · refine lv_iload_n hx hb dX5_note_10 rfl (lv_at hl 2 rfl) ?_
    refine lv_iconst (v := iI (0)) hx hb dX5_note_11 rfl ?_
    refine lv_bipush (v := iI (23)) hx hb dX5_note_12 (by decide) ?_
    refine z_callSi (As := [.int (iI k), .int (iI 0), .int (iI 23)]) (rest := []) X hK hP hD hA hS hl.1 gX5_note_X5_within rfl ⟨rfl, rfl⟩ hd_X5_within ⟨Nat.le_of_ble_eq_true rfl, Nat.le_of_ble_eq_true rfl⟩ rfl (Nat.le_of_ble_eq_true rfl) ⟨Nat.zero_le _, Nat.zero_le _⟩ rfl dX5_note_14 (c_X5_within k 0 23 (by omega)) (fun H locs hP hD hS => ?_)
    refine z_ifp_ne (tgt := 23) hx hb dX5_note_17 (by decide) (fun c_2 => ?_) (fun c_2 => ?_)
    · refine lv_iload_n hx hb dX5_note_23 rfl (lv_at hl 3 rfl) ?_
      refine lv_iconst (v := iI (0)) hx hb dX5_note_24 rfl ?_
      refine lv_sipush (v := iI (999)) hx hb dX5_note_25 (by decide) ?_
      refine z_callSi (As := [.int (iI b9), .int (iI 0), .int (iI 999)]) (rest := []) X hK hP hD hA hS hl.1 gX5_note_X5_within rfl ⟨rfl, rfl⟩ hd_X5_within ⟨Nat.le_of_ble_eq_true rfl, Nat.le_of_ble_eq_true rfl⟩ rfl (Nat.le_of_ble_eq_true rfl) ⟨Nat.zero_le _, Nat.zero_le _⟩ rfl dX5_note_28 (c_X5_within b9 0 999 (by omega)) (fun H locs hP hD hS => ?_)
      refine z_ifp_eq (tgt := 45) hx hb dX5_note_31 (by decide) (fun c_3 => ?_) (fun c_3 => ?_)
      · refine z_ldc (n := -100002) hx hb hown k_65 (by decide) dX5_note_45 ?_
        exact z_iret X hK hP hD hS dX5_note_47 (by (repeat' split) <;> first | rfl | omega)
      · refine lv_iload hx hb dX5_note_34 (lv_at hl 4 rfl) ?_
        refine lv_iconst (v := iI (1)) hx hb dX5_note_36 rfl ?_
        refine lv_bipush (v := iI (99)) hx hb dX5_note_37 (by decide) ?_
        refine z_callSi (As := [.int (iI l9), .int (iI 1), .int (iI 99)]) (rest := []) X hK hP hD hA hS hl.1 gX5_note_X5_within rfl ⟨rfl, rfl⟩ hd_X5_within ⟨Nat.le_of_ble_eq_true rfl, Nat.le_of_ble_eq_true rfl⟩ rfl (Nat.le_of_ble_eq_true rfl) ⟨Nat.zero_le _, Nat.zero_le _⟩ rfl dX5_note_39 (c_X5_within l9 1 99 (by omega)) (fun H locs hP hD hS => ?_)
        refine z_ifp_ne (tgt := 48) hx hb dX5_note_42 (by decide) (fun c_4 => ?_) (fun c_4 => ?_)
        · refine lv_iload_n hx hb dX5_note_48 rfl (lv_at hl 3 rfl) ?_
          refine lv_aload_n hx hb dX5_note_49 rfl (lv_at hl 0 rfl) ?_
          refine va_get (D := D) (ci := 5) (v := .ref (q 9)) (C := RX5) (T := TX5) (N := 9) hx hb hts n_X5 hown hK hP 0 rfl rfl 2 (by decide) f_41 (fun _ h9 => h9) rfl dX5_note_50 ?_
          refine lv_iload_n hx hb dX5_note_53 rfl (lv_at hl 1 rfl) ?_
          refine z_callVi (ci := 1) (q0 := 9) (As := [.int (iI p9)]) (rest := [.int (iI b9)]) X hK hP hD hA hS hl.1 gX5_note_X1_lastBegin rfl ⟨rfl, rfl⟩ hd_X1_lastBegin ⟨Nat.le_of_ble_eq_true rfl, Nat.le_of_ble_eq_true rfl⟩ rfl rfl rfl (Nat.le_of_ble_eq_true rfl) ⟨Nat.zero_le _, Nat.zero_le _⟩ rfl dX5_note_54 (c_X1_lastBegin I p9 (by omega)) (fun H locs hP hD hS => ?_)
          refine z_icmp_ge (tgt := 63) hx hb dX5_note_57 (by decide) (by omega) (fun c_5 => ?_) (fun c_5 => ?_)
          · refine lv_aload_n hx hb dX5_note_63 rfl (lv_at hl 0 rfl) ?_
            refine va_get (D := D) (ci := 5) (v := .ref (q 9)) (C := RX5) (T := TX5) (N := 9) hx hb hts n_X5 hown hK hP 0 rfl rfl 2 (by decide) f_41 (fun _ h9 => h9) rfl dX5_note_64 ?_
            refine lv_iload_n hx hb dX5_note_67 rfl (lv_at hl 1 rfl) ?_
            refine z_callVi (ci := 1) (q0 := 9) (As := [.int (iI p9)]) (rest := []) X hK hP hD hA hS hl.1 gX5_note_X1_isFull rfl ⟨rfl, rfl⟩ hd_X1_isFull ⟨Nat.le_of_ble_eq_true rfl, Nat.le_of_ble_eq_true rfl⟩ rfl rfl rfl (Nat.le_of_ble_eq_true rfl) ⟨Nat.zero_le _, Nat.zero_le _⟩ rfl dX5_note_68 (c_X1_isFull I p9 (by omega)) (fun H locs hP hD hS => ?_)
            refine z_ifp_eq (tgt := 77) hx hb dX5_note_71 (by decide) (fun c_6 => ?_) (fun c_6 => ?_)
            · exact absurd c_6 (by omega)
            · refine z_ldc (n := -100004) hx hb hown k_151 (by decide) dX5_note_74 ?_
              exact z_iret X hK hP hD hS dX5_note_76 (by (repeat' split) <;> first | rfl | omega)
          · refine z_ldc (n := -100003) hx hb hown k_147 (by decide) dX5_note_60 ?_
            exact z_iret X hK hP hD hS dX5_note_62 (by (repeat' split) <;> first | rfl | omega)
        · refine z_ldc (n := -100002) hx hb hown k_65 (by decide) dX5_note_45 ?_
          exact z_iret X hK hP hD hS dX5_note_47 (by (repeat' split) <;> first | rfl | omega)
    · refine z_ldc (n := -100002) hx hb hown k_65 (by decide) dX5_note_20 ?_
      exact z_iret X hK hP hD hS dX5_note_22 (by (repeat' split) <;> first | rfl | omega)
  · refine z_ldc (n := -100001) hx hb hown k_76 (by decide) dX5_note_7 ?_
    exact z_iret X hK hP hD hS dX5_note_9 (by (repeat' split) <;> first | rfl | omega)

theorem hd_X5_clashes : yX5_clashes.cls = RX5 ∧ yX5_clashes.cls ≠ "java/lang/invoke/MethodHandle" ∧ yX5_clashes.cls ≠ "java/lang/invoke/VarHandle" ∧ (parseMethodDescriptor yX5_clashes.desc).map (fun d => d.parameters.length) = some 1 := by decide +kernel
set_option maxHeartbeats 4000000 in
set_option maxRecDepth 100000 in
theorem c_X5_clashes (I : okS nK st le be te ab bl ka bg ln ns me sc pi re bk) (p9 : Int) (h : -2147483648 ≤ p9 ∧ p9 ≤ 2147483647) : MI l D cy yX5_clashes wsX5_clashes ({ frames := 4, cells := 0, slots := 0, locals := 89 } : Room) [.ref (q 0), .int (iI p9)] (wT q cy nK st le be te ab bl ka bg ln ns me sc pi re bk pa lz go ss sm pf mf) (if 0 ≤ p9 ∧ p9 ≤ 3 then clN nK st ka bg ln (p9 * 40) (p9 * 40 + ns p9) else (-100001)) (wT q cy nK st le be te ab bl ka bg ln ns me sc pi re bk pa lz go ss sm pf mf) := by
  refine MI.ofW (cc := cX5_clashes) (maxL := 2) (ret := (some .int)) (by decide) rfl (Nat.le_of_ble_eq_true rfl) ?_
  intro p e s m below meth c A ls X hK hP hD hA hS hl
  obtain ⟨hx, hb, hml, hr, hts, hown, hlocks⟩ := id X
  have hl : lv_has ls 2 [(0, .ref (q 0)), (1, .int (iI p9))] := hl
  have f_41 := hts (Cond.fieldLink RX5 41 "TwoKeys" "music" "LTwoKeys$Music;") (by decide +kernel)
  have k_76 := hts (Cond.constant RX5 76 (-100001)) (by decide +kernel)
  have n_X5 : ∀ w ∈ u_ws RX5 TX5 9, w ∈ wsX5_clashes := by decide +kernel
  have iK := I.nK
  refine lv_iload_n hx hb dX5_clashes_0 rfl (lv_at hl 1 rfl) ?_
  refine z_callSi (As := [.int (iI p9)]) (rest := []) X hK hP hD hA hS hl.1 gX5_clashes_X5_isPiece rfl ⟨rfl, rfl⟩ hd_X5_isPiece ⟨Nat.le_of_ble_eq_true rfl, Nat.le_of_ble_eq_true rfl⟩ rfl (Nat.le_of_ble_eq_true rfl) ⟨Nat.zero_le _, Nat.zero_le _⟩ rfl dX5_clashes_1 (c_X5_isPiece p9 (by omega)) (fun H locs hP hD hS => ?_)
  refine z_ifp_ne (tgt := 10) hx hb dX5_clashes_4 (by decide) (fun c_1 => ?_) (fun c_1 => ?_)
  · refine lv_aload_n hx hb dX5_clashes_10 rfl (lv_at hl 0 rfl) ?_
    refine va_get (D := D) (ci := 5) (v := .ref (q 9)) (C := RX5) (T := TX5) (N := 9) hx hb hts n_X5 hown hK hP 0 rfl rfl 2 (by decide) f_41 (fun _ h9 => h9) rfl dX5_clashes_11 ?_
    refine lv_iload_n hx hb dX5_clashes_14 rfl (lv_at hl 1 rfl) ?_
    refine z_callVi (ci := 1) (q0 := 9) (As := [.int (iI p9)]) (rest := []) X hK hP hD hA hS hl.1 gX5_clashes_X1_countClashes rfl ⟨rfl, rfl⟩ hd_X1_countClashes ⟨Nat.le_of_ble_eq_true rfl, Nat.le_of_ble_eq_true rfl⟩ rfl rfl rfl (Nat.le_of_ble_eq_true rfl) ⟨Nat.zero_le _, Nat.zero_le _⟩ rfl dX5_clashes_15 (c_X1_countClashes I p9 (by omega)) (fun H locs hP hD hS => ?_)
    exact z_iret X hK hP hD hS dX5_clashes_18 (by (repeat' split) <;> first | rfl | omega)
  · refine z_ldc (n := -100001) hx hb hown k_76 (by decide) dX5_clashes_7 ?_
    exact z_iret X hK hP hD hS dX5_clashes_9 (by (repeat' split) <;> first | rfl | omega)

theorem hd_X5_measure : yX5_measure.cls = RX5 ∧ yX5_measure.cls ≠ "java/lang/invoke/MethodHandle" ∧ yX5_measure.cls ≠ "java/lang/invoke/VarHandle" ∧ (parseMethodDescriptor yX5_measure.desc).map (fun d => d.parameters.length) = some 2 := by decide +kernel
set_option maxHeartbeats 4000000 in
set_option maxRecDepth 100000 in
theorem c_X5_measure_ok (I : okS nK st le be te ab bl ka bg ln ns me sc pi re bk) (k : Int) (t9 : Int) (h : -2147483648 ≤ k ∧ k ≤ 2147483647 ∧ -2147483648 ≤ t9 ∧ t9 ≤ 2147483647) (hok : (0 ≤ k ∧ k < nK) ∧ (t9 = -100009 ∨ (100 ≤ t9 ∧ t9 ≤ 400000))) : MI l D cy yX5_measure wsX5_measure ({ frames := 1, cells := 0, slots := 0, locals := 22 } : Room) [.ref (q 0), .int (iI k), .int (iI t9)] (wT q cy nK st le be te ab bl ka bg ln ns me sc pi re bk pa lz go ss sm pf mf) (me k) (wT q cy nK st le be te ab bl ka bg ln ns (uZ me k t9) sc pi re bk pa lz go ss sm pf mf) := by
  refine MI.ofW (cc := cX5_measure) (maxL := 4) (ret := (some .int)) (by decide) rfl (Nat.le_of_ble_eq_true rfl) ?_
  intro p e s m below meth c A ls X hK hP hD hA hS hl
  obtain ⟨hx, hb, hml, hr, hts, hown, hlocks⟩ := id X
  have hl : lv_has ls 4 [(0, .ref (q 0)), (1, .int (iI k)), (2, .int (iI t9))] := hl
  have f_25 := hts (Cond.fieldLink RX5 25 "TwoKeys" "board" "LTwoKeys$Board;") (by decide +kernel)
  have k_196 := hts (Cond.constant RX5 196 (-100009)) (by decide +kernel)
  have f_57 := hts (Cond.fieldLink RX5 57 "TwoKeys" "oldOne" "LTwoKeys$OldOne;") (by decide +kernel)
  have f_207 := hts (Cond.fieldLink RX5 207 "TwoKeys$OldOne" "measured" "[I") (by decide +kernel)
  have k_206 := hts (Cond.constant RX5 206 (400000)) (by decide +kernel)
  have n_X2 : ∀ w ∈ u_ws RX2 TX2 5, w ∈ wsX5_measure := by decide +kernel
  have n_X5 : ∀ w ∈ u_ws RX5 TX5 9, w ∈ wsX5_measure := by decide +kernel
  have iK := I.nK
  refine lv_aload_n hx hb dX5_measure_0 rfl (lv_at hl 0 rfl) ?_
  refine va_get (D := D) (ci := 5) (v := .ref (q 1)) (C := RX5) (T := TX5) (N := 9) hx hb hts n_X5 hown hK hP 0 rfl rfl 0 (by decide) f_25 (fun _ h9 => h9) rfl dX5_measure_1 ?_
  refine lv_iload_n hx hb dX5_measure_4 rfl (lv_at hl 1 rfl) ?_
  refine z_callVi (ci := 0) (q0 := 1) (As := [.int (iI k)]) (rest := []) X hK hP hD hA hS hl.1 gX5_measure_X0_has rfl ⟨rfl, rfl⟩ hd_X0_has ⟨Nat.le_of_ble_eq_true rfl, Nat.le_of_ble_eq_true rfl⟩ rfl rfl rfl (Nat.le_of_ble_eq_true rfl) ⟨Nat.zero_le _, Nat.zero_le _⟩ rfl dX5_measure_5 (c_X0_has I k (by omega)) (fun H locs hP hD hS => ?_)
  refine z_ifp_ne (tgt := 14) hx hb dX5_measure_8 (by decide) (fun c_1 => ?_) (fun c_1 => ?_)
  · refine lv_iload_n hx hb dX5_measure_14 rfl (lv_at hl 2 rfl) ?_
    refine z_ldc (n := -100009) hx hb hown k_196 (by decide) dX5_measure_15 ?_
    refine z_icmp_eq (tgt := 34) hx hb dX5_measure_17 (by decide) (by omega) (fun c_2 => ?_) (fun c_2 => ?_)
    · refine lv_aload_n hx hb dX5_measure_34 rfl (lv_at hl 0 rfl) ?_
      refine va_get (D := D) (ci := 5) (v := .ref (q 18)) (C := RX5) (T := TX5) (N := 9) hx hb hts n_X5 hown hK hP 0 rfl rfl 4 (by decide) f_57 (fun _ h9 => h9) rfl dX5_measure_35 ?_
      refine va_get (D := D) (ci := 2) (v := .ref (q 19)) (C := RX2) (T := TX2) (N := 5) hx hb hts n_X2 hown hK hP 18 rfl rfl 2 (by decide) f_207 (fun _ h9 => h9) rfl dX5_measure_38 ?_
      refine lv_iload_n hx hb dX5_measure_41 rfl (lv_at hl 1 rfl) ?_
      refine z_iald hx hb hK hP 19 0 rfl rfl (by omega) dX5_measure_42 ?_
      have b_3 := I.me k
      refine lv_istore_n (lv' := [(3, .int (iI (me k))), (0, .ref (q 0)), (1, .int (iI k)), (2, .int (iI t9))]) hx hb dX5_measure_43 rfl hl (by decide) rfl (fun ls hl => ?_)
      refine lv_aload_n hx hb dX5_measure_44 rfl (lv_at hl 1 rfl) ?_
      refine va_get (D := D) (ci := 5) (v := .ref (q 18)) (C := RX5) (T := TX5) (N := 9) hx hb hts n_X5 hown hK hP 0 rfl rfl 4 (by decide) f_57 (fun _ h9 => h9) rfl dX5_measure_45 ?_
      refine va_get (D := D) (ci := 2) (v := .ref (q 19)) (C := RX2) (T := TX2) (N := 5) hx hb hts n_X2 hown hK hP 18 rfl rfl 2 (by decide) f_207 (fun _ h9 => h9) rfl dX5_measure_48 ?_
      refine lv_iload_n hx hb dX5_measure_51 rfl (lv_at hl 2 rfl) ?_
      refine lv_iload_n hx hb dX5_measure_52 rfl (lv_at hl 3 rfl) ?_
      refine z_iast (v := t9) hx hb hK hP hD hS 19 0 rfl rfl (by omega) dX5_measure_53 (fun H locs hP hD hS => ?_)
      have hP : va_P D vwCl (wT q cy nK st le be te ab bl ka bg ln ns (uZ me k t9) sc pi re bk pa lz go ss sm pf mf) H := hP
      have hD : va_D A (wT q cy nK st le be te ab bl ka bg ln ns (uZ me k t9) sc pi re bk pa lz go ss sm pf mf) := hD
      refine lv_iload_n hx hb dX5_measure_54 rfl (lv_at hl 0 rfl) ?_
      exact z_iret X hK hP hD hS dX5_measure_55 (by first | rfl | omega | grind)
    · refine lv_iload_n hx hb dX5_measure_20 rfl (lv_at hl 2 rfl) ?_
      refine lv_bipush (v := iI (100)) hx hb dX5_measure_21 (by decide) ?_
      refine z_ldc (n := 400000) hx hb hown k_206 (by decide) dX5_measure_23 ?_
      refine z_callSi (As := [.int (iI t9), .int (iI 100), .int (iI 400000)]) (rest := []) X hK hP hD hA hS hl.1 gX5_measure_X5_within rfl ⟨rfl, rfl⟩ hd_X5_within ⟨Nat.le_of_ble_eq_true rfl, Nat.le_of_ble_eq_true rfl⟩ rfl (Nat.le_of_ble_eq_true rfl) ⟨Nat.zero_le _, Nat.zero_le _⟩ rfl dX5_measure_25 (c_X5_within t9 100 400000 (by omega)) (fun H locs hP hD hS => ?_)
      refine z_ifp_ne (tgt := 34) hx hb dX5_measure_28 (by decide) (fun c_4 => ?_) (fun c_4 => ?_)
      · refine lv_aload_n hx hb dX5_measure_34 rfl (lv_at hl 0 rfl) ?_
        refine va_get (D := D) (ci := 5) (v := .ref (q 18)) (C := RX5) (T := TX5) (N := 9) hx hb hts n_X5 hown hK hP 0 rfl rfl 4 (by decide) f_57 (fun _ h9 => h9) rfl dX5_measure_35 ?_
        refine va_get (D := D) (ci := 2) (v := .ref (q 19)) (C := RX2) (T := TX2) (N := 5) hx hb hts n_X2 hown hK hP 18 rfl rfl 2 (by decide) f_207 (fun _ h9 => h9) rfl dX5_measure_38 ?_
        refine lv_iload_n hx hb dX5_measure_41 rfl (lv_at hl 1 rfl) ?_
        refine z_iald hx hb hK hP 19 0 rfl rfl (by omega) dX5_measure_42 ?_
        have b_5 := I.me k
        refine lv_istore_n (lv' := [(3, .int (iI (me k))), (0, .ref (q 0)), (1, .int (iI k)), (2, .int (iI t9))]) hx hb dX5_measure_43 rfl hl (by decide) rfl (fun ls hl => ?_)
        refine lv_aload_n hx hb dX5_measure_44 rfl (lv_at hl 1 rfl) ?_
        refine va_get (D := D) (ci := 5) (v := .ref (q 18)) (C := RX5) (T := TX5) (N := 9) hx hb hts n_X5 hown hK hP 0 rfl rfl 4 (by decide) f_57 (fun _ h9 => h9) rfl dX5_measure_45 ?_
        refine va_get (D := D) (ci := 2) (v := .ref (q 19)) (C := RX2) (T := TX2) (N := 5) hx hb hts n_X2 hown hK hP 18 rfl rfl 2 (by decide) f_207 (fun _ h9 => h9) rfl dX5_measure_48 ?_
        refine lv_iload_n hx hb dX5_measure_51 rfl (lv_at hl 2 rfl) ?_
        refine lv_iload_n hx hb dX5_measure_52 rfl (lv_at hl 3 rfl) ?_
        refine z_iast (v := t9) hx hb hK hP hD hS 19 0 rfl rfl (by omega) dX5_measure_53 (fun H locs hP hD hS => ?_)
        have hP : va_P D vwCl (wT q cy nK st le be te ab bl ka bg ln ns (uZ me k t9) sc pi re bk pa lz go ss sm pf mf) H := hP
        have hD : va_D A (wT q cy nK st le be te ab bl ka bg ln ns (uZ me k t9) sc pi re bk pa lz go ss sm pf mf) := hD
        refine lv_iload_n hx hb dX5_measure_54 rfl (lv_at hl 0 rfl) ?_
        exact z_iret X hK hP hD hS dX5_measure_55 (by first | rfl | omega | grind)
      · exact absurd c_4 (by omega)
  · exact absurd c_1 (by omega)

set_option maxHeartbeats 4000000 in
set_option maxRecDepth 100000 in
theorem c_X5_measure_no (I : okS nK st le be te ab bl ka bg ln ns me sc pi re bk) (k : Int) (t9 : Int) (h : -2147483648 ≤ k ∧ k ≤ 2147483647 ∧ -2147483648 ≤ t9 ∧ t9 ≤ 2147483647) (hno : ¬ ((0 ≤ k ∧ k < nK) ∧ (t9 = -100009 ∨ (100 ≤ t9 ∧ t9 ≤ 400000)))) : MI l D cy yX5_measure wsX5_measure ({ frames := 1, cells := 0, slots := 0, locals := 22 } : Room) [.ref (q 0), .int (iI k), .int (iI t9)] (wT q cy nK st le be te ab bl ka bg ln ns me sc pi re bk pa lz go ss sm pf mf) (if 0 ≤ k ∧ k < nK then (-100002) else (-100001)) (wT q cy nK st le be te ab bl ka bg ln ns me sc pi re bk pa lz go ss sm pf mf) := by
  refine MI.ofW (cc := cX5_measure) (maxL := 4) (ret := (some .int)) (by decide) rfl (Nat.le_of_ble_eq_true rfl) ?_
  intro p e s m below meth c A ls X hK hP hD hA hS hl
  obtain ⟨hx, hb, hml, hr, hts, hown, hlocks⟩ := id X
  have hl : lv_has ls 4 [(0, .ref (q 0)), (1, .int (iI k)), (2, .int (iI t9))] := hl
  have f_25 := hts (Cond.fieldLink RX5 25 "TwoKeys" "board" "LTwoKeys$Board;") (by decide +kernel)
  have k_196 := hts (Cond.constant RX5 196 (-100009)) (by decide +kernel)
  have k_206 := hts (Cond.constant RX5 206 (400000)) (by decide +kernel)
  have k_65 := hts (Cond.constant RX5 65 (-100002)) (by decide +kernel)
  have k_76 := hts (Cond.constant RX5 76 (-100001)) (by decide +kernel)
  have n_X5 : ∀ w ∈ u_ws RX5 TX5 9, w ∈ wsX5_measure := by decide +kernel
  have iK := I.nK
  refine lv_aload_n hx hb dX5_measure_0 rfl (lv_at hl 0 rfl) ?_
  refine va_get (D := D) (ci := 5) (v := .ref (q 1)) (C := RX5) (T := TX5) (N := 9) hx hb hts n_X5 hown hK hP 0 rfl rfl 0 (by decide) f_25 (fun _ h9 => h9) rfl dX5_measure_1 ?_
  refine lv_iload_n hx hb dX5_measure_4 rfl (lv_at hl 1 rfl) ?_
  refine z_callVi (ci := 0) (q0 := 1) (As := [.int (iI k)]) (rest := []) X hK hP hD hA hS hl.1 gX5_measure_X0_has rfl ⟨rfl, rfl⟩ hd_X0_has ⟨Nat.le_of_ble_eq_true rfl, Nat.le_of_ble_eq_true rfl⟩ rfl rfl rfl (Nat.le_of_ble_eq_true rfl) ⟨Nat.zero_le _, Nat.zero_le _⟩ rfl dX5_measure_5 (c_X0_has I k (by omega)) (fun H locs hP hD hS => ?_)
  refine z_ifp_ne (tgt := 14) hx hb dX5_measure_8 (by decide) (fun c_1 => ?_) (fun c_1 => ?_)
  · refine lv_iload_n hx hb dX5_measure_14 rfl (lv_at hl 2 rfl) ?_
    refine z_ldc (n := -100009) hx hb hown k_196 (by decide) dX5_measure_15 ?_
    refine z_icmp_eq (tgt := 34) hx hb dX5_measure_17 (by decide) (by omega) (fun c_2 => ?_) (fun c_2 => ?_)
    · exact absurd c_2 (by omega)
    · refine lv_iload_n hx hb dX5_measure_20 rfl (lv_at hl 2 rfl) ?_
      refine lv_bipush (v := iI (100)) hx hb dX5_measure_21 (by decide) ?_
      refine z_ldc (n := 400000) hx hb hown k_206 (by decide) dX5_measure_23 ?_
      refine z_callSi (As := [.int (iI t9), .int (iI 100), .int (iI 400000)]) (rest := []) X hK hP hD hA hS hl.1 gX5_measure_X5_within rfl ⟨rfl, rfl⟩ hd_X5_within ⟨Nat.le_of_ble_eq_true rfl, Nat.le_of_ble_eq_true rfl⟩ rfl (Nat.le_of_ble_eq_true rfl) ⟨Nat.zero_le _, Nat.zero_le _⟩ rfl dX5_measure_25 (c_X5_within t9 100 400000 (by omega)) (fun H locs hP hD hS => ?_)
      refine z_ifp_ne (tgt := 34) hx hb dX5_measure_28 (by decide) (fun c_3 => ?_) (fun c_3 => ?_)
      · exact absurd c_3 (by omega)
      · refine z_ldc (n := -100002) hx hb hown k_65 (by decide) dX5_measure_31 ?_
        exact z_iret X hK hP hD hS dX5_measure_33 (by (repeat' split) <;> first | rfl | omega)
  · refine z_ldc (n := -100001) hx hb hown k_76 (by decide) dX5_measure_11 ?_
    exact z_iret X hK hP hD hS dX5_measure_13 (by (repeat' split) <;> first | rfl | omega)

theorem hd_X5_passes : yX5_passes.cls = RX5 ∧ yX5_passes.cls ≠ "java/lang/invoke/MethodHandle" ∧ yX5_passes.cls ≠ "java/lang/invoke/VarHandle" ∧ (parseMethodDescriptor yX5_passes.desc).map (fun d => d.parameters.length) = some 1 := by decide +kernel
set_option maxHeartbeats 4000000 in
set_option maxRecDepth 100000 in
theorem c_X5_passes (I : okS nK st le be te ab bl ka bg ln ns me sc pi re bk) (p9 : Int) (h : -2147483648 ≤ p9 ∧ p9 ≤ 2147483647) : MI l D cy yX5_passes wsX5_passes ({ frames := 4, cells := 0, slots := 0, locals := 89 } : Room) [.ref (q 0), .int (iI p9)] (wT q cy nK st le be te ab bl ka bg ln ns me sc pi re bk pa lz go ss sm pf mf) (if 0 ≤ p9 ∧ p9 ≤ 3 then bP ((∀ a, p9 * 40 ≤ a → a < p9 * 40 + ns p9 → ka a < nK) ∧ clN nK st ka bg ln (p9 * 40) (p9 * 40 + ns p9) = 0) else (-100001)) (wT q cy nK st le be te ab bl ka bg ln ns me sc pi re bk pa lz go ss sm pf mf) := by
  refine MI.ofW (cc := cX5_passes) (maxL := 2) (ret := (some .int)) (by decide) rfl (Nat.le_of_ble_eq_true rfl) ?_
  intro p e s m below meth c A ls X hK hP hD hA hS hl
  obtain ⟨hx, hb, hml, hr, hts, hown, hlocks⟩ := id X
  have hl : lv_has ls 2 [(0, .ref (q 0)), (1, .int (iI p9))] := hl
  have f_41 := hts (Cond.fieldLink RX5 41 "TwoKeys" "music" "LTwoKeys$Music;") (by decide +kernel)
  have k_76 := hts (Cond.constant RX5 76 (-100001)) (by decide +kernel)
  have n_X5 : ∀ w ∈ u_ws RX5 TX5 9, w ∈ wsX5_passes := by decide +kernel
  have iK := I.nK
  refine lv_iload_n hx hb dX5_passes_0 rfl (lv_at hl 1 rfl) ?_
  refine z_callSi (As := [.int (iI p9)]) (rest := []) X hK hP hD hA hS hl.1 gX5_passes_X5_isPiece rfl ⟨rfl, rfl⟩ hd_X5_isPiece ⟨Nat.le_of_ble_eq_true rfl, Nat.le_of_ble_eq_true rfl⟩ rfl (Nat.le_of_ble_eq_true rfl) ⟨Nat.zero_le _, Nat.zero_le _⟩ rfl dX5_passes_1 (c_X5_isPiece p9 (by omega)) (fun H locs hP hD hS => ?_)
  refine z_ifp_ne (tgt := 10) hx hb dX5_passes_4 (by decide) (fun c_1 => ?_) (fun c_1 => ?_)
  · refine lv_aload_n hx hb dX5_passes_10 rfl (lv_at hl 0 rfl) ?_
    refine va_get (D := D) (ci := 5) (v := .ref (q 9)) (C := RX5) (T := TX5) (N := 9) hx hb hts n_X5 hown hK hP 0 rfl rfl 2 (by decide) f_41 (fun _ h9 => h9) rfl dX5_passes_11 ?_
    refine lv_iload_n hx hb dX5_passes_14 rfl (lv_at hl 1 rfl) ?_
    refine z_callVi (ci := 1) (q0 := 9) (As := [.int (iI p9)]) (rest := []) X hK hP hD hA hS hl.1 gX5_passes_X1_allKeysThere rfl ⟨rfl, rfl⟩ hd_X1_allKeysThere ⟨Nat.le_of_ble_eq_true rfl, Nat.le_of_ble_eq_true rfl⟩ rfl rfl rfl (Nat.le_of_ble_eq_true rfl) ⟨Nat.zero_le _, Nat.zero_le _⟩ rfl dX5_passes_15 (c_X1_allKeysThere I p9 (by omega)) (fun H locs hP hD hS => ?_)
    refine z_ifp_eq (tgt := 36) hx hb dX5_passes_18 (by decide) (fun c_2 => ?_) (fun c_2 => ?_)
    · refine lv_iconst (v := iI (0)) hx hb dX5_passes_36 rfl ?_
      refine z_callSi (As := [.int (iI 0)]) (rest := []) X hK hP hD hA hS hl.1 gX5_passes_X5_asNumber rfl ⟨rfl, rfl⟩ hd_X5_asNumber ⟨Nat.le_of_ble_eq_true rfl, Nat.le_of_ble_eq_true rfl⟩ rfl (Nat.le_of_ble_eq_true rfl) ⟨Nat.zero_le _, Nat.zero_le _⟩ rfl dX5_passes_37 (c_X5_asNumber 0 (by omega)) (fun H locs hP hD hS => ?_)
      exact z_iret X hK hP hD hS dX5_passes_40 (by rw [if_pos (by omega)]; first | exact (bP_1 ⟨by assumption, by assumption⟩).symm | exact (bP_0 (fun z => absurd z.2 (by assumption))).symm | exact (bP_0 (fun z => absurd z.1 (by assumption))).symm)
    · refine lv_aload_n hx hb dX5_passes_21 rfl (lv_at hl 0 rfl) ?_
      refine va_get (D := D) (ci := 5) (v := .ref (q 9)) (C := RX5) (T := TX5) (N := 9) hx hb hts n_X5 hown hK hP 0 rfl rfl 2 (by decide) f_41 (fun _ h9 => h9) rfl dX5_passes_22 ?_
      refine lv_iload_n hx hb dX5_passes_25 rfl (lv_at hl 1 rfl) ?_
      refine z_callVi (ci := 1) (q0 := 9) (As := [.int (iI p9)]) (rest := []) X hK hP hD hA hS hl.1 gX5_passes_X1_countClashes rfl ⟨rfl, rfl⟩ hd_X1_countClashes ⟨Nat.le_of_ble_eq_true rfl, Nat.le_of_ble_eq_true rfl⟩ rfl rfl rfl (Nat.le_of_ble_eq_true rfl) ⟨Nat.zero_le _, Nat.zero_le _⟩ rfl dX5_passes_26 (c_X1_countClashes I p9 (by omega)) (fun H locs hP hD hS => ?_)
      have b7 := I.ns p9
      have b6 := clN_b (nK := nK) (st := st) (ka := ka) (bg := bg) (ln := ln) (lo := p9 * 40) (hi := p9 * 40 + ns p9) (by omega) (by omega)
      refine z_if_ne (tgt := 36) hx hb dX5_passes_29 (by decide) (by omega) (fun c_3 => ?_) (fun c_3 => ?_)
      · refine lv_iconst (v := iI (0)) hx hb dX5_passes_36 rfl ?_
        refine z_callSi (As := [.int (iI 0)]) (rest := []) X hK hP hD hA hS hl.1 gX5_passes_X5_asNumber rfl ⟨rfl, rfl⟩ hd_X5_asNumber ⟨Nat.le_of_ble_eq_true rfl, Nat.le_of_ble_eq_true rfl⟩ rfl (Nat.le_of_ble_eq_true rfl) ⟨Nat.zero_le _, Nat.zero_le _⟩ rfl dX5_passes_37 (c_X5_asNumber 0 (by omega)) (fun H locs hP hD hS => ?_)
        exact z_iret X hK hP hD hS dX5_passes_40 (by rw [if_pos (by omega)]; first | exact (bP_1 ⟨by assumption, by assumption⟩).symm | exact (bP_0 (fun z => absurd z.2 (by assumption))).symm | exact (bP_0 (fun z => absurd z.1 (by assumption))).symm)
      · refine lv_iconst (v := iI (1)) hx hb dX5_passes_32 rfl ?_
        refine lv_goto (tgt := 37) hx hb dX5_passes_33 (by decide) ?_
        refine z_callSi (As := [.int (iI 1)]) (rest := []) X hK hP hD hA hS hl.1 gX5_passes_X5_asNumber rfl ⟨rfl, rfl⟩ hd_X5_asNumber ⟨Nat.le_of_ble_eq_true rfl, Nat.le_of_ble_eq_true rfl⟩ rfl (Nat.le_of_ble_eq_true rfl) ⟨Nat.zero_le _, Nat.zero_le _⟩ rfl dX5_passes_37 (c_X5_asNumber 1 (by omega)) (fun H locs hP hD hS => ?_)
        exact z_iret X hK hP hD hS dX5_passes_40 (by rw [if_pos (by omega)]; first | exact (bP_1 ⟨by assumption, by assumption⟩).symm | exact (bP_0 (fun z => absurd z.2 (by assumption))).symm | exact (bP_0 (fun z => absurd z.1 (by assumption))).symm)
  · refine z_ldc (n := -100001) hx hb hown k_76 (by decide) dX5_passes_7 ?_
    exact z_iret X hK hP hD hS dX5_passes_9 (by (repeat' split) <;> first | rfl | omega)
end
