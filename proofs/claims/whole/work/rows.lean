section
/-- a private method of a class that the tables say can be made, by its rows of tables_1 -/
def lw_okq (q : MethodName × Nat) : Prop := (q.1.cls ≠ "java/lang/invoke/MethodHandle" ∧ q.1.cls ≠ "java/lang/invoke/VarHandle") ∧ Cond.instantiable q.1.cls q.2 ∈ tables_1 ∧ Cond.privateMethod q.1 ∈ tables_1 ∧ Cond.instanceMethod q.1 ∈ tables_1
theorem lw_p0 : lw_okq (⟨"WrongClocks", "sift", "()V"⟩, 9) := ⟨⟨by decide +kernel, by decide +kernel⟩, List.mem_of_getElem? (i := 17) (by decide +kernel), List.mem_of_getElem? (i := 410) (by decide +kernel), List.mem_of_getElem? (i := 411) (by decide +kernel)⟩
theorem lw_p1 : lw_okq (⟨"WrongClocks", "mostLeftBy", "(LWrongClocks$Clock;)I"⟩, 9) := ⟨⟨by decide +kernel, by decide +kernel⟩, List.mem_of_getElem? (i := 17) (by decide +kernel), List.mem_of_getElem? (i := 443) (by decide +kernel), List.mem_of_getElem? (i := 444) (by decide +kernel)⟩
theorem lw_p2 : lw_okq (⟨"WrongClocks", "canMeet", "(I)Z"⟩, 9) := ⟨⟨by decide +kernel, by decide +kernel⟩, List.mem_of_getElem? (i := 17) (by decide +kernel), List.mem_of_getElem? (i := 481) (by decide +kernel), List.mem_of_getElem? (i := 482) (by decide +kernel)⟩
theorem lw_p3 : lw_okq (⟨"WrongClocksModel", "isText", "()Z"⟩, 26) := ⟨⟨by decide +kernel, by decide +kernel⟩, List.mem_of_getElem? (i := 607) (by decide +kernel), List.mem_of_getElem? (i := 709) (by decide +kernel), List.mem_of_getElem? (i := 710) (by decide +kernel)⟩
theorem lw_p4 : lw_okq (⟨"WrongClocksModel", "isLine", "(I)Z"⟩, 26) := ⟨⟨by decide +kernel, by decide +kernel⟩, List.mem_of_getElem? (i := 607) (by decide +kernel), List.mem_of_getElem? (i := 713) (by decide +kernel), List.mem_of_getElem? (i := 714) (by decide +kernel)⟩
theorem lw_p5 : lw_okq (⟨"WrongClocksModel", "nextToken", "()V"⟩, 26) := ⟨⟨by decide +kernel, by decide +kernel⟩, List.mem_of_getElem? (i := 607) (by decide +kernel), List.mem_of_getElem? (i := 717) (by decide +kernel), List.mem_of_getElem? (i := 718) (by decide +kernel)⟩
theorem lw_p6 : lw_okq (⟨"WrongClocksModel", "isGoing", "(I)Z"⟩, 26) := ⟨⟨by decide +kernel, by decide +kernel⟩, List.mem_of_getElem? (i := 607) (by decide +kernel), List.mem_of_getElem? (i := 733) (by decide +kernel), List.mem_of_getElem? (i := 734) (by decide +kernel)⟩
theorem lw_p7 : lw_okq (⟨"WrongClocksModel", "isNumber", "(III)Z"⟩, 26) := ⟨⟨by decide +kernel, by decide +kernel⟩, List.mem_of_getElem? (i := 607) (by decide +kernel), List.mem_of_getElem? (i := 737) (by decide +kernel), List.mem_of_getElem? (i := 738) (by decide +kernel)⟩
theorem lw_p8 : lw_okq (⟨"WrongClocksModel", "fails", "()Z"⟩, 26) := ⟨⟨by decide +kernel, by decide +kernel⟩, List.mem_of_getElem? (i := 607) (by decide +kernel), List.mem_of_getElem? (i := 741) (by decide +kernel), List.mem_of_getElem? (i := 742) (by decide +kernel)⟩
theorem lw_p9 : lw_okq (⟨"WrongClocksModel", "isStopped", "(I)Z"⟩, 26) := ⟨⟨by decide +kernel, by decide +kernel⟩, List.mem_of_getElem? (i := 607) (by decide +kernel), List.mem_of_getElem? (i := 745) (by decide +kernel), List.mem_of_getElem? (i := 746) (by decide +kernel)⟩
theorem lw_p10 : lw_okq (⟨"WrongClocksModel", "isGone", "(I)Z"⟩, 26) := ⟨⟨by decide +kernel, by decide +kernel⟩, List.mem_of_getElem? (i := 607) (by decide +kernel), List.mem_of_getElem? (i := 749) (by decide +kernel), List.mem_of_getElem? (i := 750) (by decide +kernel)⟩
theorem lw_p11 : lw_okq (⟨"WrongClocksModel", "isNow", "(I)Z"⟩, 26) := ⟨⟨by decide +kernel, by decide +kernel⟩, List.mem_of_getElem? (i := 607) (by decide +kernel), List.mem_of_getElem? (i := 753) (by decide +kernel), List.mem_of_getElem? (i := 754) (by decide +kernel)⟩
theorem lw_p12 : lw_okq (⟨"WrongClocksModel", "doLine", "(I)V"⟩, 26) := ⟨⟨by decide +kernel, by decide +kernel⟩, List.mem_of_getElem? (i := 607) (by decide +kernel), List.mem_of_getElem? (i := 764) (by decide +kernel), List.mem_of_getElem? (i := 765) (by decide +kernel)⟩
theorem lw_p13 : lw_okq (⟨"WrongClocksModel", "isClock", "(I)Z"⟩, 26) := ⟨⟨by decide +kernel, by decide +kernel⟩, List.mem_of_getElem? (i := 607) (by decide +kernel), List.mem_of_getElem? (i := 772) (by decide +kernel), List.mem_of_getElem? (i := 773) (by decide +kernel)⟩
theorem lw_p14 : lw_okq (⟨"WrongClocksModel", "hand", "(III)I"⟩, 26) := ⟨⟨by decide +kernel, by decide +kernel⟩, List.mem_of_getElem? (i := 607) (by decide +kernel), List.mem_of_getElem? (i := 783) (by decide +kernel), List.mem_of_getElem? (i := 784) (by decide +kernel)⟩
theorem lw_p15 : lw_okq (⟨"WrongClocksModel", "canShow", "(III)Z"⟩, 26) := ⟨⟨by decide +kernel, by decide +kernel⟩, List.mem_of_getElem? (i := 607) (by decide +kernel), List.mem_of_getElem? (i := 797) (by decide +kernel), List.mem_of_getElem? (i := 798) (by decide +kernel)⟩
def lw_privs_1 : List (MethodName × Nat) := [(⟨"WrongClocks", "sift", "()V"⟩, 9), (⟨"WrongClocks", "mostLeftBy", "(LWrongClocks$Clock;)I"⟩, 9), (⟨"WrongClocks", "canMeet", "(I)Z"⟩, 9), (⟨"WrongClocksModel", "isText", "()Z"⟩, 26), (⟨"WrongClocksModel", "isLine", "(I)Z"⟩, 26), (⟨"WrongClocksModel", "nextToken", "()V"⟩, 26), (⟨"WrongClocksModel", "isGoing", "(I)Z"⟩, 26), (⟨"WrongClocksModel", "isNumber", "(III)Z"⟩, 26), (⟨"WrongClocksModel", "fails", "()Z"⟩, 26), (⟨"WrongClocksModel", "isStopped", "(I)Z"⟩, 26), (⟨"WrongClocksModel", "isGone", "(I)Z"⟩, 26), (⟨"WrongClocksModel", "isNow", "(I)Z"⟩, 26), (⟨"WrongClocksModel", "doLine", "(I)V"⟩, 26), (⟨"WrongClocksModel", "isClock", "(I)Z"⟩, 26), (⟨"WrongClocksModel", "hand", "(III)I"⟩, 26), (⟨"WrongClocksModel", "canShow", "(III)Z"⟩, 26)]
theorem lw_r1 : ∀ q ∈ lw_privs_1, lw_okq q := List.forall_mem_cons.mpr ⟨lw_p0, List.forall_mem_cons.mpr ⟨lw_p1, List.forall_mem_cons.mpr ⟨lw_p2, List.forall_mem_cons.mpr ⟨lw_p3, List.forall_mem_cons.mpr ⟨lw_p4, List.forall_mem_cons.mpr ⟨lw_p5, List.forall_mem_cons.mpr ⟨lw_p6, List.forall_mem_cons.mpr ⟨lw_p7, List.forall_mem_cons.mpr ⟨lw_p8, List.forall_mem_cons.mpr ⟨lw_p9, List.forall_mem_cons.mpr ⟨lw_p10, List.forall_mem_cons.mpr ⟨lw_p11, List.forall_mem_cons.mpr ⟨lw_p12, List.forall_mem_cons.mpr ⟨lw_p13, List.forall_mem_cons.mpr ⟨lw_p14, List.forall_mem_cons.mpr ⟨lw_p15, fun _ h => absurd h List.not_mem_nil⟩⟩⟩⟩⟩⟩⟩⟩⟩⟩⟩⟩⟩⟩⟩⟩
theorem lw_p16 : lw_okq (⟨"WrongClocksModel", "fitAt", "(I)I"⟩, 26) := ⟨⟨by decide +kernel, by decide +kernel⟩, List.mem_of_getElem? (i := 607) (by decide +kernel), List.mem_of_getElem? (i := 808) (by decide +kernel), List.mem_of_getElem? (i := 809) (by decide +kernel)⟩
theorem lw_p17 : lw_okq (⟨"WrongClocksModel", "layFits", "()V"⟩, 26) := ⟨⟨by decide +kernel, by decide +kernel⟩, List.mem_of_getElem? (i := 607) (by decide +kernel), List.mem_of_getElem? (i := 816) (by decide +kernel), List.mem_of_getElem? (i := 817) (by decide +kernel)⟩
theorem lw_p18 : lw_okq (⟨"WrongClocksModel", "isExact", "(I)Z"⟩, 26) := ⟨⟨by decide +kernel, by decide +kernel⟩, List.mem_of_getElem? (i := 607) (by decide +kernel), List.mem_of_getElem? (i := 831) (by decide +kernel), List.mem_of_getElem? (i := 832) (by decide +kernel)⟩
theorem lw_p19 : lw_okq (⟨"WrongClocksModel", "isNoted", "(II)Z"⟩, 26) := ⟨⟨by decide +kernel, by decide +kernel⟩, List.mem_of_getElem? (i := 607) (by decide +kernel), List.mem_of_getElem? (i := 847) (by decide +kernel), List.mem_of_getElem? (i := 848) (by decide +kernel)⟩
theorem lw_p20 : lw_okq (⟨"WrongClocksModel", "isFirstAgain", "(III)Z"⟩, 26) := ⟨⟨by decide +kernel, by decide +kernel⟩, List.mem_of_getElem? (i := 607) (by decide +kernel), List.mem_of_getElem? (i := 858) (by decide +kernel), List.mem_of_getElem? (i := 859) (by decide +kernel)⟩
theorem lw_p21 : lw_okq (⟨"WrongClocksModel", "isAgain", "(II)Z"⟩, 26) := ⟨⟨by decide +kernel, by decide +kernel⟩, List.mem_of_getElem? (i := 607) (by decide +kernel), List.mem_of_getElem? (i := 865) (by decide +kernel), List.mem_of_getElem? (i := 866) (by decide +kernel)⟩
theorem lw_p22 : lw_okq (⟨"WrongClocksModel", "toWhole", "(II)I"⟩, 26) := ⟨⟨by decide +kernel, by decide +kernel⟩, List.mem_of_getElem? (i := 607) (by decide +kernel), List.mem_of_getElem? (i := 883) (by decide +kernel), List.mem_of_getElem? (i := 884) (by decide +kernel)⟩
theorem lw_p23 : lw_okq (⟨"WrongClocksModel", "take", "()V"⟩, 26) := ⟨⟨by decide +kernel, by decide +kernel⟩, List.mem_of_getElem? (i := 607) (by decide +kernel), List.mem_of_getElem? (i := 892) (by decide +kernel), List.mem_of_getElem? (i := 893) (by decide +kernel)⟩
theorem lw_p24 : lw_okq (⟨"WrongClocksModel", "greatest", "()I"⟩, 26) := ⟨⟨by decide +kernel, by decide +kernel⟩, List.mem_of_getElem? (i := 607) (by decide +kernel), List.mem_of_getElem? (i := 896) (by decide +kernel), List.mem_of_getElem? (i := 897) (by decide +kernel)⟩
theorem lw_p25 : lw_okq (⟨"WrongClocksModel", "nextRow", "()Z"⟩, 26) := ⟨⟨by decide +kernel, by decide +kernel⟩, List.mem_of_getElem? (i := 607) (by decide +kernel), List.mem_of_getElem? (i := 900) (by decide +kernel), List.mem_of_getElem? (i := 901) (by decide +kernel)⟩
def lw_privs_2 : List (MethodName × Nat) := [(⟨"WrongClocksModel", "fitAt", "(I)I"⟩, 26), (⟨"WrongClocksModel", "layFits", "()V"⟩, 26), (⟨"WrongClocksModel", "isExact", "(I)Z"⟩, 26), (⟨"WrongClocksModel", "isNoted", "(II)Z"⟩, 26), (⟨"WrongClocksModel", "isFirstAgain", "(III)Z"⟩, 26), (⟨"WrongClocksModel", "isAgain", "(II)Z"⟩, 26), (⟨"WrongClocksModel", "toWhole", "(II)I"⟩, 26), (⟨"WrongClocksModel", "take", "()V"⟩, 26), (⟨"WrongClocksModel", "greatest", "()I"⟩, 26), (⟨"WrongClocksModel", "nextRow", "()Z"⟩, 26)]
theorem lw_r2 : ∀ q ∈ lw_privs_2, lw_okq q := List.forall_mem_cons.mpr ⟨lw_p16, List.forall_mem_cons.mpr ⟨lw_p17, List.forall_mem_cons.mpr ⟨lw_p18, List.forall_mem_cons.mpr ⟨lw_p19, List.forall_mem_cons.mpr ⟨lw_p20, List.forall_mem_cons.mpr ⟨lw_p21, List.forall_mem_cons.mpr ⟨lw_p22, List.forall_mem_cons.mpr ⟨lw_p23, List.forall_mem_cons.mpr ⟨lw_p24, List.forall_mem_cons.mpr ⟨lw_p25, fun _ h => absurd h List.not_mem_nil⟩⟩⟩⟩⟩⟩⟩⟩⟩⟩
def lw_privs : List (MethodName × Nat) := lw_privs_1 ++ (lw_privs_2)
def lw_tbl : List Cond := k2_sels lw_privs ++ tables_1
theorem lw_privs_ok : ∀ q ∈ lw_privs, lw_okq q := by
  show ∀ q ∈ lw_privs_1 ++ (lw_privs_2), lw_okq q
  exact List.forall_mem_append.mpr ⟨lw_r1, lw_r2⟩
/-! ===== BEGIN words of one list among another's, by their places ===== -/
theorem goodIn_r {big : List Cond} (ws : List Cond) (ps : List Nat) (hp : ws = ps.filterMap (fun i => big[i]?)) (h : ws.all goodWord = true) : GoodIn big ws := by
  intro w hw
  have h1 := List.all_eq_true.mp h w hw
  rw [hp] at hw
  obtain ⟨i, -, hi⟩ := List.mem_filterMap.mp hw
  have hm : w ∈ big := by first | exact List.mem_of_getElem? hi | exact List.getElem?_mem hi
  exact ⟨hm, good_of_word h1⟩
theorem goodIn_app {big a b : List Cond} (ha : GoodIn big a) (hb : GoodIn big b) : GoodIn big (a ++ b) := fun w h => (List.mem_append.mp h).elim (ha w) (hb w)
theorem goodIn_ca {big a b : List Cond} {c : Cond} (ha : GoodIn big (c :: a)) (hb : GoodIn big b) : GoodIn big (c :: (a ++ b)) := fun w h => (List.mem_cons.mp h).elim (fun e => ha w (List.mem_cons.mpr (Or.inl e))) (fun h => (List.mem_append.mp h).elim (fun h => ha w (List.mem_cons.mpr (Or.inr h))) (hb w))
theorem goodIn_sub {big ws : List Cond} (hm : ∀ w ∈ ws, w ∈ big) (h : ws.all goodWord = true) : GoodIn big ws := fun w hw => ⟨hm w hw, good_of_word (List.all_eq_true.mp h w hw)⟩
/-! ===== END ===== -/

/-! ===== BEGIN printed: names, fields, word lists, decode rows ===== -/
def RX0 : String := "WrongClocks$Clock"
def TX0 : u_T := fun k => match k with
  | 0 => ("WrongClocks$Clock", "kind", "I", false)
  | 1 => ("WrongClocks$Clock", "set", "I", false)
  | 2 => ("WrongClocks$Clock", "dial", "I", false)
  | 3 => ("WrongClocks$Clock", "low", "I", false)
  | 4 => ("WrongClocks$Clock", "high", "I", false)
  | _ => ("WrongClocks$Clock", "read", "I", false)
def tyX0 : Nat → FieldType := fun k => match k with
  | 0 => .int
  | 1 => .int
  | 2 => .int
  | 3 => .int
  | 4 => .int
  | _ => .int
abbrev wsX00 : List Cond := u_ws RX0 TX0 6
theorem nmX0 : ∀ a, a < 6 → ∀ b, b < 6 → a ≠ b → (TX0 a).2.1 ≠ (TX0 b).2.1 := by decide +kernel
theorem tyX0_ok : ∀ k, k < 6 → parseFieldDescriptor (TX0 k).2.2.1 = some (tyX0 k) := by decide +kernel
abbrev cX0_init : ByteArray := prog_2_method_1_code
def yX0_init : MethodName := ⟨RX0, "<init>", "()V"⟩
abbrev cX0_tell : ByteArray := prog_2_method_2_code
def yX0_tell : MethodName := ⟨RX0, "tell", "(IIIII)V"⟩
abbrev cX0_copy : ByteArray := prog_2_method_3_code
def yX0_copy : MethodName := ⟨RX0, "copy", "(LWrongClocks$Clock;)V"⟩
abbrev cX0_runsByOneRate : ByteArray := prog_2_method_4_code
def yX0_runsByOneRate : MethodName := ⟨RX0, "runsByOneRate", "()Z"⟩
abbrev cX0_way : ByteArray := prog_2_method_5_code
def yX0_way : MethodName := ⟨RX0, "way", "(II)I"⟩
abbrev cX0_handAt : ByteArray := prog_2_method_6_code
def yX0_handAt : MethodName := ⟨RX0, "handAt", "(II)I"⟩
abbrev cX0_dialAt : ByteArray := prog_2_method_7_code
def yX0_dialAt : MethodName := ⟨RX0, "dialAt", "(II)I"⟩
abbrev cX0_canShow : ByteArray := prog_2_method_8_code
def yX0_canShow : MethodName := ⟨RX0, "canShow", "(II)Z"⟩
abbrev cX0_partsToWholeMinute : ByteArray := prog_2_method_9_code
def yX0_partsToWholeMinute : MethodName := ⟨RX0, "partsToWholeMinute", "(I)I"⟩
def RX1 : String := "WrongClocks$House"
def TX1 : u_T := fun k => match k with
  | 0 => ("WrongClocks$House", "filled", "Z", false)
  | 1 => ("WrongClocks$House", "clocks", "[LWrongClocks$Clock;", true)
  | _ => ("WrongClocks$House", "notes", "LWrongClocks$Notes;", true)
def tyX1 : Nat → FieldType := fun k => match k with
  | 0 => .boolean
  | 1 => .array (.object "WrongClocks$Clock")
  | _ => .object "WrongClocks$Notes"
abbrev wsX10 : List Cond := u_ws RX1 TX1 3
theorem nmX1 : ∀ a, a < 3 → ∀ b, b < 3 → a ≠ b → (TX1 a).2.1 ≠ (TX1 b).2.1 := by decide +kernel
theorem tyX1_ok : ∀ k, k < 3 → parseFieldDescriptor (TX1 k).2.2.1 = some (tyX1 k) := by decide +kernel
abbrev cX1_init : ByteArray := prog_3_method_1_code
def yX1_init : MethodName := ⟨RX1, "<init>", "()V"⟩
abbrev cX1_copy : ByteArray := prog_3_method_2_code
def yX1_copy : MethodName := ⟨RX1, "copy", "(LWrongClocks$House;)V"⟩
abbrev cX1_toldClock : ByteArray := prog_3_method_3_code
def yX1_toldClock : MethodName := ⟨RX1, "toldClock", "(I)LWrongClocks$Clock;"⟩
abbrev cX1_toldBits : ByteArray := prog_3_method_4_code
def yX1_toldBits : MethodName := ⟨RX1, "toldBits", "()I"⟩
abbrev cX1_readBits : ByteArray := prog_3_method_5_code
def yX1_readBits : MethodName := ⟨RX1, "readBits", "()I"⟩
abbrev cX1_misfitsAt : ByteArray := prog_3_method_6_code
def yX1_misfitsAt : MethodName := ⟨RX1, "misfitsAt", "(I)I"⟩
abbrev cX1_heed : ByteArray := prog_3_method_7_code
def yX1_heed : MethodName := ⟨RX1, "heed", "(LWrongClocks$Text;I)V"⟩
abbrev cX1_readNone : ByteArray := prog_3_method_8_code
def yX1_readNone : MethodName := ⟨RX1, "readNone", "()V"⟩
def RX2 : String := "WrongClocks$Notes"
def TX2 : u_T := fun k => match k with
  | 0 => ("WrongClocks$Notes", "many", "I", false)
  | 1 => ("WrongClocks$Notes", "clocks", "[I", true)
  | 2 => ("WrongClocks$Notes", "minutes", "[I", true)
  | _ => ("WrongClocks$Notes", "dials", "[I", true)
def tyX2 : Nat → FieldType := fun k => match k with
  | 0 => .int
  | 1 => .array .int
  | 2 => .array .int
  | _ => .array .int
abbrev wsX20 : List Cond := u_ws RX2 TX2 4
theorem nmX2 : ∀ a, a < 4 → ∀ b, b < 4 → a ≠ b → (TX2 a).2.1 ≠ (TX2 b).2.1 := by decide +kernel
theorem tyX2_ok : ∀ k, k < 4 → parseFieldDescriptor (TX2 k).2.2.1 = some (tyX2 k) := by decide +kernel
abbrev cX2_init : ByteArray := prog_4_method_1_code
def yX2_init : MethodName := ⟨RX2, "<init>", "()V"⟩
abbrev cX2_add : ByteArray := prog_4_method_2_code
def yX2_add : MethodName := ⟨RX2, "add", "(III)Z"⟩
abbrev cX2_copy : ByteArray := prog_4_method_3_code
def yX2_copy : MethodName := ⟨RX2, "copy", "(LWrongClocks$Notes;)V"⟩
abbrev cX2_allow : ByteArray := prog_4_method_4_code
def yX2_allow : MethodName := ⟨RX2, "allow", "(ILWrongClocks$Clock;I)Z"⟩
def RX3 : String := "WrongClocks$Queue"
def TX3 : u_T := fun k => match k with
  | 0 => ("WrongClocks$Queue", "many", "I", false)
  | 1 => ("WrongClocks$Queue", "clocks", "[I", true)
  | 2 => ("WrongClocks$Queue", "rates", "[I", true)
  | _ => ("WrongClocks$Queue", "least", "[I", true)
def tyX3 : Nat → FieldType := fun k => match k with
  | 0 => .int
  | 1 => .array .int
  | 2 => .array .int
  | _ => .array .int
abbrev wsX30 : List Cond := u_ws RX3 TX3 4
theorem nmX3 : ∀ a, a < 4 → ∀ b, b < 4 → a ≠ b → (TX3 a).2.1 ≠ (TX3 b).2.1 := by decide +kernel
theorem tyX3_ok : ∀ k, k < 4 → parseFieldDescriptor (TX3 k).2.2.1 = some (tyX3 k) := by decide +kernel
abbrev cX3_init : ByteArray := prog_5_method_1_code
def yX3_init : MethodName := ⟨RX3, "<init>", "()V"⟩
abbrev cX3_clear : ByteArray := prog_5_method_2_code
def yX3_clear : MethodName := ⟨RX3, "clear", "()V"⟩
abbrev cX3_add : ByteArray := prog_5_method_3_code
def yX3_add : MethodName := ⟨RX3, "add", "(II)V"⟩
abbrev cX3_weigh : ByteArray := prog_5_method_4_code
def yX3_weigh : MethodName := ⟨RX3, "weigh", "()V"⟩
abbrev cX3_errorBehind : ByteArray := prog_5_method_5_code
def yX3_errorBehind : MethodName := ⟨RX3, "errorBehind", "(I)I"⟩
abbrev cX3_leastBehind : ByteArray := prog_5_method_6_code
def yX3_leastBehind : MethodName := ⟨RX3, "leastBehind", "(I)I"⟩
abbrev cX3_leastError : ByteArray := prog_5_method_7_code
def yX3_leastError : MethodName := ⟨RX3, "leastError", "()I"⟩
abbrev cX3_clockAt : ByteArray := prog_5_method_8_code
def yX3_clockAt : MethodName := ⟨RX3, "clockAt", "(I)I"⟩
abbrev cX3_firstBehind : ByteArray := prog_5_method_9_code
def yX3_firstBehind : MethodName := ⟨RX3, "firstBehind", "(I)I"⟩
def RX4 : String := "WrongClocks$Tally"
def TX4 : u_T := fun k => match k with
  | 0 => ("WrongClocks$Tally", "many", "I", false)
  | 1 => ("WrongClocks$Tally", "first", "I", false)
  | 2 => ("WrongClocks$Tally", "last", "I", false)
  | _ => ("WrongClocks$Tally", "runs", "I", false)
def tyX4 : Nat → FieldType := fun k => match k with
  | 0 => .int
  | 1 => .int
  | 2 => .int
  | _ => .int
abbrev wsX40 : List Cond := u_ws RX4 TX4 4
theorem nmX4 : ∀ a, a < 4 → ∀ b, b < 4 → a ≠ b → (TX4 a).2.1 ≠ (TX4 b).2.1 := by decide +kernel
theorem tyX4_ok : ∀ k, k < 4 → parseFieldDescriptor (TX4 k).2.2.1 = some (tyX4 k) := by decide +kernel
abbrev cX4_init : ByteArray := prog_6_method_1_code
def yX4_init : MethodName := ⟨RX4, "<init>", "()V"⟩
abbrev cX4_clear : ByteArray := prog_6_method_2_code
def yX4_clear : MethodName := ⟨RX4, "clear", "()V"⟩
abbrev cX4_add : ByteArray := prog_6_method_3_code
def yX4_add : MethodName := ⟨RX4, "add", "(I)V"⟩
abbrev cX4_tell : ByteArray := prog_6_method_4_code
def yX4_tell : MethodName := ⟨RX4, "tell", "(I)I"⟩
def RX5 : String := "WrongClocks$Text"
def TX5 : u_T := fun k => match k with
  | 0 => ("WrongClocks$Text", "bytes", "[I", true)
  | 1 => ("WrongClocks$Text", "length", "I", false)
  | 2 => ("WrongClocks$Text", "rows", "[I", true)
  | 3 => ("WrongClocks$Text", "lineCount", "I", false)
  | 4 => ("WrongClocks$Text", "start", "I", false)
  | _ => ("WrongClocks$Text", "end", "I", false)
def tyX5 : Nat → FieldType := fun k => match k with
  | 0 => .array .int
  | 1 => .int
  | 2 => .array .int
  | 3 => .int
  | 4 => .int
  | _ => .int
abbrev wsX50 : List Cond := u_ws RX5 TX5 6
theorem nmX5 : ∀ a, a < 6 → ∀ b, b < 6 → a ≠ b → (TX5 a).2.1 ≠ (TX5 b).2.1 := by decide +kernel
theorem tyX5_ok : ∀ k, k < 6 → parseFieldDescriptor (TX5 k).2.2.1 = some (tyX5 k) := by decide +kernel
abbrev cX5_init : ByteArray := prog_7_method_1_code
def yX5_init : MethodName := ⟨RX5, "<init>", "()V"⟩
abbrev cX5_put : ByteArray := prog_7_method_2_code
def yX5_put : MethodName := ⟨RX5, "put", "(I)V"⟩
abbrev cX5_number : ByteArray := prog_7_method_3_code
def yX5_number : MethodName := ⟨RX5, "number", "(II)I"⟩
abbrev cX5_findFault : ByteArray := prog_7_method_4_code
def yX5_findFault : MethodName := ⟨RX5, "findFault", "(I)I"⟩
abbrev cX5_takeLine : ByteArray := prog_7_method_5_code
def yX5_takeLine : MethodName := ⟨RX5, "takeLine", "(II)Z"⟩
abbrev cX5_knownBehind : ByteArray := prog_7_method_6_code
def yX5_knownBehind : MethodName := ⟨RX5, "knownBehind", "(II)I"⟩
abbrev cX5_takeToken : ByteArray := prog_7_method_7_code
def yX5_takeToken : MethodName := ⟨RX5, "takeToken", "()V"⟩
abbrev cX5_signAt : ByteArray := prog_7_method_8_code
def yX5_signAt : MethodName := ⟨RX5, "signAt", "(I)I"⟩
abbrev cX5_wordTaken : ByteArray := prog_7_method_9_code
def yX5_wordTaken : MethodName := ⟨RX5, "wordTaken", "()I"⟩
abbrev cX5_isTaken : ByteArray := prog_7_method_10_code
def yX5_isTaken : MethodName := ⟨RX5, "isTaken", "(Ljava/lang/String;)Z"⟩
abbrev cX5_numberTaken : ByteArray := prog_7_method_11_code
def yX5_numberTaken : MethodName := ⟨RX5, "numberTaken", "()I"⟩
abbrev cX5_isLetter : ByteArray := prog_7_method_12_code
def yX5_isLetter : MethodName := ⟨RX5, "isLetter", "(I)Z"⟩
abbrev cX5_isDigit : ByteArray := prog_7_method_13_code
def yX5_isDigit : MethodName := ⟨RX5, "isDigit", "(I)Z"⟩
abbrev cX5_wordOf : ByteArray := prog_7_method_14_code
def yX5_wordOf : MethodName := ⟨RX5, "wordOf", "(I)Ljava/lang/String;"⟩
abbrev cX5_numbersOf : ByteArray := prog_7_method_15_code
def yX5_numbersOf : MethodName := ⟨RX5, "numbersOf", "(I)Ljava/lang/String;"⟩
abbrev cX5_mostOf : ByteArray := prog_7_method_16_code
def yX5_mostOf : MethodName := ⟨RX5, "mostOf", "(C)I"⟩
def RX6 : String := "WrongClocks"
def TX6 : u_T := fun k => match k with
  | 0 => ("WrongClocks", "text", "LWrongClocks$Text;", true)
  | 1 => ("WrongClocks", "present", "LWrongClocks$House;", true)
  | 2 => ("WrongClocks", "kept", "[LWrongClocks$House;", true)
  | 3 => ("WrongClocks", "tally", "LWrongClocks$Tally;", true)
  | 4 => ("WrongClocks", "trial", "LWrongClocks$Clock;", true)
  | 5 => ("WrongClocks", "queue", "LWrongClocks$Queue;", true)
  | 6 => ("WrongClocks", "misfits", "[I", true)
  | 7 => ("WrongClocks", "sifted", "Z", false)
  | _ => ("WrongClocks", "shown", "[I", true)
def tyX6 : Nat → FieldType := fun k => match k with
  | 0 => .object "WrongClocks$Text"
  | 1 => .object "WrongClocks$House"
  | 2 => .array (.object "WrongClocks$House")
  | 3 => .object "WrongClocks$Tally"
  | 4 => .object "WrongClocks$Clock"
  | 5 => .object "WrongClocks$Queue"
  | 6 => .array .int
  | 7 => .boolean
  | _ => .array .int
abbrev wsX60 : List Cond := u_ws RX6 TX6 9
theorem nmX6 : ∀ a, a < 9 → ∀ b, b < 9 → a ≠ b → (TX6 a).2.1 ≠ (TX6 b).2.1 := by decide +kernel
theorem tyX6_ok : ∀ k, k < 9 → parseFieldDescriptor (TX6 k).2.2.1 = some (tyX6 k) := by decide +kernel
abbrev cX6_init : ByteArray := prog_1_method_1_code
def yX6_init : MethodName := ⟨RX6, "<init>", "()V"⟩
abbrev cX6_write : ByteArray := prog_1_method_2_code
def yX6_write : MethodName := ⟨RX6, "write", "(JI)I"⟩
abbrev cX6_erase : ByteArray := prog_1_method_3_code
def yX6_erase : MethodName := ⟨RX6, "erase", "()I"⟩
abbrev cX6_fault : ByteArray := prog_1_method_4_code
def yX6_fault : MethodName := ⟨RX6, "fault", "()I"⟩
abbrev cX6_house : ByteArray := prog_1_method_5_code
def yX6_house : MethodName := ⟨RX6, "house", "()I"⟩
abbrev cX6_clock : ByteArray := prog_1_method_6_code
def yX6_clock : MethodName := ⟨RX6, "clock", "(II)I"⟩
abbrev cX6_shows : ByteArray := prog_1_method_7_code
def yX6_shows : MethodName := ⟨RX6, "shows", "(III)I"⟩
abbrev cX6_can : ByteArray := prog_1_method_8_code
def yX6_can : MethodName := ⟨RX6, "can", "(III)I"⟩
abbrev cX6_fits : ByteArray := prog_1_method_9_code
def yX6_fits : MethodName := ⟨RX6, "fits", "(I)I"⟩
abbrev cX6_times : ByteArray := prog_1_method_10_code
def yX6_times : MethodName := ⟨RX6, "times", "(I)I"⟩
abbrev cX6_liars : ByteArray := prog_1_method_11_code
def yX6_liars : MethodName := ⟨RX6, "liars", "(I)I"⟩
abbrev cX6_next : ByteArray := prog_1_method_12_code
def yX6_next : MethodName := ⟨RX6, "next", "(I)I"⟩
abbrev cX6_sift : ByteArray := prog_1_method_13_code
def yX6_sift : MethodName := ⟨RX6, "sift", "()V"⟩
abbrev cX6_isLess : ByteArray := prog_1_method_14_code
def yX6_isLess : MethodName := ⟨RX6, "isLess", "(II)Z"⟩
abbrev cX6_mostLeftBy : ByteArray := prog_1_method_15_code
def yX6_mostLeftBy : MethodName := ⟨RX6, "mostLeftBy", "(LWrongClocks$Clock;)I"⟩
abbrev cX6_note : ByteArray := prog_1_method_16_code
def yX6_note : MethodName := ⟨RX6, "note", "(III)I"⟩
abbrev cX6_burn : ByteArray := prog_1_method_17_code
def yX6_burn : MethodName := ⟨RX6, "burn", "()I"⟩
abbrev cX6_rates : ByteArray := prog_1_method_18_code
def yX6_rates : MethodName := ⟨RX6, "rates", "(II)I"⟩
abbrev cX6_again : ByteArray := prog_1_method_19_code
def yX6_again : MethodName := ⟨RX6, "again", "(II)I"⟩
abbrev cX6_canMeet : ByteArray := prog_1_method_20_code
def yX6_canMeet : MethodName := ⟨RX6, "canMeet", "(I)Z"⟩
abbrev cX6_leastFactor : ByteArray := prog_1_method_21_code
def yX6_leastFactor : MethodName := ⟨RX6, "leastFactor", "(JJ)J"⟩
abbrev cX6_sharedWithRound : ByteArray := prog_1_method_22_code
def yX6_sharedWithRound : MethodName := ⟨RX6, "sharedWithRound", "(J)J"⟩
abbrev cX6_inverse : ByteArray := prog_1_method_23_code
def yX6_inverse : MethodName := ⟨RX6, "inverse", "(JJ)J"⟩
abbrev cX6_commonDivisor : ByteArray := prog_1_method_24_code
def yX6_commonDivisor : MethodName := ⟨RX6, "commonDivisor", "(JJ)J"⟩
abbrev cX6_stopped : ByteArray := prog_1_method_25_code
def yX6_stopped : MethodName := ⟨RX6, "stopped", "(III)I"⟩
abbrev cX6_setBy : ByteArray := prog_1_method_26_code
def yX6_setBy : MethodName := ⟨RX6, "setBy", "(IIII)I"⟩
abbrev cX6_egg : ByteArray := prog_1_method_27_code
def yX6_egg : MethodName := ⟨RX6, "egg", "(IIIII)J"⟩
abbrev cX6_leastOff : ByteArray := prog_1_method_28_code
def yX6_leastOff : MethodName := ⟨RX6, "leastOff", "(LWrongClocks$Clock;LWrongClocks$Clock;IJ)J"⟩
abbrev cX6_order : ByteArray := prog_1_method_29_code
def yX6_order : MethodName := ⟨RX6, "order", "(I)I"⟩
abbrev cX6_keep : ByteArray := prog_1_method_30_code
def yX6_keep : MethodName := ⟨RX6, "keep", "(I)I"⟩
abbrev cX6_back : ByteArray := prog_1_method_31_code
def yX6_back : MethodName := ⟨RX6, "back", "(I)I"⟩
abbrev cX6_count : ByteArray := prog_1_method_32_code
def yX6_count : MethodName := ⟨RX6, "count", "(I)I"⟩
abbrev cX6_isBelow : ByteArray := prog_1_method_33_code
def yX6_isBelow : MethodName := ⟨RX6, "isBelow", "(II)Z"⟩
def RX7 : String := "WrongClocksModel"
def TX7 : u_T := fun k => match k with
  | 0 => ("WrongClocksModel", "told", "I", false)
  | 1 => ("WrongClocksModel", "isRead1", "I", false)
  | 2 => ("WrongClocksModel", "clock", "[I", true)
  | 3 => ("WrongClocksModel", "note", "[I", true)
  | 4 => ("WrongClocksModel", "noted", "I", false)
  | 5 => ("WrongClocksModel", "bytes", "I", false)
  | 6 => ("WrongClocksModel", "text", "[I", true)
  | 7 => ("WrongClocksModel", "position", "I", false)
  | 8 => ("WrongClocksModel", "tokenAt", "I", false)
  | 9 => ("WrongClocksModel", "token", "J", false)
  | 10 => ("WrongClocksModel", "digits", "I", false)
  | 11 => ("WrongClocksModel", "number", "I", false)
  | 12 => ("WrongClocksModel", "faultAt", "I", false)
  | 13 => ("WrongClocksModel", "readMany", "I", false)
  | 14 => ("WrongClocksModel", "readTold", "I", false)
  | 15 => ("WrongClocksModel", "read", "[I", true)
  | 16 => ("WrongClocksModel", "fit", "[I", true)
  | 17 => ("WrongClocksModel", "shown", "[I", true)
  | 18 => ("WrongClocksModel", "image", "[I", true)
  | 19 => ("WrongClocksModel", "isKept", "[Z", true)
  | 20 => ("WrongClocksModel", "row", "[I", true)
  | 21 => ("WrongClocksModel", "best", "[I", true)
  | 22 => ("WrongClocksModel", "againAt", "I", false)
  | 23 => ("WrongClocksModel", "againStep", "I", false)
  | 24 => ("WrongClocksModel", "orderMany", "I", false)
  | _ => ("WrongClocksModel", "orderLeast", "I", false)
def tyX7 : Nat → FieldType := fun k => match k with
  | 0 => .int
  | 1 => .int
  | 2 => .array .int
  | 3 => .array .int
  | 4 => .int
  | 5 => .int
  | 6 => .array .int
  | 7 => .int
  | 8 => .int
  | 9 => .long
  | 10 => .int
  | 11 => .int
  | 12 => .int
  | 13 => .int
  | 14 => .int
  | 15 => .array .int
  | 16 => .array .int
  | 17 => .array .int
  | 18 => .array .int
  | 19 => .array .boolean
  | 20 => .array .int
  | 21 => .array .int
  | 22 => .int
  | 23 => .int
  | 24 => .int
  | _ => .int
abbrev wsX70 : List Cond := u_ws RX7 TX7 26
theorem nmX7 : ∀ a, a < 26 → ∀ b, b < 26 → a ≠ b → (TX7 a).2.1 ≠ (TX7 b).2.1 := by decide +kernel
theorem tyX7_ok : ∀ k, k < 26 → parseFieldDescriptor (TX7 k).2.2.1 = some (tyX7 k) := by decide +kernel
abbrev cX7_init : ByteArray := prog_9_method_1_code
def yX7_init : MethodName := ⟨RX7, "<init>", "()V"⟩
abbrev cX7_in : ByteArray := prog_9_method_2_code
def yX7_in : MethodName := ⟨RX7, "in", "(III)Z"⟩
abbrev cX7_has : ByteArray := prog_9_method_3_code
def yX7_has : MethodName := ⟨RX7, "has", "(II)Z"⟩
abbrev cX7_bits : ByteArray := prog_9_method_4_code
def yX7_bits : MethodName := ⟨RX7, "bits", "(I)I"⟩
abbrev cX7_isClock : ByteArray := prog_9_method_5_code
def yX7_isClock : MethodName := ⟨RX7, "isClock", "(I)Z"⟩
abbrev cX7_write : ByteArray := prog_9_method_6_code
def yX7_write : MethodName := ⟨RX7, "write", "(JI)I"⟩
abbrev cX7_erase : ByteArray := prog_9_method_7_code
def yX7_erase : MethodName := ⟨RX7, "erase", "()I"⟩
abbrev cX7_nextToken : ByteArray := prog_9_method_8_code
def yX7_nextToken : MethodName := ⟨RX7, "nextToken", "()V"⟩
abbrev cX7_fails : ByteArray := prog_9_method_9_code
def yX7_fails : MethodName := ⟨RX7, "fails", "()Z"⟩
abbrev cX7_isNumber : ByteArray := prog_9_method_10_code
def yX7_isNumber : MethodName := ⟨RX7, "isNumber", "(III)Z"⟩
abbrev cX7_isGoing : ByteArray := prog_9_method_11_code
def yX7_isGoing : MethodName := ⟨RX7, "isGoing", "(I)Z"⟩
abbrev cX7_isStopped : ByteArray := prog_9_method_12_code
def yX7_isStopped : MethodName := ⟨RX7, "isStopped", "(I)Z"⟩
abbrev cX7_isNow : ByteArray := prog_9_method_13_code
def yX7_isNow : MethodName := ⟨RX7, "isNow", "(I)Z"⟩
abbrev cX7_isGone : ByteArray := prog_9_method_14_code
def yX7_isGone : MethodName := ⟨RX7, "isGone", "(I)Z"⟩
abbrev cX7_isLine : ByteArray := prog_9_method_15_code
def yX7_isLine : MethodName := ⟨RX7, "isLine", "(I)Z"⟩
abbrev cX7_isText : ByteArray := prog_9_method_16_code
def yX7_isText : MethodName := ⟨RX7, "isText", "()Z"⟩
abbrev cX7_fault : ByteArray := prog_9_method_17_code
def yX7_fault : MethodName := ⟨RX7, "fault", "()I"⟩
abbrev cX7_doLine : ByteArray := prog_9_method_18_code
def yX7_doLine : MethodName := ⟨RX7, "doLine", "(I)V"⟩
abbrev cX7_house : ByteArray := prog_9_method_19_code
def yX7_house : MethodName := ⟨RX7, "house", "()I"⟩
abbrev cX7_clock : ByteArray := prog_9_method_20_code
def yX7_clock : MethodName := ⟨RX7, "clock", "(II)I"⟩
abbrev cX7_rest : ByteArray := prog_9_method_21_code
def yX7_rest : MethodName := ⟨RX7, "rest", "(II)I"⟩
abbrev cX7_down : ByteArray := prog_9_method_22_code
def yX7_down : MethodName := ⟨RX7, "down", "(II)I"⟩
abbrev cX7_hand : ByteArray := prog_9_method_23_code
def yX7_hand : MethodName := ⟨RX7, "hand", "(III)I"⟩
abbrev cX7_isMinute : ByteArray := prog_9_method_24_code
def yX7_isMinute : MethodName := ⟨RX7, "isMinute", "(I)Z"⟩
abbrev cX7_shows : ByteArray := prog_9_method_25_code
def yX7_shows : MethodName := ⟨RX7, "shows", "(III)I"⟩
abbrev cX7_isBetween : ByteArray := prog_9_method_26_code
def yX7_isBetween : MethodName := ⟨RX7, "isBetween", "(III)Z"⟩
abbrev cX7_canShow : ByteArray := prog_9_method_27_code
def yX7_canShow : MethodName := ⟨RX7, "canShow", "(III)Z"⟩
abbrev cX7_can : ByteArray := prog_9_method_28_code
def yX7_can : MethodName := ⟨RX7, "can", "(III)I"⟩
abbrev cX7_fitAt : ByteArray := prog_9_method_29_code
def yX7_fitAt : MethodName := ⟨RX7, "fitAt", "(I)I"⟩
abbrev cX7_fits : ByteArray := prog_9_method_30_code
def yX7_fits : MethodName := ⟨RX7, "fits", "(I)I"⟩
abbrev cX7_layFits : ByteArray := prog_9_method_31_code
def yX7_layFits : MethodName := ⟨RX7, "layFits", "()V"⟩
abbrev cX7_times : ByteArray := prog_9_method_32_code
def yX7_times : MethodName := ⟨RX7, "times", "(I)I"⟩
abbrev cX7_liars : ByteArray := prog_9_method_33_code
def yX7_liars : MethodName := ⟨RX7, "liars", "(I)I"⟩
abbrev cX7_isExact : ByteArray := prog_9_method_34_code
def yX7_isExact : MethodName := ⟨RX7, "isExact", "(I)Z"⟩
abbrev cX7_next : ByteArray := prog_9_method_35_code
def yX7_next : MethodName := ⟨RX7, "next", "(I)I"⟩
abbrev cX7_note : ByteArray := prog_9_method_36_code
def yX7_note : MethodName := ⟨RX7, "note", "(III)I"⟩
abbrev cX7_burn : ByteArray := prog_9_method_37_code
def yX7_burn : MethodName := ⟨RX7, "burn", "()I"⟩
abbrev cX7_isNoted : ByteArray := prog_9_method_38_code
def yX7_isNoted : MethodName := ⟨RX7, "isNoted", "(II)Z"⟩
abbrev cX7_rates : ByteArray := prog_9_method_39_code
def yX7_rates : MethodName := ⟨RX7, "rates", "(II)I"⟩
abbrev cX7_common : ByteArray := prog_9_method_40_code
def yX7_common : MethodName := ⟨RX7, "common", "(II)I"⟩
abbrev cX7_isAgain : ByteArray := prog_9_method_41_code
def yX7_isAgain : MethodName := ⟨RX7, "isAgain", "(II)Z"⟩
abbrev cX7_isFirstAgain : ByteArray := prog_9_method_42_code
def yX7_isFirstAgain : MethodName := ⟨RX7, "isFirstAgain", "(III)Z"⟩
abbrev cX7_again : ByteArray := prog_9_method_43_code
def yX7_again : MethodName := ⟨RX7, "again", "(II)I"⟩
abbrev cX7_stopped : ByteArray := prog_9_method_44_code
def yX7_stopped : MethodName := ⟨RX7, "stopped", "(III)I"⟩
abbrev cX7_setBy : ByteArray := prog_9_method_45_code
def yX7_setBy : MethodName := ⟨RX7, "setBy", "(IIII)I"⟩
abbrev cX7_toWhole : ByteArray := prog_9_method_46_code
def yX7_toWhole : MethodName := ⟨RX7, "toWhole", "(II)I"⟩
abbrev cX7_egg : ByteArray := prog_9_method_47_code
def yX7_egg : MethodName := ⟨RX7, "egg", "(IIIII)J"⟩
abbrev cX7_greatest : ByteArray := prog_9_method_48_code
def yX7_greatest : MethodName := ⟨RX7, "greatest", "()I"⟩
abbrev cX7_take : ByteArray := prog_9_method_49_code
def yX7_take : MethodName := ⟨RX7, "take", "()V"⟩
abbrev cX7_nextRow : ByteArray := prog_9_method_50_code
def yX7_nextRow : MethodName := ⟨RX7, "nextRow", "()Z"⟩
abbrev cX7_order : ByteArray := prog_9_method_51_code
def yX7_order : MethodName := ⟨RX7, "order", "(I)I"⟩
abbrev cX7_keep : ByteArray := prog_9_method_52_code
def yX7_keep : MethodName := ⟨RX7, "keep", "(I)I"⟩
abbrev cX7_back : ByteArray := prog_9_method_53_code
def yX7_back : MethodName := ⟨RX7, "back", "(I)I"⟩
abbrev cX7_count : ByteArray := prog_9_method_54_code
def yX7_count : MethodName := ⟨RX7, "count", "(I)I"⟩
def RJx145de : String := "java/io/Serializable"
def TJx145de : u_T := fun k => match k with
  | _ => ("", "", "", false)
def tyJx145de : Nat → FieldType := fun k => match k with
  | _ => .int
abbrev wsJx145de0 : List Cond := u_ws RJx145de TJx145de 0
theorem nmJx145de : ∀ a, a < 0 → ∀ b, b < 0 → a ≠ b → (TJx145de a).2.1 ≠ (TJx145de b).2.1 := by decide +kernel
theorem tyJx145de_ok : ∀ k, k < 0 → parseFieldDescriptor (TJx145de k).2.2.1 = some (tyJx145de k) := by decide +kernel
def RJx9f9b0 : String := "java/lang/CharSequence"
def TJx9f9b0 : u_T := fun k => match k with
  | _ => ("", "", "", false)
def tyJx9f9b0 : Nat → FieldType := fun k => match k with
  | _ => .int
abbrev wsJx9f9b00 : List Cond := u_ws RJx9f9b0 TJx9f9b0 0
theorem nmJx9f9b0 : ∀ a, a < 0 → ∀ b, b < 0 → a ≠ b → (TJx9f9b0 a).2.1 ≠ (TJx9f9b0 b).2.1 := by decide +kernel
theorem tyJx9f9b0_ok : ∀ k, k < 0 → parseFieldDescriptor (TJx9f9b0 k).2.2.1 = some (tyJx9f9b0 k) := by decide +kernel
def RJxb160c : String := "java/lang/Comparable"
def TJxb160c : u_T := fun k => match k with
  | _ => ("", "", "", false)
def tyJxb160c : Nat → FieldType := fun k => match k with
  | _ => .int
abbrev wsJxb160c0 : List Cond := u_ws RJxb160c TJxb160c 0
theorem nmJxb160c : ∀ a, a < 0 → ∀ b, b < 0 → a ≠ b → (TJxb160c a).2.1 ≠ (TJxb160c b).2.1 := by decide +kernel
theorem tyJxb160c_ok : ∀ k, k < 0 → parseFieldDescriptor (TJxb160c k).2.2.1 = some (tyJxb160c k) := by decide +kernel
def RJ6 : String := "java/lang/Integer"
def TJ6 : u_T := fun k => match k with
  | _ => ("", "", "", false)
def tyJ6 : Nat → FieldType := fun k => match k with
  | _ => .int
abbrev wsJ60 : List Cond := u_ws RJ6 TJ6 0
theorem nmJ6 : ∀ a, a < 0 → ∀ b, b < 0 → a ≠ b → (TJ6 a).2.1 ≠ (TJ6 b).2.1 := by decide +kernel
theorem tyJ6_ok : ∀ k, k < 0 → parseFieldDescriptor (TJ6 k).2.2.1 = some (tyJ6 k) := by decide +kernel
abbrev cJ6_bitCount_0f7a4 : ByteArray := prog_10_method_49_code
def yJ6_bitCount_0f7a4 : MethodName := ⟨RJ6, "bitCount", "(I)I"⟩
def RJ9 : String := "java/lang/Math"
def TJ9 : u_T := fun k => match k with
  | _ => ("", "", "", false)
def tyJ9 : Nat → FieldType := fun k => match k with
  | _ => .int
abbrev wsJ90 : List Cond := u_ws RJ9 TJ9 0
theorem nmJ9 : ∀ a, a < 0 → ∀ b, b < 0 → a ≠ b → (TJ9 a).2.1 ≠ (TJ9 b).2.1 := by decide +kernel
theorem tyJ9_ok : ∀ k, k < 0 → parseFieldDescriptor (TJ9 k).2.2.1 = some (tyJ9 k) := by decide +kernel
abbrev cJ9_floorDiv_7cf53 : ByteArray := prog_11_method_47_code
def yJ9_floorDiv_7cf53 : MethodName := ⟨RJ9, "floorDiv", "(II)I"⟩
abbrev cJ9_floorMod_7cf53 : ByteArray := prog_11_method_50_code
def yJ9_floorMod_7cf53 : MethodName := ⟨RJ9, "floorMod", "(II)I"⟩
abbrev cJ9_floorMod_f86c9 : ByteArray := prog_11_method_52_code
def yJ9_floorMod_f86c9 : MethodName := ⟨RJ9, "floorMod", "(JJ)J"⟩
abbrev cJ9_abs_0f7a4 : ByteArray := prog_11_method_59_code
def yJ9_abs_0f7a4 : MethodName := ⟨RJ9, "abs", "(I)I"⟩
abbrev cJ9_abs_067f4 : ByteArray := prog_11_method_61_code
def yJ9_abs_067f4 : MethodName := ⟨RJ9, "abs", "(J)J"⟩
abbrev cJ9_max_7cf53 : ByteArray := prog_11_method_65_code
def yJ9_max_7cf53 : MethodName := ⟨RJ9, "max", "(II)I"⟩
abbrev cJ9_max_f86c9 : ByteArray := prog_11_method_66_code
def yJ9_max_f86c9 : MethodName := ⟨RJ9, "max", "(JJ)J"⟩
abbrev cJ9_min_7cf53 : ByteArray := prog_11_method_69_code
def yJ9_min_7cf53 : MethodName := ⟨RJ9, "min", "(II)I"⟩
def RJ0 : String := "java/lang/String"
def TJ0 : u_T := fun k => match k with
  | _ => ("", "", "", false)
def tyJ0 : Nat → FieldType := fun k => match k with
  | _ => .int
abbrev wsJ00 : List Cond := u_ws RJ0 TJ0 0
theorem nmJ0 : ∀ a, a < 0 → ∀ b, b < 0 → a ≠ b → (TJ0 a).2.1 ≠ (TJ0 b).2.1 := by decide +kernel
theorem tyJ0_ok : ∀ k, k < 0 → parseFieldDescriptor (TJ0 k).2.2.1 = some (tyJ0 k) := by decide +kernel
abbrev cJ0_length_8abf5 : ByteArray := prog_12_method_54_code
def yJ0_length_8abf5 : MethodName := ⟨RJ0, "length", "()I"⟩
abbrev cJ0_charAt_5068e : ByteArray := prog_12_method_56_code
def yJ0_charAt_5068e : MethodName := ⟨RJ0, "charAt", "(I)C"⟩
abbrev cJ0_coder_7d493 : ByteArray := prog_12_method_152_code
def yJ0_coder_7d493 : MethodName := ⟨RJ0, "coder", "()B"⟩
abbrev cJ0_isLatin1_aae02 : ByteArray := prog_12_method_154_code
def yJ0_isLatin1_aae02 : MethodName := ⟨RJ0, "isLatin1", "()Z"⟩
abbrev cJ0_checkIndex_df160 : ByteArray := prog_12_method_155_code
def yJ0_checkIndex_df160 : MethodName := ⟨RJ0, "checkIndex", "(II)V"⟩
def RJ1 : String := "java/lang/StringLatin1"
def TJ1 : u_T := fun k => match k with
  | _ => ("", "", "", false)
def tyJ1 : Nat → FieldType := fun k => match k with
  | _ => .int
abbrev wsJ10 : List Cond := u_ws RJ1 TJ1 0
theorem nmJ1 : ∀ a, a < 0 → ∀ b, b < 0 → a ≠ b → (TJ1 a).2.1 ≠ (TJ1 b).2.1 := by decide +kernel
theorem tyJ1_ok : ∀ k, k < 0 → parseFieldDescriptor (TJ1 k).2.2.1 = some (tyJ1 k) := by decide +kernel
abbrev cJ1_charAt_3b067 : ByteArray := prog_13_method_2_code
def yJ1_charAt_3b067 : MethodName := ⟨RJ1, "charAt", "([BI)C"⟩
def RJ2 : String := "java/lang/StringUTF16"
def TJ2 : u_T := fun k => match k with
  | _ => ("", "", "", false)
def tyJ2 : Nat → FieldType := fun k => match k with
  | _ => .int
abbrev wsJ20 : List Cond := u_ws RJ2 TJ2 0
theorem nmJ2 : ∀ a, a < 0 → ∀ b, b < 0 → a ≠ b → (TJ2 a).2.1 ≠ (TJ2 b).2.1 := by decide +kernel
theorem tyJ2_ok : ∀ k, k < 0 → parseFieldDescriptor (TJ2 k).2.2.1 = some (tyJ2 k) := by decide +kernel
abbrev cJ2_getChar_3b067 : ByteArray := prog_14_method_5_code
def yJ2_getChar_3b067 : MethodName := ⟨RJ2, "getChar", "([BI)C"⟩
abbrev cJ2_length_9d52b : ByteArray := prog_14_method_6_code
def yJ2_length_9d52b : MethodName := ⟨RJ2, "length", "([B)I"⟩
abbrev cJ2_charAt_3b067 : ByteArray := prog_14_method_83_code
def yJ2_charAt_3b067 : MethodName := ⟨RJ2, "charAt", "([BI)C"⟩
abbrev cJ2_checkIndex_2214a : ByteArray := prog_14_method_91_code
def yJ2_checkIndex_2214a : MethodName := ⟨RJ2, "checkIndex", "(I[B)V"⟩
def RJxfd54e : String := "java/lang/constant/Constable"
def TJxfd54e : u_T := fun k => match k with
  | _ => ("", "", "", false)
def tyJxfd54e : Nat → FieldType := fun k => match k with
  | _ => .int
abbrev wsJxfd54e0 : List Cond := u_ws RJxfd54e TJxfd54e 0
theorem nmJxfd54e : ∀ a, a < 0 → ∀ b, b < 0 → a ≠ b → (TJxfd54e a).2.1 ≠ (TJxfd54e b).2.1 := by decide +kernel
theorem tyJxfd54e_ok : ∀ k, k < 0 → parseFieldDescriptor (TJxfd54e k).2.2.1 = some (tyJxfd54e k) := by decide +kernel
def RJx3cf43 : String := "java/lang/constant/ConstantDesc"
def TJx3cf43 : u_T := fun k => match k with
  | _ => ("", "", "", false)
def tyJx3cf43 : Nat → FieldType := fun k => match k with
  | _ => .int
abbrev wsJx3cf430 : List Cond := u_ws RJx3cf43 TJx3cf43 0
theorem nmJx3cf43 : ∀ a, a < 0 → ∀ b, b < 0 → a ≠ b → (TJx3cf43 a).2.1 ≠ (TJx3cf43 b).2.1 := by decide +kernel
theorem tyJx3cf43_ok : ∀ k, k < 0 → parseFieldDescriptor (TJx3cf43 k).2.2.1 = some (tyJx3cf43 k) := by decide +kernel
def RJ7 : String := "java/util/Arrays"
def TJ7 : u_T := fun k => match k with
  | _ => ("", "", "", false)
def tyJ7 : Nat → FieldType := fun k => match k with
  | _ => .int
abbrev wsJ70 : List Cond := u_ws RJ7 TJ7 0
theorem nmJ7 : ∀ a, a < 0 → ∀ b, b < 0 → a ≠ b → (TJ7 a).2.1 ≠ (TJ7 b).2.1 := by decide +kernel
theorem tyJ7_ok : ∀ k, k < 0 → parseFieldDescriptor (TJ7 k).2.2.1 = some (tyJ7 k) := by decide +kernel
abbrev cJ7_fill_53178 : ByteArray := prog_15_method_103_code
def yJ7_fill_53178 : MethodName := ⟨RJ7, "fill", "([II)V"⟩
def RJ3 : String := "jdk/internal/util/Preconditions"
def TJ3 : u_T := fun k => match k with
  | _ => ("", "", "", false)
def tyJ3 : Nat → FieldType := fun k => match k with
  | _ => .int
abbrev wsJ30 : List Cond := u_ws RJ3 TJ3 0
theorem nmJ3 : ∀ a, a < 0 → ∀ b, b < 0 → a ≠ b → (TJ3 a).2.1 ≠ (TJ3 b).2.1 := by decide +kernel
theorem tyJ3_ok : ∀ k, k < 0 → parseFieldDescriptor (TJ3 k).2.2.1 = some (tyJ3 k) := by decide +kernel
abbrev cJ3_checkIndex_8e157 : ByteArray := prog_16_method_11_code
def yJ3_checkIndex_8e157 : MethodName := ⟨RJ3, "checkIndex", "(IILjava/util/function/BiFunction;)I"⟩
def RL : String := "WrongClocksLaw"
abbrev cL_law : ByteArray := code
def yL_law : MethodName := ⟨RL, "law", "([I)Z"⟩
def wsX0_init : List Cond := .code yX0_init cX0_init 1 none :: ([.methodLink RX0 3 objectInit, .instanceMethod objectInit, .code objectInit ⟨#[0xb1]⟩ 1 none, .fieldLink RX0 9 "WrongClocks$Clock" "kind" "I", .fieldLink RX0 15 "WrongClocks$Clock" "set" "I", .fieldLink RX0 18 "WrongClocks$Clock" "dial" "I", .fieldLink RX0 21 "WrongClocks$Clock" "low" "I", .fieldLink RX0 24 "WrongClocks$Clock" "high" "I", .fieldLink RX0 27 "WrongClocks$Clock" "read" "I"] ++ wsX00)
def wsX0_tell : List Cond := .code yX0_tell cX0_tell 6 none :: ([.fieldLink RX0 9 "WrongClocks$Clock" "kind" "I", .fieldLink RX0 15 "WrongClocks$Clock" "set" "I", .fieldLink RX0 18 "WrongClocks$Clock" "dial" "I", .fieldLink RX0 21 "WrongClocks$Clock" "low" "I", .fieldLink RX0 24 "WrongClocks$Clock" "high" "I", .fieldLink RX0 27 "WrongClocks$Clock" "read" "I"] ++ wsX00)
def wsX0_copy : List Cond := .code yX0_copy cX0_copy 2 none :: ([.fieldLink RX0 9 "WrongClocks$Clock" "kind" "I", .fieldLink RX0 15 "WrongClocks$Clock" "set" "I", .fieldLink RX0 18 "WrongClocks$Clock" "dial" "I", .fieldLink RX0 21 "WrongClocks$Clock" "low" "I", .fieldLink RX0 24 "WrongClocks$Clock" "high" "I", .fieldLink RX0 27 "WrongClocks$Clock" "read" "I", .methodLink RX0 30 yX0_tell, .instanceMethod yX0_tell, .selects RX0 yX0_tell yX0_tell, .initialized RX0, .code yX0_tell cX0_tell 6 none] ++ wsX00)
def wsX0_runsByOneRate : List Cond := .code yX0_runsByOneRate cX0_runsByOneRate 1 (some .boolean) :: ([.fieldLink RX0 9 "WrongClocks$Clock" "kind" "I", .fieldLink RX0 21 "WrongClocks$Clock" "low" "I", .fieldLink RX0 24 "WrongClocks$Clock" "high" "I"] ++ wsX00)
def wsX0_way : List Cond := .code yX0_way cX0_way 4 (some .int) :: ([.fieldLink RX0 9 "WrongClocks$Clock" "kind" "I"] ++ wsX00)
def wsX0_handAt : List Cond := .code yX0_handAt cX0_handAt 3 (some .int) :: ([.fieldLink RX0 18 "WrongClocks$Clock" "dial" "I", .fieldLink RX0 15 "WrongClocks$Clock" "set" "I", .methodLink RX0 34 yX0_way, .instanceMethod yX0_way, .selects RX0 yX0_way yX0_way, .initialized RX0, .code yX0_way cX0_way 4 (some .int), .fieldLink RX0 9 "WrongClocks$Clock" "kind" "I"] ++ wsX00)
def wsJ9_floorDiv_7cf53 : List Cond := .code yJ9_floorDiv_7cf53 cJ9_floorDiv_7cf53 3 (some .int) :: ([])
def wsJ9_floorMod_7cf53 : List Cond := .code yJ9_floorMod_7cf53 cJ9_floorMod_7cf53 3 (some .int) :: ([])
def wsX0_dialAt : List Cond := .code yX0_dialAt cX0_dialAt 3 (some .int) :: ([.methodLink RX0 38 yX0_handAt, .instanceMethod yX0_handAt, .selects RX0 yX0_handAt yX0_handAt, .initialized RX0, .code yX0_handAt cX0_handAt 3 (some .int), .fieldLink RX0 18 "WrongClocks$Clock" "dial" "I", .fieldLink RX0 15 "WrongClocks$Clock" "set" "I", .methodLink RX0 34 yX0_way, .instanceMethod yX0_way, .selects RX0 yX0_way yX0_way, .code yX0_way cX0_way 4 (some .int), .fieldLink RX0 9 "WrongClocks$Clock" "kind" "I", .methodLink RX0 41 yJ9_floorDiv_7cf53, .static yJ9_floorDiv_7cf53, .initialized RJ9, .code yJ9_floorDiv_7cf53 cJ9_floorDiv_7cf53 3 (some .int), .methodLink RX0 46 yJ9_floorMod_7cf53, .static yJ9_floorMod_7cf53, .code yJ9_floorMod_7cf53 cJ9_floorMod_7cf53 3 (some .int)] ++ wsX00)
def wsX0_canShow_r1 : List Cond := [Cond.fieldLink RX0 21 "WrongClocks$Clock" "low" "I", Cond.fieldLink RX0 24 "WrongClocks$Clock" "high" "I", Cond.methodLink RX0 49 Lib.Math.min.name, Cond.static Lib.Math.min.name, Cond.initialized "java/lang/Math", Cond.code Lib.Math.min.name Lib.Math.min.code 2 (some .int), Cond.methodLink RX0 52 Lib.Math.max.name, Cond.static Lib.Math.max.name, Cond.code Lib.Math.max.name Lib.Math.max.code 2 (some .int), Cond.methodLink RX0 38 yX0_handAt, Cond.instanceMethod yX0_handAt, Cond.selects RX0 yX0_handAt yX0_handAt, Cond.initialized RX0, Cond.code yX0_handAt cX0_handAt 3 (some .int), Cond.fieldLink RX0 18 "WrongClocks$Clock" "dial" "I", Cond.fieldLink RX0 15 "WrongClocks$Clock" "set" "I", Cond.methodLink RX0 34 yX0_way, Cond.instanceMethod yX0_way, Cond.selects RX0 yX0_way yX0_way, Cond.code yX0_way cX0_way 4 (some .int), Cond.fieldLink RX0 9 "WrongClocks$Clock" "kind" "I", Cond.methodLink RX0 41 yJ9_floorDiv_7cf53, Cond.static yJ9_floorDiv_7cf53, Cond.initialized RJ9]
def wsX0_canShow_r2 : List Cond := [Cond.code yJ9_floorDiv_7cf53 cJ9_floorDiv_7cf53 3 (some .int), Cond.methodLink RX0 46 yJ9_floorMod_7cf53, Cond.static yJ9_floorMod_7cf53, Cond.code yJ9_floorMod_7cf53 cJ9_floorMod_7cf53 3 (some .int)]
def wsX0_canShow : List Cond := .code yX0_canShow cX0_canShow 7 (some .boolean) :: ((wsX0_canShow_r1 ++ wsX0_canShow_r2) ++ wsX00)
def wsX0_partsToWholeMinute : List Cond := .code yX0_partsToWholeMinute cX0_partsToWholeMinute 2 (some .int) :: ([.fieldLink RX0 15 "WrongClocks$Clock" "set" "I", .fieldLink RX0 21 "WrongClocks$Clock" "low" "I", .methodLink RX0 46 yJ9_floorMod_7cf53, .static yJ9_floorMod_7cf53, .initialized RJ9, .code yJ9_floorMod_7cf53 cJ9_floorMod_7cf53 3 (some .int)] ++ wsX00)
def wsX2_init : List Cond := .code yX2_init cX2_init 1 none :: ([.methodLink RX2 3 objectInit, .instanceMethod objectInit, .code objectInit ⟨#[0xb1]⟩ 1 none, .fieldLink RX2 9 "WrongClocks$Notes" "many" "I", .arrayClass .int, .fieldLink RX2 15 "WrongClocks$Notes" "clocks" "[I", .fieldLink RX2 19 "WrongClocks$Notes" "minutes" "[I", .fieldLink RX2 22 "WrongClocks$Notes" "dials" "[I"] ++ wsX20)
def wsX1_init_r1 : List Cond := [Cond.methodLink RX1 3 objectInit, Cond.instanceMethod objectInit, Cond.code objectInit ⟨#[0xb1]⟩ 1 none, Cond.fieldLink RX1 9 "WrongClocks$House" "filled" "Z", Cond.classLink RX1 15 RX0, Cond.fieldLink RX1 17 "WrongClocks$House" "clocks" "[LWrongClocks$Clock;", Cond.classLink RX1 21 RX2, Cond.instantiable RX2 4, Cond.initialized RX2, Cond.fieldLink RX1 24 "WrongClocks$House" "notes" "LWrongClocks$Notes;", Cond.instantiable RX0 6, Cond.initialized RX0, Cond.instanceMethod yX2_init, Cond.code yX2_init cX2_init 1 none, Cond.methodLink RX2 3 objectInit, Cond.fieldLink RX2 9 "WrongClocks$Notes" "many" "I", Cond.arrayClass .int, Cond.fieldLink RX2 15 "WrongClocks$Notes" "clocks" "[I", Cond.fieldLink RX2 19 "WrongClocks$Notes" "minutes" "[I", Cond.fieldLink RX2 22 "WrongClocks$Notes" "dials" "[I", Cond.instanceMethod yX0_init, Cond.code yX0_init cX0_init 1 none, Cond.methodLink RX0 3 objectInit, Cond.fieldLink RX0 9 "WrongClocks$Clock" "kind" "I"]
def wsX1_init_r2 : List Cond := [Cond.fieldLink RX0 15 "WrongClocks$Clock" "set" "I", Cond.fieldLink RX0 18 "WrongClocks$Clock" "dial" "I", Cond.fieldLink RX0 21 "WrongClocks$Clock" "low" "I", Cond.fieldLink RX0 24 "WrongClocks$Clock" "high" "I", Cond.fieldLink RX0 27 "WrongClocks$Clock" "read" "I"]
def wsX1_init : List Cond := .code yX1_init cX1_init 2 none :: ((wsX1_init_r1 ++ wsX1_init_r2) ++ wsX10 ++ wsX20 ++ wsX00)
def wsX2_add : List Cond := .code yX2_add cX2_add 4 (some .boolean) :: ([.fieldLink RX2 9 "WrongClocks$Notes" "many" "I", .fieldLink RX2 15 "WrongClocks$Notes" "clocks" "[I", .fieldLink RX2 19 "WrongClocks$Notes" "minutes" "[I", .fieldLink RX2 22 "WrongClocks$Notes" "dials" "[I"] ++ wsX20)
def wsX2_copy : List Cond := .code yX2_copy cX2_copy 3 none :: ([.fieldLink RX2 9 "WrongClocks$Notes" "many" "I", .fieldLink RX2 15 "WrongClocks$Notes" "clocks" "[I", .fieldLink RX2 19 "WrongClocks$Notes" "minutes" "[I", .fieldLink RX2 22 "WrongClocks$Notes" "dials" "[I", .methodLink RX2 25 yX2_add, .instanceMethod yX2_add, .selects RX2 yX2_add yX2_add, .initialized RX2, .code yX2_add cX2_add 4 (some .boolean)] ++ wsX20)
def wsX1_copy_r1 : List Cond := [Cond.fieldLink RX1 17 "WrongClocks$House" "clocks" "[LWrongClocks$Clock;", Cond.fieldLink RX1 24 "WrongClocks$House" "notes" "LWrongClocks$Notes;", Cond.methodLink RX1 29 yX0_copy, Cond.instanceMethod yX0_copy, Cond.selects RX0 yX0_copy yX0_copy, Cond.initialized RX0, Cond.code yX0_copy cX0_copy 2 none, Cond.fieldLink RX0 9 "WrongClocks$Clock" "kind" "I", Cond.fieldLink RX0 15 "WrongClocks$Clock" "set" "I", Cond.fieldLink RX0 18 "WrongClocks$Clock" "dial" "I", Cond.fieldLink RX0 21 "WrongClocks$Clock" "low" "I", Cond.fieldLink RX0 24 "WrongClocks$Clock" "high" "I", Cond.fieldLink RX0 27 "WrongClocks$Clock" "read" "I", Cond.methodLink RX0 30 yX0_tell, Cond.instanceMethod yX0_tell, Cond.selects RX0 yX0_tell yX0_tell, Cond.code yX0_tell cX0_tell 6 none, Cond.methodLink RX1 33 yX2_copy, Cond.instanceMethod yX2_copy, Cond.selects RX2 yX2_copy yX2_copy, Cond.initialized RX2, Cond.code yX2_copy cX2_copy 3 none, Cond.fieldLink RX2 9 "WrongClocks$Notes" "many" "I", Cond.fieldLink RX2 15 "WrongClocks$Notes" "clocks" "[I"]
def wsX1_copy_r2 : List Cond := [Cond.fieldLink RX2 19 "WrongClocks$Notes" "minutes" "[I", Cond.fieldLink RX2 22 "WrongClocks$Notes" "dials" "[I", Cond.methodLink RX2 25 yX2_add, Cond.instanceMethod yX2_add, Cond.selects RX2 yX2_add yX2_add, Cond.code yX2_add cX2_add 4 (some .boolean)]
def wsX1_copy : List Cond := .code yX1_copy cX1_copy 3 none :: ((wsX1_copy_r1 ++ wsX1_copy_r2) ++ wsX10 ++ wsX00 ++ wsX20)
def wsX6_isBelow : List Cond := .code yX6_isBelow cX6_isBelow 2 (some .boolean) :: ([])
def wsX1_toldClock : List Cond := .code yX1_toldClock cX1_toldClock 2 (some (.object "WrongClocks$Clock")) :: ([.fieldLink RX1 17 "WrongClocks$House" "clocks" "[LWrongClocks$Clock;", .fieldLink RX1 40 "WrongClocks$Clock" "kind" "I", .static yX6_isBelow, .initialized RX6, .code yX6_isBelow cX6_isBelow 2 (some .boolean)] ++ wsX10 ++ wsX00)
def wsX1_toldBits : List Cond := .code yX1_toldBits cX1_toldBits 3 (some .int) :: ([.fieldLink RX1 17 "WrongClocks$House" "clocks" "[LWrongClocks$Clock;", .fieldLink RX1 40 "WrongClocks$Clock" "kind" "I"] ++ wsX10 ++ wsX00)
def wsX1_readBits : List Cond := .code yX1_readBits cX1_readBits 3 (some .int) :: ([.fieldLink RX1 17 "WrongClocks$House" "clocks" "[LWrongClocks$Clock;", .fieldLink RX1 44 "WrongClocks$Clock" "read" "I"] ++ wsX10 ++ wsX00)
def wsX1_misfitsAt_r1 : List Cond := [Cond.fieldLink RX1 17 "WrongClocks$House" "clocks" "[LWrongClocks$Clock;", Cond.fieldLink RX1 44 "WrongClocks$Clock" "read" "I", Cond.methodLink RX1 47 yX0_canShow, Cond.instanceMethod yX0_canShow, Cond.selects RX0 yX0_canShow yX0_canShow, Cond.initialized RX0, Cond.code yX0_canShow cX0_canShow 7 (some .boolean), Cond.fieldLink RX0 21 "WrongClocks$Clock" "low" "I", Cond.fieldLink RX0 24 "WrongClocks$Clock" "high" "I", Cond.methodLink RX0 49 Lib.Math.min.name, Cond.static Lib.Math.min.name, Cond.initialized "java/lang/Math", Cond.code Lib.Math.min.name Lib.Math.min.code 2 (some .int), Cond.methodLink RX0 52 Lib.Math.max.name, Cond.static Lib.Math.max.name, Cond.code Lib.Math.max.name Lib.Math.max.code 2 (some .int), Cond.methodLink RX0 38 yX0_handAt, Cond.instanceMethod yX0_handAt, Cond.selects RX0 yX0_handAt yX0_handAt, Cond.code yX0_handAt cX0_handAt 3 (some .int), Cond.fieldLink RX0 18 "WrongClocks$Clock" "dial" "I", Cond.fieldLink RX0 15 "WrongClocks$Clock" "set" "I", Cond.methodLink RX0 34 yX0_way, Cond.instanceMethod yX0_way]
def wsX1_misfitsAt_r2 : List Cond := [Cond.selects RX0 yX0_way yX0_way, Cond.code yX0_way cX0_way 4 (some .int), Cond.fieldLink RX0 9 "WrongClocks$Clock" "kind" "I", Cond.methodLink RX0 41 yJ9_floorDiv_7cf53, Cond.static yJ9_floorDiv_7cf53, Cond.initialized RJ9, Cond.code yJ9_floorDiv_7cf53 cJ9_floorDiv_7cf53 3 (some .int), Cond.methodLink RX0 46 yJ9_floorMod_7cf53, Cond.static yJ9_floorMod_7cf53, Cond.code yJ9_floorMod_7cf53 cJ9_floorMod_7cf53 3 (some .int)]
def wsX1_misfitsAt : List Cond := .code yX1_misfitsAt cX1_misfitsAt 5 (some .int) :: ((wsX1_misfitsAt_r1 ++ wsX1_misfitsAt_r2) ++ wsX10 ++ wsX00)
def wsX5_number : List Cond := .code yX5_number cX5_number 3 (some .int) :: ([.fieldLink RX5 19 "WrongClocks$Text" "rows" "[I", .static yX6_isBelow, .initialized RX6, .code yX6_isBelow cX6_isBelow 2 (some .boolean)] ++ wsX50)
def wsX1_readNone : List Cond := .code yX1_readNone cX1_readNone 2 none :: ([.fieldLink RX1 17 "WrongClocks$House" "clocks" "[LWrongClocks$Clock;", .fieldLink RX1 44 "WrongClocks$Clock" "read" "I"] ++ wsX10 ++ wsX00)
def wsX1_heed_r1 : List Cond := [Cond.fieldLink RX1 17 "WrongClocks$House" "clocks" "[LWrongClocks$Clock;", Cond.fieldLink RX1 44 "WrongClocks$Clock" "read" "I", Cond.methodLink RX1 50 yX5_number, Cond.instanceMethod yX5_number, Cond.selects RX5 yX5_number yX5_number, Cond.initialized RX5, Cond.code yX5_number cX5_number 3 (some .int), Cond.fieldLink RX5 19 "WrongClocks$Text" "rows" "[I", Cond.static yX6_isBelow, Cond.initialized RX6, Cond.code yX6_isBelow cX6_isBelow 2 (some .boolean), Cond.methodLink RX1 56 yX1_readNone, Cond.instanceMethod yX1_readNone, Cond.selects RX1 yX1_readNone yX1_readNone, Cond.initialized RX1, Cond.code yX1_readNone cX1_readNone 2 none, Cond.methodLink RX1 59 yX0_tell, Cond.instanceMethod yX0_tell, Cond.selects RX0 yX0_tell yX0_tell, Cond.initialized RX0, Cond.code yX0_tell cX0_tell 6 none, Cond.fieldLink RX0 9 "WrongClocks$Clock" "kind" "I", Cond.fieldLink RX0 15 "WrongClocks$Clock" "set" "I", Cond.fieldLink RX0 18 "WrongClocks$Clock" "dial" "I"]
def wsX1_heed_r2 : List Cond := [Cond.fieldLink RX0 21 "WrongClocks$Clock" "low" "I", Cond.fieldLink RX0 24 "WrongClocks$Clock" "high" "I", Cond.fieldLink RX0 27 "WrongClocks$Clock" "read" "I"]
def wsX1_heed : List Cond := .code yX1_heed cX1_heed 8 none :: ((wsX1_heed_r1 ++ wsX1_heed_r2) ++ wsX10 ++ wsX00 ++ wsX50)
def wsX2_allow : List Cond := .code yX2_allow cX2_allow 11 (some .boolean) :: ([.fieldLink RX2 9 "WrongClocks$Notes" "many" "I", .fieldLink RX2 15 "WrongClocks$Notes" "clocks" "[I", .fieldLink RX2 22 "WrongClocks$Notes" "dials" "[I", .fieldLink RX2 19 "WrongClocks$Notes" "minutes" "[I", .constant RX2 35 (518400), .constant RX2 36 (1036800), .methodLink RX2 42 Lib.Math.min.name, .static Lib.Math.min.name, .initialized "java/lang/Math", .code Lib.Math.min.name Lib.Math.min.code 2 (some .int), .methodLink RX2 45 Lib.Math.max.name, .static Lib.Math.max.name, .code Lib.Math.max.name Lib.Math.max.code 2 (some .int), .methodLink RX2 29 yX0_way, .instanceMethod yX0_way, .selects RX0 yX0_way yX0_way, .initialized RX0, .code yX0_way cX0_way 4 (some .int), .fieldLink RX0 9 "WrongClocks$Clock" "kind" "I", .methodLink RX2 37 yJ9_floorMod_7cf53, .static yJ9_floorMod_7cf53, .initialized RJ9, .code yJ9_floorMod_7cf53 cJ9_floorMod_7cf53 3 (some .int)] ++ wsX20 ++ wsX00)
def wsX3_init : List Cond := .code yX3_init cX3_init 1 none :: ([.methodLink RX3 3 objectInit, .instanceMethod objectInit, .code objectInit ⟨#[0xb1]⟩ 1 none, .fieldLink RX3 9 "WrongClocks$Queue" "many" "I", .arrayClass .int, .fieldLink RX3 15 "WrongClocks$Queue" "clocks" "[I", .fieldLink RX3 19 "WrongClocks$Queue" "rates" "[I", .fieldLink RX3 22 "WrongClocks$Queue" "least" "[I"] ++ wsX30)
def wsX3_clear : List Cond := .code yX3_clear cX3_clear 1 none :: ([.fieldLink RX3 9 "WrongClocks$Queue" "many" "I"] ++ wsX30)
def wsX3_add : List Cond := .code yX3_add cX3_add 3 none :: ([.fieldLink RX3 9 "WrongClocks$Queue" "many" "I", .fieldLink RX3 15 "WrongClocks$Queue" "clocks" "[I", .fieldLink RX3 19 "WrongClocks$Queue" "rates" "[I"] ++ wsX30)
def wsX3_leastBehind : List Cond := .code yX3_leastBehind cX3_leastBehind 2 (some .int) :: ([.fieldLink RX3 22 "WrongClocks$Queue" "least" "[I", .static yX6_isBelow, .initialized RX6, .code yX6_isBelow cX6_isBelow 2 (some .boolean)] ++ wsX30)
def wsX3_errorBehind : List Cond := .code yX3_errorBehind cX3_errorBehind 4 (some .int) :: ([.fieldLink RX3 9 "WrongClocks$Queue" "many" "I", .fieldLink RX3 19 "WrongClocks$Queue" "rates" "[I", .methodLink RX3 38 Lib.Math.abs.name, .static Lib.Math.abs.name, .initialized "java/lang/Math", .code Lib.Math.abs.name Lib.Math.abs.code 1 (some .int)] ++ wsX30)
def wsX3_weigh : List Cond := .code yX3_weigh cX3_weigh 4 none :: ([.fieldLink RX3 9 "WrongClocks$Queue" "many" "I", .fieldLink RX3 22 "WrongClocks$Queue" "least" "[I", .methodLink RX3 32 Lib.Math.max.name, .static Lib.Math.max.name, .initialized "java/lang/Math", .code Lib.Math.max.name Lib.Math.max.code 2 (some .int), .methodLink RX3 25 yX3_leastBehind, .instanceMethod yX3_leastBehind, .selects RX3 yX3_leastBehind yX3_leastBehind, .initialized RX3, .code yX3_leastBehind cX3_leastBehind 2 (some .int), .static yX6_isBelow, .initialized RX6, .code yX6_isBelow cX6_isBelow 2 (some .boolean), .methodLink RX3 29 yX3_errorBehind, .instanceMethod yX3_errorBehind, .selects RX3 yX3_errorBehind yX3_errorBehind, .code yX3_errorBehind cX3_errorBehind 4 (some .int), .fieldLink RX3 19 "WrongClocks$Queue" "rates" "[I", .methodLink RX3 38 Lib.Math.abs.name, .static Lib.Math.abs.name, .code Lib.Math.abs.name Lib.Math.abs.code 1 (some .int)] ++ wsX30)
def wsX3_leastError : List Cond := .code yX3_leastError cX3_leastError 1 (some .int) :: ([.fieldLink RX3 22 "WrongClocks$Queue" "least" "[I"] ++ wsX30)
def wsX3_firstBehind : List Cond := .code yX3_firstBehind cX3_firstBehind 3 (some .int) :: ([.fieldLink RX3 9 "WrongClocks$Queue" "many" "I", .fieldLink RX3 22 "WrongClocks$Queue" "least" "[I", .methodLink RX3 25 yX3_leastBehind, .instanceMethod yX3_leastBehind, .selects RX3 yX3_leastBehind yX3_leastBehind, .initialized RX3, .code yX3_leastBehind cX3_leastBehind 2 (some .int), .static yX6_isBelow, .initialized RX6, .code yX6_isBelow cX6_isBelow 2 (some .boolean)] ++ wsX30)
def wsX3_clockAt : List Cond := .code yX3_clockAt cX3_clockAt 5 (some .int) :: ([.fieldLink RX3 9 "WrongClocks$Queue" "many" "I", .fieldLink RX3 15 "WrongClocks$Queue" "clocks" "[I", .methodLink RX3 45 yX3_firstBehind, .instanceMethod yX3_firstBehind, .selects RX3 yX3_firstBehind yX3_firstBehind, .initialized RX3, .code yX3_firstBehind cX3_firstBehind 3 (some .int), .fieldLink RX3 22 "WrongClocks$Queue" "least" "[I", .methodLink RX3 25 yX3_leastBehind, .instanceMethod yX3_leastBehind, .selects RX3 yX3_leastBehind yX3_leastBehind, .code yX3_leastBehind cX3_leastBehind 2 (some .int), .static yX6_isBelow, .initialized RX6, .code yX6_isBelow cX6_isBelow 2 (some .boolean)] ++ wsX30)
def wsX4_init : List Cond := .code yX4_init cX4_init 1 none :: ([.methodLink RX4 3 objectInit, .instanceMethod objectInit, .code objectInit ⟨#[0xb1]⟩ 1 none, .fieldLink RX4 9 "WrongClocks$Tally" "many" "I", .fieldLink RX4 15 "WrongClocks$Tally" "first" "I", .fieldLink RX4 18 "WrongClocks$Tally" "last" "I", .fieldLink RX4 21 "WrongClocks$Tally" "runs" "I"] ++ wsX40)
def wsX4_clear : List Cond := .code yX4_clear cX4_clear 1 none :: ([.fieldLink RX4 9 "WrongClocks$Tally" "many" "I", .fieldLink RX4 15 "WrongClocks$Tally" "first" "I", .fieldLink RX4 18 "WrongClocks$Tally" "last" "I", .fieldLink RX4 21 "WrongClocks$Tally" "runs" "I"] ++ wsX40)
def wsX4_add : List Cond := .code yX4_add cX4_add 2 none :: ([.fieldLink RX4 9 "WrongClocks$Tally" "many" "I", .fieldLink RX4 15 "WrongClocks$Tally" "first" "I", .fieldLink RX4 18 "WrongClocks$Tally" "last" "I", .fieldLink RX4 21 "WrongClocks$Tally" "runs" "I"] ++ wsX40)
def wsX4_tell : List Cond := .code yX4_tell cX4_tell 2 (some .int) :: ([.fieldLink RX4 9 "WrongClocks$Tally" "many" "I", .fieldLink RX4 15 "WrongClocks$Tally" "first" "I", .fieldLink RX4 18 "WrongClocks$Tally" "last" "I", .fieldLink RX4 21 "WrongClocks$Tally" "runs" "I"] ++ wsX40)
def wsX5_init : List Cond := .code yX5_init cX5_init 1 none :: ([.methodLink RX5 3 objectInit, .instanceMethod objectInit, .code objectInit ⟨#[0xb1]⟩ 1 none, .arrayClass .int, .fieldLink RX5 9 "WrongClocks$Text" "bytes" "[I", .fieldLink RX5 15 "WrongClocks$Text" "length" "I", .fieldLink RX5 19 "WrongClocks$Text" "rows" "[I", .fieldLink RX5 22 "WrongClocks$Text" "lineCount" "I", .fieldLink RX5 25 "WrongClocks$Text" "start" "I", .fieldLink RX5 28 "WrongClocks$Text" "end" "I"] ++ wsX50)
def wsX5_put : List Cond := .code yX5_put cX5_put 2 none :: ([.fieldLink RX5 15 "WrongClocks$Text" "length" "I", .fieldLink RX5 9 "WrongClocks$Text" "bytes" "[I"] ++ wsX50)
def wsX5_signAt : List Cond := .code yX5_signAt cX5_signAt 2 (some .int) :: ([.fieldLink RX5 15 "WrongClocks$Text" "length" "I", .fieldLink RX5 9 "WrongClocks$Text" "bytes" "[I"] ++ wsX50)
def wsX5_isLetter : List Cond := .code yX5_isLetter cX5_isLetter 1 (some .boolean) :: ([])
def wsX5_isDigit : List Cond := .code yX5_isDigit cX5_isDigit 1 (some .boolean) :: ([])
def wsX5_takeToken : List Cond := .code yX5_takeToken cX5_takeToken 1 none :: ([.fieldLink RX5 28 "WrongClocks$Text" "end" "I", .fieldLink RX5 25 "WrongClocks$Text" "start" "I", .fieldLink RX5 15 "WrongClocks$Text" "length" "I", .methodLink RX5 45 yX5_signAt, .instanceMethod yX5_signAt, .selects RX5 yX5_signAt yX5_signAt, .initialized RX5, .code yX5_signAt cX5_signAt 2 (some .int), .fieldLink RX5 9 "WrongClocks$Text" "bytes" "[I", .methodLink RX5 75 yX5_isLetter, .static yX5_isLetter, .code yX5_isLetter cX5_isLetter 1 (some .boolean), .methodLink RX5 79 yX5_isDigit, .static yX5_isDigit, .code yX5_isDigit cX5_isDigit 1 (some .boolean)] ++ wsX50)
def wsX5_wordOf : List Cond := .code yX5_wordOf cX5_wordOf 1 (some (.object "java/lang/String")) :: ([])
def wsJ0_coder_7d493 : List Cond := .code yJ0_coder_7d493 cJ0_coder_7d493 1 (some .byte) :: ([.fieldLink RJ0 38 "java/lang/String" "COMPACT_STRINGS" "Z", .fieldLink RJ0 15 "java/lang/String" "coder" "B"])
def wsJ0_length_8abf5 : List Cond := .code yJ0_length_8abf5 cJ0_length_8abf5 1 (some .int) :: ([.fieldLink RJ0 9 "java/lang/String" "value" "[B", .methodLink RJ0 335 yJ0_coder_7d493, .instanceMethod yJ0_coder_7d493, .selects RJ0 yJ0_coder_7d493 yJ0_coder_7d493, .initialized RJ0, .code yJ0_coder_7d493 cJ0_coder_7d493 1 (some .byte), .fieldLink RJ0 38 "java/lang/String" "COMPACT_STRINGS" "Z", .fieldLink RJ0 15 "java/lang/String" "coder" "B"])
def wsJ0_isLatin1_aae02 : List Cond := .code yJ0_isLatin1_aae02 cJ0_isLatin1_aae02 1 (some .boolean) :: ([.fieldLink RJ0 38 "java/lang/String" "COMPACT_STRINGS" "Z", .fieldLink RJ0 15 "java/lang/String" "coder" "B"])
def wsJ3_checkIndex_8e157 : List Cond := .code yJ3_checkIndex_8e157 cJ3_checkIndex_8e157 3 (some .int) :: ([])
def wsJ0_checkIndex_df160 : List Cond := .code yJ0_checkIndex_df160 cJ0_checkIndex_df160 2 none :: ([.fieldLink RJ0 1053 "jdk/internal/util/Preconditions" "SIOOBE_FORMATTER" "Ljava/util/function/BiFunction;", .methodLink RJ0 1059 yJ3_checkIndex_8e157, .static yJ3_checkIndex_8e157, .initialized RJ3, .code yJ3_checkIndex_8e157 cJ3_checkIndex_8e157 3 (some .int)])
def wsJ1_charAt_3b067 : List Cond := .code yJ1_charAt_3b067 cJ1_charAt_3b067 2 (some .char) :: ([.methodLink RJ1 9 yJ0_checkIndex_df160, .static yJ0_checkIndex_df160, .initialized RJ0, .code yJ0_checkIndex_df160 cJ0_checkIndex_df160 2 none, .fieldLink RJ0 1053 "jdk/internal/util/Preconditions" "SIOOBE_FORMATTER" "Ljava/util/function/BiFunction;", .methodLink RJ0 1059 yJ3_checkIndex_8e157, .static yJ3_checkIndex_8e157, .initialized RJ3, .code yJ3_checkIndex_8e157 cJ3_checkIndex_8e157 3 (some .int)])
def wsJ2_length_9d52b : List Cond := .code yJ2_length_9d52b cJ2_length_9d52b 1 (some .int) :: ([])
def wsJ2_checkIndex_2214a : List Cond := .code yJ2_checkIndex_2214a cJ2_checkIndex_2214a 2 none :: ([.methodLink RJ2 48 yJ2_length_9d52b, .static yJ2_length_9d52b, .initialized RJ2, .code yJ2_length_9d52b cJ2_length_9d52b 1 (some .int), .methodLink RJ2 414 yJ0_checkIndex_df160, .static yJ0_checkIndex_df160, .initialized RJ0, .code yJ0_checkIndex_df160 cJ0_checkIndex_df160 2 none, .fieldLink RJ0 1053 "jdk/internal/util/Preconditions" "SIOOBE_FORMATTER" "Ljava/util/function/BiFunction;", .methodLink RJ0 1059 yJ3_checkIndex_8e157, .static yJ3_checkIndex_8e157, .initialized RJ3, .code yJ3_checkIndex_8e157 cJ3_checkIndex_8e157 3 (some .int)])
def wsJ2_getChar_3b067 : List Cond := .code yJ2_getChar_3b067 cJ2_getChar_3b067 2 (some .char) :: ([.fieldLink RJ2 44 "java/lang/StringUTF16" "$assertionsDisabled" "Z", .fieldLink RJ2 59 "java/lang/StringUTF16" "HI_BYTE_SHIFT" "I", .fieldLink RJ2 63 "java/lang/StringUTF16" "LO_BYTE_SHIFT" "I", .methodLink RJ2 48 yJ2_length_9d52b, .static yJ2_length_9d52b, .initialized RJ2, .code yJ2_length_9d52b cJ2_length_9d52b 1 (some .int)])
def wsJ2_charAt_3b067 : List Cond := .code yJ2_charAt_3b067 cJ2_charAt_3b067 2 (some .char) :: ([.methodLink RJ2 67 yJ2_checkIndex_2214a, .static yJ2_checkIndex_2214a, .initialized RJ2, .code yJ2_checkIndex_2214a cJ2_checkIndex_2214a 2 none, .methodLink RJ2 48 yJ2_length_9d52b, .static yJ2_length_9d52b, .code yJ2_length_9d52b cJ2_length_9d52b 1 (some .int), .methodLink RJ2 414 yJ0_checkIndex_df160, .static yJ0_checkIndex_df160, .initialized RJ0, .code yJ0_checkIndex_df160 cJ0_checkIndex_df160 2 none, .fieldLink RJ0 1053 "jdk/internal/util/Preconditions" "SIOOBE_FORMATTER" "Ljava/util/function/BiFunction;", .methodLink RJ0 1059 yJ3_checkIndex_8e157, .static yJ3_checkIndex_8e157, .initialized RJ3, .code yJ3_checkIndex_8e157 cJ3_checkIndex_8e157 3 (some .int), .methodLink RJ2 71 yJ2_getChar_3b067, .static yJ2_getChar_3b067, .code yJ2_getChar_3b067 cJ2_getChar_3b067 2 (some .char), .fieldLink RJ2 44 "java/lang/StringUTF16" "$assertionsDisabled" "Z", .fieldLink RJ2 59 "java/lang/StringUTF16" "HI_BYTE_SHIFT" "I", .fieldLink RJ2 63 "java/lang/StringUTF16" "LO_BYTE_SHIFT" "I"])
def wsJ0_charAt_5068e_r1 : List Cond := [Cond.fieldLink RJ0 9 "java/lang/String" "value" "[B", Cond.methodLink RJ0 492 yJ0_isLatin1_aae02, Cond.instanceMethod yJ0_isLatin1_aae02, Cond.selects RJ0 yJ0_isLatin1_aae02 yJ0_isLatin1_aae02, Cond.initialized RJ0, Cond.code yJ0_isLatin1_aae02 cJ0_isLatin1_aae02 1 (some .boolean), Cond.fieldLink RJ0 38 "java/lang/String" "COMPACT_STRINGS" "Z", Cond.fieldLink RJ0 15 "java/lang/String" "coder" "B", Cond.methodLink RJ0 495 yJ1_charAt_3b067, Cond.static yJ1_charAt_3b067, Cond.initialized RJ1, Cond.code yJ1_charAt_3b067 cJ1_charAt_3b067 2 (some .char), Cond.methodLink RJ1 9 yJ0_checkIndex_df160, Cond.static yJ0_checkIndex_df160, Cond.code yJ0_checkIndex_df160 cJ0_checkIndex_df160 2 none, Cond.fieldLink RJ0 1053 "jdk/internal/util/Preconditions" "SIOOBE_FORMATTER" "Ljava/util/function/BiFunction;", Cond.methodLink RJ0 1059 yJ3_checkIndex_8e157, Cond.static yJ3_checkIndex_8e157, Cond.initialized RJ3, Cond.code yJ3_checkIndex_8e157 cJ3_checkIndex_8e157 3 (some .int), Cond.methodLink RJ0 498 yJ2_charAt_3b067, Cond.static yJ2_charAt_3b067, Cond.initialized RJ2, Cond.code yJ2_charAt_3b067 cJ2_charAt_3b067 2 (some .char)]
def wsJ0_charAt_5068e_r2 : List Cond := [Cond.methodLink RJ2 67 yJ2_checkIndex_2214a, Cond.static yJ2_checkIndex_2214a, Cond.code yJ2_checkIndex_2214a cJ2_checkIndex_2214a 2 none, Cond.methodLink RJ2 48 yJ2_length_9d52b, Cond.static yJ2_length_9d52b, Cond.code yJ2_length_9d52b cJ2_length_9d52b 1 (some .int), Cond.methodLink RJ2 414 yJ0_checkIndex_df160, Cond.methodLink RJ2 71 yJ2_getChar_3b067, Cond.static yJ2_getChar_3b067, Cond.code yJ2_getChar_3b067 cJ2_getChar_3b067 2 (some .char), Cond.fieldLink RJ2 44 "java/lang/StringUTF16" "$assertionsDisabled" "Z", Cond.fieldLink RJ2 59 "java/lang/StringUTF16" "HI_BYTE_SHIFT" "I", Cond.fieldLink RJ2 63 "java/lang/StringUTF16" "LO_BYTE_SHIFT" "I"]
def wsJ0_charAt_5068e : List Cond := .code yJ0_charAt_5068e cJ0_charAt_5068e 2 (some .char) :: ((wsJ0_charAt_5068e_r1 ++ wsJ0_charAt_5068e_r2))
def wsX5_isTaken_r1 : List Cond := [Cond.fieldLink RX5 28 "WrongClocks$Text" "end" "I", Cond.fieldLink RX5 25 "WrongClocks$Text" "start" "I", Cond.methodLink RX5 57 yJ0_length_8abf5, Cond.instanceMethod yJ0_length_8abf5, Cond.selects RJ0 yJ0_length_8abf5 yJ0_length_8abf5, Cond.initialized RJ0, Cond.code yJ0_length_8abf5 cJ0_length_8abf5 1 (some .int), Cond.fieldLink RJ0 9 "java/lang/String" "value" "[B", Cond.methodLink RJ0 335 yJ0_coder_7d493, Cond.instanceMethod yJ0_coder_7d493, Cond.selects RJ0 yJ0_coder_7d493 yJ0_coder_7d493, Cond.code yJ0_coder_7d493 cJ0_coder_7d493 1 (some .byte), Cond.fieldLink RJ0 38 "java/lang/String" "COMPACT_STRINGS" "Z", Cond.fieldLink RJ0 15 "java/lang/String" "coder" "B", Cond.methodLink RX5 45 yX5_signAt, Cond.instanceMethod yX5_signAt, Cond.selects RX5 yX5_signAt yX5_signAt, Cond.initialized RX5, Cond.code yX5_signAt cX5_signAt 2 (some .int), Cond.fieldLink RX5 15 "WrongClocks$Text" "length" "I", Cond.fieldLink RX5 9 "WrongClocks$Text" "bytes" "[I", Cond.methodLink RX5 61 yJ0_charAt_5068e, Cond.instanceMethod yJ0_charAt_5068e, Cond.selects RJ0 yJ0_charAt_5068e yJ0_charAt_5068e]
def wsX5_isTaken_r2 : List Cond := [Cond.code yJ0_charAt_5068e cJ0_charAt_5068e 2 (some .char), Cond.methodLink RJ0 492 yJ0_isLatin1_aae02, Cond.instanceMethod yJ0_isLatin1_aae02, Cond.selects RJ0 yJ0_isLatin1_aae02 yJ0_isLatin1_aae02, Cond.code yJ0_isLatin1_aae02 cJ0_isLatin1_aae02 1 (some .boolean), Cond.methodLink RJ0 495 yJ1_charAt_3b067, Cond.static yJ1_charAt_3b067, Cond.initialized RJ1, Cond.code yJ1_charAt_3b067 cJ1_charAt_3b067 2 (some .char), Cond.methodLink RJ1 9 yJ0_checkIndex_df160, Cond.static yJ0_checkIndex_df160, Cond.code yJ0_checkIndex_df160 cJ0_checkIndex_df160 2 none, Cond.fieldLink RJ0 1053 "jdk/internal/util/Preconditions" "SIOOBE_FORMATTER" "Ljava/util/function/BiFunction;", Cond.methodLink RJ0 1059 yJ3_checkIndex_8e157, Cond.static yJ3_checkIndex_8e157, Cond.initialized RJ3, Cond.code yJ3_checkIndex_8e157 cJ3_checkIndex_8e157 3 (some .int), Cond.methodLink RJ0 498 yJ2_charAt_3b067, Cond.static yJ2_charAt_3b067, Cond.initialized RJ2, Cond.code yJ2_charAt_3b067 cJ2_charAt_3b067 2 (some .char), Cond.methodLink RJ2 67 yJ2_checkIndex_2214a, Cond.static yJ2_checkIndex_2214a, Cond.code yJ2_checkIndex_2214a cJ2_checkIndex_2214a 2 none]
def wsX5_isTaken_r3 : List Cond := [Cond.methodLink RJ2 48 yJ2_length_9d52b, Cond.static yJ2_length_9d52b, Cond.code yJ2_length_9d52b cJ2_length_9d52b 1 (some .int), Cond.methodLink RJ2 414 yJ0_checkIndex_df160, Cond.methodLink RJ2 71 yJ2_getChar_3b067, Cond.static yJ2_getChar_3b067, Cond.code yJ2_getChar_3b067 cJ2_getChar_3b067 2 (some .char), Cond.fieldLink RJ2 44 "java/lang/StringUTF16" "$assertionsDisabled" "Z", Cond.fieldLink RJ2 59 "java/lang/StringUTF16" "HI_BYTE_SHIFT" "I", Cond.fieldLink RJ2 63 "java/lang/StringUTF16" "LO_BYTE_SHIFT" "I"]
def wsX5_isTaken : List Cond := .code yX5_isTaken cX5_isTaken 3 (some .boolean) :: ((wsX5_isTaken_r1 ++ (wsX5_isTaken_r2 ++ wsX5_isTaken_r3)) ++ wsX50)
def wsX5_wordTaken_r1 : List Cond := [Cond.methodLink RX5 82 yX5_wordOf, Cond.static yX5_wordOf, Cond.initialized RX5, Cond.code yX5_wordOf cX5_wordOf 1 (some (.object "java/lang/String")), Cond.methodLink RX5 85 yX5_isTaken, Cond.instanceMethod yX5_isTaken, Cond.selects RX5 yX5_isTaken yX5_isTaken, Cond.code yX5_isTaken cX5_isTaken 3 (some .boolean), Cond.fieldLink RX5 28 "WrongClocks$Text" "end" "I", Cond.fieldLink RX5 25 "WrongClocks$Text" "start" "I", Cond.methodLink RX5 57 yJ0_length_8abf5, Cond.instanceMethod yJ0_length_8abf5, Cond.selects RJ0 yJ0_length_8abf5 yJ0_length_8abf5, Cond.initialized RJ0, Cond.code yJ0_length_8abf5 cJ0_length_8abf5 1 (some .int), Cond.fieldLink RJ0 9 "java/lang/String" "value" "[B", Cond.methodLink RJ0 335 yJ0_coder_7d493, Cond.instanceMethod yJ0_coder_7d493, Cond.selects RJ0 yJ0_coder_7d493 yJ0_coder_7d493, Cond.code yJ0_coder_7d493 cJ0_coder_7d493 1 (some .byte), Cond.fieldLink RJ0 38 "java/lang/String" "COMPACT_STRINGS" "Z", Cond.fieldLink RJ0 15 "java/lang/String" "coder" "B", Cond.methodLink RX5 45 yX5_signAt, Cond.instanceMethod yX5_signAt]
def wsX5_wordTaken_r2 : List Cond := [Cond.selects RX5 yX5_signAt yX5_signAt, Cond.code yX5_signAt cX5_signAt 2 (some .int), Cond.fieldLink RX5 15 "WrongClocks$Text" "length" "I", Cond.fieldLink RX5 9 "WrongClocks$Text" "bytes" "[I", Cond.methodLink RX5 61 yJ0_charAt_5068e, Cond.instanceMethod yJ0_charAt_5068e, Cond.selects RJ0 yJ0_charAt_5068e yJ0_charAt_5068e, Cond.code yJ0_charAt_5068e cJ0_charAt_5068e 2 (some .char), Cond.methodLink RJ0 492 yJ0_isLatin1_aae02, Cond.instanceMethod yJ0_isLatin1_aae02, Cond.selects RJ0 yJ0_isLatin1_aae02 yJ0_isLatin1_aae02, Cond.code yJ0_isLatin1_aae02 cJ0_isLatin1_aae02 1 (some .boolean), Cond.methodLink RJ0 495 yJ1_charAt_3b067, Cond.static yJ1_charAt_3b067, Cond.initialized RJ1, Cond.code yJ1_charAt_3b067 cJ1_charAt_3b067 2 (some .char), Cond.methodLink RJ1 9 yJ0_checkIndex_df160, Cond.static yJ0_checkIndex_df160, Cond.code yJ0_checkIndex_df160 cJ0_checkIndex_df160 2 none, Cond.fieldLink RJ0 1053 "jdk/internal/util/Preconditions" "SIOOBE_FORMATTER" "Ljava/util/function/BiFunction;", Cond.methodLink RJ0 1059 yJ3_checkIndex_8e157, Cond.static yJ3_checkIndex_8e157, Cond.initialized RJ3, Cond.code yJ3_checkIndex_8e157 cJ3_checkIndex_8e157 3 (some .int)]
def wsX5_wordTaken_r3 : List Cond := [Cond.methodLink RJ0 498 yJ2_charAt_3b067, Cond.static yJ2_charAt_3b067, Cond.initialized RJ2, Cond.code yJ2_charAt_3b067 cJ2_charAt_3b067 2 (some .char), Cond.methodLink RJ2 67 yJ2_checkIndex_2214a, Cond.static yJ2_checkIndex_2214a, Cond.code yJ2_checkIndex_2214a cJ2_checkIndex_2214a 2 none, Cond.methodLink RJ2 48 yJ2_length_9d52b, Cond.static yJ2_length_9d52b, Cond.code yJ2_length_9d52b cJ2_length_9d52b 1 (some .int), Cond.methodLink RJ2 414 yJ0_checkIndex_df160, Cond.methodLink RJ2 71 yJ2_getChar_3b067, Cond.static yJ2_getChar_3b067, Cond.code yJ2_getChar_3b067 cJ2_getChar_3b067 2 (some .char), Cond.fieldLink RJ2 44 "java/lang/StringUTF16" "$assertionsDisabled" "Z", Cond.fieldLink RJ2 59 "java/lang/StringUTF16" "HI_BYTE_SHIFT" "I", Cond.fieldLink RJ2 63 "java/lang/StringUTF16" "LO_BYTE_SHIFT" "I"]
def wsX5_wordTaken : List Cond := .code yX5_wordTaken cX5_wordTaken 2 (some .int) :: ((wsX5_wordTaken_r1 ++ (wsX5_wordTaken_r2 ++ wsX5_wordTaken_r3)) ++ wsX50)
def wsX5_numbersOf : List Cond := .code yX5_numbersOf cX5_numbersOf 1 (some (.object "java/lang/String")) :: ([])
def wsX5_numberTaken : List Cond := .code yX5_numberTaken cX5_numberTaken 3 (some .int) :: ([.fieldLink RX5 28 "WrongClocks$Text" "end" "I", .fieldLink RX5 25 "WrongClocks$Text" "start" "I", .methodLink RX5 45 yX5_signAt, .instanceMethod yX5_signAt, .selects RX5 yX5_signAt yX5_signAt, .initialized RX5, .code yX5_signAt cX5_signAt 2 (some .int), .fieldLink RX5 15 "WrongClocks$Text" "length" "I", .fieldLink RX5 9 "WrongClocks$Text" "bytes" "[I", .methodLink RX5 79 yX5_isDigit, .static yX5_isDigit, .code yX5_isDigit cX5_isDigit 1 (some .boolean)] ++ wsX50)
def wsX5_mostOf : List Cond := .code yX5_mostOf cX5_mostOf 1 (some .int) :: ([])
def wsX5_takeLine_r1 : List Cond := [Cond.fieldLink RX5 19 "WrongClocks$Text" "rows" "[I", Cond.methodLink RX5 42 yX5_takeToken, Cond.instanceMethod yX5_takeToken, Cond.selects RX5 yX5_takeToken yX5_takeToken, Cond.initialized RX5, Cond.code yX5_takeToken cX5_takeToken 1 none, Cond.fieldLink RX5 28 "WrongClocks$Text" "end" "I", Cond.fieldLink RX5 25 "WrongClocks$Text" "start" "I", Cond.fieldLink RX5 15 "WrongClocks$Text" "length" "I", Cond.methodLink RX5 45 yX5_signAt, Cond.instanceMethod yX5_signAt, Cond.selects RX5 yX5_signAt yX5_signAt, Cond.code yX5_signAt cX5_signAt 2 (some .int), Cond.fieldLink RX5 9 "WrongClocks$Text" "bytes" "[I", Cond.methodLink RX5 75 yX5_isLetter, Cond.static yX5_isLetter, Cond.code yX5_isLetter cX5_isLetter 1 (some .boolean), Cond.methodLink RX5 79 yX5_isDigit, Cond.static yX5_isDigit, Cond.code yX5_isDigit cX5_isDigit 1 (some .boolean), Cond.methodLink RX5 49 yX5_wordTaken, Cond.instanceMethod yX5_wordTaken, Cond.selects RX5 yX5_wordTaken yX5_wordTaken, Cond.code yX5_wordTaken cX5_wordTaken 2 (some .int)]
def wsX5_takeLine_r2 : List Cond := [Cond.methodLink RX5 82 yX5_wordOf, Cond.static yX5_wordOf, Cond.code yX5_wordOf cX5_wordOf 1 (some (.object "java/lang/String")), Cond.methodLink RX5 85 yX5_isTaken, Cond.instanceMethod yX5_isTaken, Cond.selects RX5 yX5_isTaken yX5_isTaken, Cond.code yX5_isTaken cX5_isTaken 3 (some .boolean), Cond.methodLink RX5 57 yJ0_length_8abf5, Cond.instanceMethod yJ0_length_8abf5, Cond.selects RJ0 yJ0_length_8abf5 yJ0_length_8abf5, Cond.initialized RJ0, Cond.code yJ0_length_8abf5 cJ0_length_8abf5 1 (some .int), Cond.fieldLink RJ0 9 "java/lang/String" "value" "[B", Cond.methodLink RJ0 335 yJ0_coder_7d493, Cond.instanceMethod yJ0_coder_7d493, Cond.selects RJ0 yJ0_coder_7d493 yJ0_coder_7d493, Cond.code yJ0_coder_7d493 cJ0_coder_7d493 1 (some .byte), Cond.fieldLink RJ0 38 "java/lang/String" "COMPACT_STRINGS" "Z", Cond.fieldLink RJ0 15 "java/lang/String" "coder" "B", Cond.methodLink RX5 61 yJ0_charAt_5068e, Cond.instanceMethod yJ0_charAt_5068e, Cond.selects RJ0 yJ0_charAt_5068e yJ0_charAt_5068e, Cond.code yJ0_charAt_5068e cJ0_charAt_5068e 2 (some .char), Cond.methodLink RJ0 492 yJ0_isLatin1_aae02]
def wsX5_takeLine_r3 : List Cond := [Cond.instanceMethod yJ0_isLatin1_aae02, Cond.selects RJ0 yJ0_isLatin1_aae02 yJ0_isLatin1_aae02, Cond.code yJ0_isLatin1_aae02 cJ0_isLatin1_aae02 1 (some .boolean), Cond.methodLink RJ0 495 yJ1_charAt_3b067, Cond.static yJ1_charAt_3b067, Cond.initialized RJ1, Cond.code yJ1_charAt_3b067 cJ1_charAt_3b067 2 (some .char), Cond.methodLink RJ1 9 yJ0_checkIndex_df160, Cond.static yJ0_checkIndex_df160, Cond.code yJ0_checkIndex_df160 cJ0_checkIndex_df160 2 none, Cond.fieldLink RJ0 1053 "jdk/internal/util/Preconditions" "SIOOBE_FORMATTER" "Ljava/util/function/BiFunction;", Cond.methodLink RJ0 1059 yJ3_checkIndex_8e157, Cond.static yJ3_checkIndex_8e157, Cond.initialized RJ3, Cond.code yJ3_checkIndex_8e157 cJ3_checkIndex_8e157 3 (some .int), Cond.methodLink RJ0 498 yJ2_charAt_3b067, Cond.static yJ2_charAt_3b067, Cond.initialized RJ2, Cond.code yJ2_charAt_3b067 cJ2_charAt_3b067 2 (some .char), Cond.methodLink RJ2 67 yJ2_checkIndex_2214a, Cond.static yJ2_checkIndex_2214a, Cond.code yJ2_checkIndex_2214a cJ2_checkIndex_2214a 2 none, Cond.methodLink RJ2 48 yJ2_length_9d52b, Cond.static yJ2_length_9d52b]
def wsX5_takeLine_r4 : List Cond := [Cond.code yJ2_length_9d52b cJ2_length_9d52b 1 (some .int), Cond.methodLink RJ2 414 yJ0_checkIndex_df160, Cond.methodLink RJ2 71 yJ2_getChar_3b067, Cond.static yJ2_getChar_3b067, Cond.code yJ2_getChar_3b067 cJ2_getChar_3b067 2 (some .char), Cond.fieldLink RJ2 44 "java/lang/StringUTF16" "$assertionsDisabled" "Z", Cond.fieldLink RJ2 59 "java/lang/StringUTF16" "HI_BYTE_SHIFT" "I", Cond.fieldLink RJ2 63 "java/lang/StringUTF16" "LO_BYTE_SHIFT" "I", Cond.static yX6_isBelow, Cond.initialized RX6, Cond.code yX6_isBelow cX6_isBelow 2 (some .boolean), Cond.methodLink RX5 53 yX5_numbersOf, Cond.static yX5_numbersOf, Cond.code yX5_numbersOf cX5_numbersOf 1 (some (.object "java/lang/String")), Cond.methodLink RX5 65 yX5_numberTaken, Cond.instanceMethod yX5_numberTaken, Cond.selects RX5 yX5_numberTaken yX5_numberTaken, Cond.code yX5_numberTaken cX5_numberTaken 3 (some .int), Cond.methodLink RX5 68 yX5_mostOf, Cond.static yX5_mostOf, Cond.code yX5_mostOf cX5_mostOf 1 (some .int)]
def wsX5_takeLine : List Cond := .code yX5_takeLine cX5_takeLine 10 (some .boolean) :: ((wsX5_takeLine_r1 ++ (wsX5_takeLine_r2 ++ (wsX5_takeLine_r3 ++ wsX5_takeLine_r4))) ++ wsX50)
def wsX5_knownBehind : List Cond := .code yX5_knownBehind cX5_knownBehind 4 (some .int) :: ([.methodLink RX5 72 yX5_number, .instanceMethod yX5_number, .selects RX5 yX5_number yX5_number, .initialized RX5, .code yX5_number cX5_number 3 (some .int), .fieldLink RX5 19 "WrongClocks$Text" "rows" "[I", .static yX6_isBelow, .initialized RX6, .code yX6_isBelow cX6_isBelow 2 (some .boolean)] ++ wsX50)
def wsX5_findFault_r1 : List Cond := [Cond.fieldLink RX5 28 "WrongClocks$Text" "end" "I", Cond.fieldLink RX5 22 "WrongClocks$Text" "lineCount" "I", Cond.fieldLink RX5 25 "WrongClocks$Text" "start" "I", Cond.fieldLink RX5 15 "WrongClocks$Text" "length" "I", Cond.methodLink RX5 35 yX5_takeLine, Cond.instanceMethod yX5_takeLine, Cond.selects RX5 yX5_takeLine yX5_takeLine, Cond.initialized RX5, Cond.code yX5_takeLine cX5_takeLine 10 (some .boolean), Cond.fieldLink RX5 19 "WrongClocks$Text" "rows" "[I", Cond.methodLink RX5 42 yX5_takeToken, Cond.instanceMethod yX5_takeToken, Cond.selects RX5 yX5_takeToken yX5_takeToken, Cond.code yX5_takeToken cX5_takeToken 1 none, Cond.methodLink RX5 45 yX5_signAt, Cond.instanceMethod yX5_signAt, Cond.selects RX5 yX5_signAt yX5_signAt, Cond.code yX5_signAt cX5_signAt 2 (some .int), Cond.fieldLink RX5 9 "WrongClocks$Text" "bytes" "[I", Cond.methodLink RX5 75 yX5_isLetter, Cond.static yX5_isLetter, Cond.code yX5_isLetter cX5_isLetter 1 (some .boolean), Cond.methodLink RX5 79 yX5_isDigit, Cond.static yX5_isDigit]
def wsX5_findFault_r2 : List Cond := [Cond.code yX5_isDigit cX5_isDigit 1 (some .boolean), Cond.methodLink RX5 49 yX5_wordTaken, Cond.instanceMethod yX5_wordTaken, Cond.selects RX5 yX5_wordTaken yX5_wordTaken, Cond.code yX5_wordTaken cX5_wordTaken 2 (some .int), Cond.methodLink RX5 82 yX5_wordOf, Cond.static yX5_wordOf, Cond.code yX5_wordOf cX5_wordOf 1 (some (.object "java/lang/String")), Cond.methodLink RX5 85 yX5_isTaken, Cond.instanceMethod yX5_isTaken, Cond.selects RX5 yX5_isTaken yX5_isTaken, Cond.code yX5_isTaken cX5_isTaken 3 (some .boolean), Cond.methodLink RX5 57 yJ0_length_8abf5, Cond.instanceMethod yJ0_length_8abf5, Cond.selects RJ0 yJ0_length_8abf5 yJ0_length_8abf5, Cond.initialized RJ0, Cond.code yJ0_length_8abf5 cJ0_length_8abf5 1 (some .int), Cond.fieldLink RJ0 9 "java/lang/String" "value" "[B", Cond.methodLink RJ0 335 yJ0_coder_7d493, Cond.instanceMethod yJ0_coder_7d493, Cond.selects RJ0 yJ0_coder_7d493 yJ0_coder_7d493, Cond.code yJ0_coder_7d493 cJ0_coder_7d493 1 (some .byte), Cond.fieldLink RJ0 38 "java/lang/String" "COMPACT_STRINGS" "Z", Cond.fieldLink RJ0 15 "java/lang/String" "coder" "B"]
def wsX5_findFault_r3 : List Cond := [Cond.methodLink RX5 61 yJ0_charAt_5068e, Cond.instanceMethod yJ0_charAt_5068e, Cond.selects RJ0 yJ0_charAt_5068e yJ0_charAt_5068e, Cond.code yJ0_charAt_5068e cJ0_charAt_5068e 2 (some .char), Cond.methodLink RJ0 492 yJ0_isLatin1_aae02, Cond.instanceMethod yJ0_isLatin1_aae02, Cond.selects RJ0 yJ0_isLatin1_aae02 yJ0_isLatin1_aae02, Cond.code yJ0_isLatin1_aae02 cJ0_isLatin1_aae02 1 (some .boolean), Cond.methodLink RJ0 495 yJ1_charAt_3b067, Cond.static yJ1_charAt_3b067, Cond.initialized RJ1, Cond.code yJ1_charAt_3b067 cJ1_charAt_3b067 2 (some .char), Cond.methodLink RJ1 9 yJ0_checkIndex_df160, Cond.static yJ0_checkIndex_df160, Cond.code yJ0_checkIndex_df160 cJ0_checkIndex_df160 2 none, Cond.fieldLink RJ0 1053 "jdk/internal/util/Preconditions" "SIOOBE_FORMATTER" "Ljava/util/function/BiFunction;", Cond.methodLink RJ0 1059 yJ3_checkIndex_8e157, Cond.static yJ3_checkIndex_8e157, Cond.initialized RJ3, Cond.code yJ3_checkIndex_8e157 cJ3_checkIndex_8e157 3 (some .int), Cond.methodLink RJ0 498 yJ2_charAt_3b067, Cond.static yJ2_charAt_3b067, Cond.initialized RJ2, Cond.code yJ2_charAt_3b067 cJ2_charAt_3b067 2 (some .char)]
def wsX5_findFault_r4 : List Cond := [Cond.methodLink RJ2 67 yJ2_checkIndex_2214a, Cond.static yJ2_checkIndex_2214a, Cond.code yJ2_checkIndex_2214a cJ2_checkIndex_2214a 2 none, Cond.methodLink RJ2 48 yJ2_length_9d52b, Cond.static yJ2_length_9d52b, Cond.code yJ2_length_9d52b cJ2_length_9d52b 1 (some .int), Cond.methodLink RJ2 414 yJ0_checkIndex_df160, Cond.methodLink RJ2 71 yJ2_getChar_3b067, Cond.static yJ2_getChar_3b067, Cond.code yJ2_getChar_3b067 cJ2_getChar_3b067 2 (some .char), Cond.fieldLink RJ2 44 "java/lang/StringUTF16" "$assertionsDisabled" "Z", Cond.fieldLink RJ2 59 "java/lang/StringUTF16" "HI_BYTE_SHIFT" "I", Cond.fieldLink RJ2 63 "java/lang/StringUTF16" "LO_BYTE_SHIFT" "I", Cond.static yX6_isBelow, Cond.initialized RX6, Cond.code yX6_isBelow cX6_isBelow 2 (some .boolean), Cond.methodLink RX5 53 yX5_numbersOf, Cond.static yX5_numbersOf, Cond.code yX5_numbersOf cX5_numbersOf 1 (some (.object "java/lang/String")), Cond.methodLink RX5 65 yX5_numberTaken, Cond.instanceMethod yX5_numberTaken, Cond.selects RX5 yX5_numberTaken yX5_numberTaken, Cond.code yX5_numberTaken cX5_numberTaken 3 (some .int), Cond.methodLink RX5 68 yX5_mostOf]
def wsX5_findFault_r5 : List Cond := [Cond.static yX5_mostOf, Cond.code yX5_mostOf cX5_mostOf 1 (some .int), Cond.methodLink RX5 38 yX5_knownBehind, Cond.instanceMethod yX5_knownBehind, Cond.selects RX5 yX5_knownBehind yX5_knownBehind, Cond.code yX5_knownBehind cX5_knownBehind 4 (some .int), Cond.methodLink RX5 72 yX5_number, Cond.instanceMethod yX5_number, Cond.selects RX5 yX5_number yX5_number, Cond.code yX5_number cX5_number 3 (some .int)]
def wsX5_findFault : List Cond := .code yX5_findFault cX5_findFault 4 (some .int) :: ((wsX5_findFault_r1 ++ (wsX5_findFault_r2 ++ (wsX5_findFault_r3 ++ (wsX5_findFault_r4 ++ wsX5_findFault_r5)))) ++ wsX50)
def wsX6_init_r1 : List Cond := [Cond.methodLink RX6 3 objectInit, Cond.instanceMethod objectInit, Cond.code objectInit ⟨#[0xb1]⟩ 1 none, Cond.classLink RX6 9 RX5, Cond.instantiable RX5 6, Cond.initialized RX5, Cond.fieldLink RX6 12 "WrongClocks" "text" "LWrongClocks$Text;", Cond.classLink RX6 16 RX1, Cond.instantiable RX1 3, Cond.initialized RX1, Cond.fieldLink RX6 19 "WrongClocks" "present" "LWrongClocks$House;", Cond.fieldLink RX6 23 "WrongClocks" "kept" "[LWrongClocks$House;", Cond.classLink RX6 27 RX4, Cond.instantiable RX4 4, Cond.initialized RX4, Cond.fieldLink RX6 30 "WrongClocks" "tally" "LWrongClocks$Tally;", Cond.classLink RX6 34 RX0, Cond.instantiable RX0 6, Cond.initialized RX0, Cond.fieldLink RX6 37 "WrongClocks" "trial" "LWrongClocks$Clock;", Cond.classLink RX6 41 RX3, Cond.instantiable RX3 4, Cond.initialized RX3, Cond.fieldLink RX6 44 "WrongClocks" "queue" "LWrongClocks$Queue;"]
def wsX6_init_r2 : List Cond := [Cond.arrayClass .int, Cond.fieldLink RX6 48 "WrongClocks" "misfits" "[I", Cond.fieldLink RX6 52 "WrongClocks" "sifted" "Z", Cond.fieldLink RX6 56 "WrongClocks" "shown" "[I", Cond.instanceMethod yX5_init, Cond.code yX5_init cX5_init 1 none, Cond.methodLink RX5 3 objectInit, Cond.fieldLink RX5 9 "WrongClocks$Text" "bytes" "[I", Cond.fieldLink RX5 15 "WrongClocks$Text" "length" "I", Cond.fieldLink RX5 19 "WrongClocks$Text" "rows" "[I", Cond.fieldLink RX5 22 "WrongClocks$Text" "lineCount" "I", Cond.fieldLink RX5 25 "WrongClocks$Text" "start" "I", Cond.fieldLink RX5 28 "WrongClocks$Text" "end" "I", Cond.methodLink RX6 18 yX1_init, Cond.instanceMethod yX1_init, Cond.code yX1_init cX1_init 2 none, Cond.methodLink RX1 3 objectInit, Cond.fieldLink RX1 9 "WrongClocks$House" "filled" "Z", Cond.classLink RX1 15 RX0, Cond.fieldLink RX1 17 "WrongClocks$House" "clocks" "[LWrongClocks$Clock;", Cond.classLink RX1 21 RX2, Cond.instantiable RX2 4, Cond.initialized RX2, Cond.fieldLink RX1 24 "WrongClocks$House" "notes" "LWrongClocks$Notes;"]
def wsX6_init_r3 : List Cond := [Cond.instanceMethod yX2_init, Cond.code yX2_init cX2_init 1 none, Cond.methodLink RX2 3 objectInit, Cond.fieldLink RX2 9 "WrongClocks$Notes" "many" "I", Cond.fieldLink RX2 15 "WrongClocks$Notes" "clocks" "[I", Cond.fieldLink RX2 19 "WrongClocks$Notes" "minutes" "[I", Cond.fieldLink RX2 22 "WrongClocks$Notes" "dials" "[I", Cond.instanceMethod yX0_init, Cond.code yX0_init cX0_init 1 none, Cond.methodLink RX0 3 objectInit, Cond.fieldLink RX0 9 "WrongClocks$Clock" "kind" "I", Cond.fieldLink RX0 15 "WrongClocks$Clock" "set" "I", Cond.fieldLink RX0 18 "WrongClocks$Clock" "dial" "I", Cond.fieldLink RX0 21 "WrongClocks$Clock" "low" "I", Cond.fieldLink RX0 24 "WrongClocks$Clock" "high" "I", Cond.fieldLink RX0 27 "WrongClocks$Clock" "read" "I", Cond.instanceMethod yX4_init, Cond.code yX4_init cX4_init 1 none, Cond.methodLink RX4 3 objectInit, Cond.fieldLink RX4 9 "WrongClocks$Tally" "many" "I", Cond.fieldLink RX4 15 "WrongClocks$Tally" "first" "I", Cond.fieldLink RX4 18 "WrongClocks$Tally" "last" "I", Cond.fieldLink RX4 21 "WrongClocks$Tally" "runs" "I", Cond.instanceMethod yX3_init]
def wsX6_init_r4 : List Cond := [Cond.code yX3_init cX3_init 1 none, Cond.methodLink RX3 3 objectInit, Cond.fieldLink RX3 9 "WrongClocks$Queue" "many" "I", Cond.fieldLink RX3 15 "WrongClocks$Queue" "clocks" "[I", Cond.fieldLink RX3 19 "WrongClocks$Queue" "rates" "[I", Cond.fieldLink RX3 22 "WrongClocks$Queue" "least" "[I"]
def wsX6_init : List Cond := .code yX6_init cX6_init 2 none :: ((wsX6_init_r1 ++ (wsX6_init_r2 ++ (wsX6_init_r3 ++ wsX6_init_r4))) ++ wsX50 ++ wsX60 ++ wsX10 ++ wsX40 ++ wsX00 ++ wsX30 ++ wsX20)
def wsX6_write : List Cond := .code yX6_write cX6_write 5 (some .int) :: ([.fieldLink RX6 12 "WrongClocks" "text" "LWrongClocks$Text;", .fieldLink RX6 59 "WrongClocks$Text" "length" "I", .constantLong RX6 63 (255), .methodLink RX6 65 yX5_put, .instanceMethod yX5_put, .selects RX5 yX5_put yX5_put, .initialized RX5, .code yX5_put cX5_put 2 none, .fieldLink RX5 15 "WrongClocks$Text" "length" "I", .fieldLink RX5 9 "WrongClocks$Text" "bytes" "[I"] ++ wsX60 ++ wsX50)
def wsX6_erase : List Cond := .code yX6_erase cX6_erase 2 (some .int) :: ([.fieldLink RX6 12 "WrongClocks" "text" "LWrongClocks$Text;", .fieldLink RX6 59 "WrongClocks$Text" "length" "I"] ++ wsX60 ++ wsX50)
def wsX6_fault_r1 : List Cond := [Cond.fieldLink RX6 12 "WrongClocks" "text" "LWrongClocks$Text;", Cond.fieldLink RX6 19 "WrongClocks" "present" "LWrongClocks$House;", Cond.methodLink RX6 69 yX1_toldBits, Cond.instanceMethod yX1_toldBits, Cond.selects RX1 yX1_toldBits yX1_toldBits, Cond.initialized RX1, Cond.code yX1_toldBits cX1_toldBits 3 (some .int), Cond.fieldLink RX1 17 "WrongClocks$House" "clocks" "[LWrongClocks$Clock;", Cond.fieldLink RX1 40 "WrongClocks$Clock" "kind" "I", Cond.methodLink RX6 73 yX5_findFault, Cond.instanceMethod yX5_findFault, Cond.selects RX5 yX5_findFault yX5_findFault, Cond.initialized RX5, Cond.code yX5_findFault cX5_findFault 4 (some .int), Cond.fieldLink RX5 28 "WrongClocks$Text" "end" "I", Cond.fieldLink RX5 22 "WrongClocks$Text" "lineCount" "I", Cond.fieldLink RX5 25 "WrongClocks$Text" "start" "I", Cond.fieldLink RX5 15 "WrongClocks$Text" "length" "I", Cond.methodLink RX5 35 yX5_takeLine, Cond.instanceMethod yX5_takeLine, Cond.selects RX5 yX5_takeLine yX5_takeLine, Cond.code yX5_takeLine cX5_takeLine 10 (some .boolean), Cond.fieldLink RX5 19 "WrongClocks$Text" "rows" "[I", Cond.methodLink RX5 42 yX5_takeToken]
def wsX6_fault_r2 : List Cond := [Cond.instanceMethod yX5_takeToken, Cond.selects RX5 yX5_takeToken yX5_takeToken, Cond.code yX5_takeToken cX5_takeToken 1 none, Cond.methodLink RX5 45 yX5_signAt, Cond.instanceMethod yX5_signAt, Cond.selects RX5 yX5_signAt yX5_signAt, Cond.code yX5_signAt cX5_signAt 2 (some .int), Cond.fieldLink RX5 9 "WrongClocks$Text" "bytes" "[I", Cond.methodLink RX5 75 yX5_isLetter, Cond.static yX5_isLetter, Cond.code yX5_isLetter cX5_isLetter 1 (some .boolean), Cond.methodLink RX5 79 yX5_isDigit, Cond.static yX5_isDigit, Cond.code yX5_isDigit cX5_isDigit 1 (some .boolean), Cond.methodLink RX5 49 yX5_wordTaken, Cond.instanceMethod yX5_wordTaken, Cond.selects RX5 yX5_wordTaken yX5_wordTaken, Cond.code yX5_wordTaken cX5_wordTaken 2 (some .int), Cond.methodLink RX5 82 yX5_wordOf, Cond.static yX5_wordOf, Cond.code yX5_wordOf cX5_wordOf 1 (some (.object "java/lang/String")), Cond.methodLink RX5 85 yX5_isTaken, Cond.instanceMethod yX5_isTaken, Cond.selects RX5 yX5_isTaken yX5_isTaken]
def wsX6_fault_r3 : List Cond := [Cond.code yX5_isTaken cX5_isTaken 3 (some .boolean), Cond.methodLink RX5 57 yJ0_length_8abf5, Cond.instanceMethod yJ0_length_8abf5, Cond.selects RJ0 yJ0_length_8abf5 yJ0_length_8abf5, Cond.initialized RJ0, Cond.code yJ0_length_8abf5 cJ0_length_8abf5 1 (some .int), Cond.fieldLink RJ0 9 "java/lang/String" "value" "[B", Cond.methodLink RJ0 335 yJ0_coder_7d493, Cond.instanceMethod yJ0_coder_7d493, Cond.selects RJ0 yJ0_coder_7d493 yJ0_coder_7d493, Cond.code yJ0_coder_7d493 cJ0_coder_7d493 1 (some .byte), Cond.fieldLink RJ0 38 "java/lang/String" "COMPACT_STRINGS" "Z", Cond.fieldLink RJ0 15 "java/lang/String" "coder" "B", Cond.methodLink RX5 61 yJ0_charAt_5068e, Cond.instanceMethod yJ0_charAt_5068e, Cond.selects RJ0 yJ0_charAt_5068e yJ0_charAt_5068e, Cond.code yJ0_charAt_5068e cJ0_charAt_5068e 2 (some .char), Cond.methodLink RJ0 492 yJ0_isLatin1_aae02, Cond.instanceMethod yJ0_isLatin1_aae02, Cond.selects RJ0 yJ0_isLatin1_aae02 yJ0_isLatin1_aae02, Cond.code yJ0_isLatin1_aae02 cJ0_isLatin1_aae02 1 (some .boolean), Cond.methodLink RJ0 495 yJ1_charAt_3b067, Cond.static yJ1_charAt_3b067, Cond.initialized RJ1]
def wsX6_fault_r4 : List Cond := [Cond.code yJ1_charAt_3b067 cJ1_charAt_3b067 2 (some .char), Cond.methodLink RJ1 9 yJ0_checkIndex_df160, Cond.static yJ0_checkIndex_df160, Cond.code yJ0_checkIndex_df160 cJ0_checkIndex_df160 2 none, Cond.fieldLink RJ0 1053 "jdk/internal/util/Preconditions" "SIOOBE_FORMATTER" "Ljava/util/function/BiFunction;", Cond.methodLink RJ0 1059 yJ3_checkIndex_8e157, Cond.static yJ3_checkIndex_8e157, Cond.initialized RJ3, Cond.code yJ3_checkIndex_8e157 cJ3_checkIndex_8e157 3 (some .int), Cond.methodLink RJ0 498 yJ2_charAt_3b067, Cond.static yJ2_charAt_3b067, Cond.initialized RJ2, Cond.code yJ2_charAt_3b067 cJ2_charAt_3b067 2 (some .char), Cond.methodLink RJ2 67 yJ2_checkIndex_2214a, Cond.static yJ2_checkIndex_2214a, Cond.code yJ2_checkIndex_2214a cJ2_checkIndex_2214a 2 none, Cond.methodLink RJ2 48 yJ2_length_9d52b, Cond.static yJ2_length_9d52b, Cond.code yJ2_length_9d52b cJ2_length_9d52b 1 (some .int), Cond.methodLink RJ2 414 yJ0_checkIndex_df160, Cond.methodLink RJ2 71 yJ2_getChar_3b067, Cond.static yJ2_getChar_3b067, Cond.code yJ2_getChar_3b067 cJ2_getChar_3b067 2 (some .char), Cond.fieldLink RJ2 44 "java/lang/StringUTF16" "$assertionsDisabled" "Z"]
def wsX6_fault_r5 : List Cond := [Cond.fieldLink RJ2 59 "java/lang/StringUTF16" "HI_BYTE_SHIFT" "I", Cond.fieldLink RJ2 63 "java/lang/StringUTF16" "LO_BYTE_SHIFT" "I", Cond.static yX6_isBelow, Cond.initialized RX6, Cond.code yX6_isBelow cX6_isBelow 2 (some .boolean), Cond.methodLink RX5 53 yX5_numbersOf, Cond.static yX5_numbersOf, Cond.code yX5_numbersOf cX5_numbersOf 1 (some (.object "java/lang/String")), Cond.methodLink RX5 65 yX5_numberTaken, Cond.instanceMethod yX5_numberTaken, Cond.selects RX5 yX5_numberTaken yX5_numberTaken, Cond.code yX5_numberTaken cX5_numberTaken 3 (some .int), Cond.methodLink RX5 68 yX5_mostOf, Cond.static yX5_mostOf, Cond.code yX5_mostOf cX5_mostOf 1 (some .int), Cond.methodLink RX5 38 yX5_knownBehind, Cond.instanceMethod yX5_knownBehind, Cond.selects RX5 yX5_knownBehind yX5_knownBehind, Cond.code yX5_knownBehind cX5_knownBehind 4 (some .int), Cond.methodLink RX5 72 yX5_number, Cond.instanceMethod yX5_number, Cond.selects RX5 yX5_number yX5_number, Cond.code yX5_number cX5_number 3 (some .int)]
def wsX6_fault : List Cond := .code yX6_fault cX6_fault 1 (some .int) :: ((wsX6_fault_r1 ++ (wsX6_fault_r2 ++ (wsX6_fault_r3 ++ (wsX6_fault_r4 ++ wsX6_fault_r5)))) ++ wsX60 ++ wsX10 ++ wsX00 ++ wsX50)
def wsX6_house_r1 : List Cond := [Cond.fieldLink RX6 12 "WrongClocks" "text" "LWrongClocks$Text;", Cond.fieldLink RX6 19 "WrongClocks" "present" "LWrongClocks$House;", Cond.fieldLink RX6 77 "WrongClocks$Text" "lineCount" "I", Cond.fieldLink RX6 52 "WrongClocks" "sifted" "Z", Cond.fieldLink RX6 59 "WrongClocks$Text" "length" "I", Cond.methodLink RX6 69 yX1_toldBits, Cond.instanceMethod yX1_toldBits, Cond.selects RX1 yX1_toldBits yX1_toldBits, Cond.initialized RX1, Cond.code yX1_toldBits cX1_toldBits 3 (some .int), Cond.fieldLink RX1 17 "WrongClocks$House" "clocks" "[LWrongClocks$Clock;", Cond.fieldLink RX1 40 "WrongClocks$Clock" "kind" "I", Cond.methodLink RX6 73 yX5_findFault, Cond.instanceMethod yX5_findFault, Cond.selects RX5 yX5_findFault yX5_findFault, Cond.initialized RX5, Cond.code yX5_findFault cX5_findFault 4 (some .int), Cond.fieldLink RX5 28 "WrongClocks$Text" "end" "I", Cond.fieldLink RX5 22 "WrongClocks$Text" "lineCount" "I", Cond.fieldLink RX5 25 "WrongClocks$Text" "start" "I", Cond.fieldLink RX5 15 "WrongClocks$Text" "length" "I", Cond.methodLink RX5 35 yX5_takeLine, Cond.instanceMethod yX5_takeLine, Cond.selects RX5 yX5_takeLine yX5_takeLine]
def wsX6_house_r2 : List Cond := [Cond.code yX5_takeLine cX5_takeLine 10 (some .boolean), Cond.fieldLink RX5 19 "WrongClocks$Text" "rows" "[I", Cond.methodLink RX5 42 yX5_takeToken, Cond.instanceMethod yX5_takeToken, Cond.selects RX5 yX5_takeToken yX5_takeToken, Cond.code yX5_takeToken cX5_takeToken 1 none, Cond.methodLink RX5 45 yX5_signAt, Cond.instanceMethod yX5_signAt, Cond.selects RX5 yX5_signAt yX5_signAt, Cond.code yX5_signAt cX5_signAt 2 (some .int), Cond.fieldLink RX5 9 "WrongClocks$Text" "bytes" "[I", Cond.methodLink RX5 75 yX5_isLetter, Cond.static yX5_isLetter, Cond.code yX5_isLetter cX5_isLetter 1 (some .boolean), Cond.methodLink RX5 79 yX5_isDigit, Cond.static yX5_isDigit, Cond.code yX5_isDigit cX5_isDigit 1 (some .boolean), Cond.methodLink RX5 49 yX5_wordTaken, Cond.instanceMethod yX5_wordTaken, Cond.selects RX5 yX5_wordTaken yX5_wordTaken, Cond.code yX5_wordTaken cX5_wordTaken 2 (some .int), Cond.methodLink RX5 82 yX5_wordOf, Cond.static yX5_wordOf, Cond.code yX5_wordOf cX5_wordOf 1 (some (.object "java/lang/String"))]
def wsX6_house_r3 : List Cond := [Cond.methodLink RX5 85 yX5_isTaken, Cond.instanceMethod yX5_isTaken, Cond.selects RX5 yX5_isTaken yX5_isTaken, Cond.code yX5_isTaken cX5_isTaken 3 (some .boolean), Cond.methodLink RX5 57 yJ0_length_8abf5, Cond.instanceMethod yJ0_length_8abf5, Cond.selects RJ0 yJ0_length_8abf5 yJ0_length_8abf5, Cond.initialized RJ0, Cond.code yJ0_length_8abf5 cJ0_length_8abf5 1 (some .int), Cond.fieldLink RJ0 9 "java/lang/String" "value" "[B", Cond.methodLink RJ0 335 yJ0_coder_7d493, Cond.instanceMethod yJ0_coder_7d493, Cond.selects RJ0 yJ0_coder_7d493 yJ0_coder_7d493, Cond.code yJ0_coder_7d493 cJ0_coder_7d493 1 (some .byte), Cond.fieldLink RJ0 38 "java/lang/String" "COMPACT_STRINGS" "Z", Cond.fieldLink RJ0 15 "java/lang/String" "coder" "B", Cond.methodLink RX5 61 yJ0_charAt_5068e, Cond.instanceMethod yJ0_charAt_5068e, Cond.selects RJ0 yJ0_charAt_5068e yJ0_charAt_5068e, Cond.code yJ0_charAt_5068e cJ0_charAt_5068e 2 (some .char), Cond.methodLink RJ0 492 yJ0_isLatin1_aae02, Cond.instanceMethod yJ0_isLatin1_aae02, Cond.selects RJ0 yJ0_isLatin1_aae02 yJ0_isLatin1_aae02, Cond.code yJ0_isLatin1_aae02 cJ0_isLatin1_aae02 1 (some .boolean)]
def wsX6_house_r4 : List Cond := [Cond.methodLink RJ0 495 yJ1_charAt_3b067, Cond.static yJ1_charAt_3b067, Cond.initialized RJ1, Cond.code yJ1_charAt_3b067 cJ1_charAt_3b067 2 (some .char), Cond.methodLink RJ1 9 yJ0_checkIndex_df160, Cond.static yJ0_checkIndex_df160, Cond.code yJ0_checkIndex_df160 cJ0_checkIndex_df160 2 none, Cond.fieldLink RJ0 1053 "jdk/internal/util/Preconditions" "SIOOBE_FORMATTER" "Ljava/util/function/BiFunction;", Cond.methodLink RJ0 1059 yJ3_checkIndex_8e157, Cond.static yJ3_checkIndex_8e157, Cond.initialized RJ3, Cond.code yJ3_checkIndex_8e157 cJ3_checkIndex_8e157 3 (some .int), Cond.methodLink RJ0 498 yJ2_charAt_3b067, Cond.static yJ2_charAt_3b067, Cond.initialized RJ2, Cond.code yJ2_charAt_3b067 cJ2_charAt_3b067 2 (some .char), Cond.methodLink RJ2 67 yJ2_checkIndex_2214a, Cond.static yJ2_checkIndex_2214a, Cond.code yJ2_checkIndex_2214a cJ2_checkIndex_2214a 2 none, Cond.methodLink RJ2 48 yJ2_length_9d52b, Cond.static yJ2_length_9d52b, Cond.code yJ2_length_9d52b cJ2_length_9d52b 1 (some .int), Cond.methodLink RJ2 414 yJ0_checkIndex_df160, Cond.methodLink RJ2 71 yJ2_getChar_3b067]
def wsX6_house_r5 : List Cond := [Cond.static yJ2_getChar_3b067, Cond.code yJ2_getChar_3b067 cJ2_getChar_3b067 2 (some .char), Cond.fieldLink RJ2 44 "java/lang/StringUTF16" "$assertionsDisabled" "Z", Cond.fieldLink RJ2 59 "java/lang/StringUTF16" "HI_BYTE_SHIFT" "I", Cond.fieldLink RJ2 63 "java/lang/StringUTF16" "LO_BYTE_SHIFT" "I", Cond.static yX6_isBelow, Cond.initialized RX6, Cond.code yX6_isBelow cX6_isBelow 2 (some .boolean), Cond.methodLink RX5 53 yX5_numbersOf, Cond.static yX5_numbersOf, Cond.code yX5_numbersOf cX5_numbersOf 1 (some (.object "java/lang/String")), Cond.methodLink RX5 65 yX5_numberTaken, Cond.instanceMethod yX5_numberTaken, Cond.selects RX5 yX5_numberTaken yX5_numberTaken, Cond.code yX5_numberTaken cX5_numberTaken 3 (some .int), Cond.methodLink RX5 68 yX5_mostOf, Cond.static yX5_mostOf, Cond.code yX5_mostOf cX5_mostOf 1 (some .int), Cond.methodLink RX5 38 yX5_knownBehind, Cond.instanceMethod yX5_knownBehind, Cond.selects RX5 yX5_knownBehind yX5_knownBehind, Cond.code yX5_knownBehind cX5_knownBehind 4 (some .int), Cond.methodLink RX5 72 yX5_number, Cond.instanceMethod yX5_number]
def wsX6_house_r6 : List Cond := [Cond.selects RX5 yX5_number yX5_number, Cond.code yX5_number cX5_number 3 (some .int), Cond.methodLink RX6 80 yX1_heed, Cond.instanceMethod yX1_heed, Cond.selects RX1 yX1_heed yX1_heed, Cond.code yX1_heed cX1_heed 8 none, Cond.fieldLink RX1 44 "WrongClocks$Clock" "read" "I", Cond.methodLink RX1 50 yX5_number, Cond.methodLink RX1 56 yX1_readNone, Cond.instanceMethod yX1_readNone, Cond.selects RX1 yX1_readNone yX1_readNone, Cond.code yX1_readNone cX1_readNone 2 none, Cond.methodLink RX1 59 yX0_tell, Cond.instanceMethod yX0_tell, Cond.selects RX0 yX0_tell yX0_tell, Cond.initialized RX0, Cond.code yX0_tell cX0_tell 6 none, Cond.fieldLink RX0 9 "WrongClocks$Clock" "kind" "I", Cond.fieldLink RX0 15 "WrongClocks$Clock" "set" "I", Cond.fieldLink RX0 18 "WrongClocks$Clock" "dial" "I", Cond.fieldLink RX0 21 "WrongClocks$Clock" "low" "I", Cond.fieldLink RX0 24 "WrongClocks$Clock" "high" "I", Cond.fieldLink RX0 27 "WrongClocks$Clock" "read" "I"]
def wsX6_house : List Cond := .code yX6_house cX6_house 2 (some .int) :: ((wsX6_house_r1 ++ (wsX6_house_r2 ++ (wsX6_house_r3 ++ (wsX6_house_r4 ++ (wsX6_house_r5 ++ wsX6_house_r6))))) ++ wsX60 ++ wsX50 ++ wsX10 ++ wsX00)
def wsX6_clock : List Cond := .code yX6_clock cX6_clock 5 (some .int) :: ([.fieldLink RX6 19 "WrongClocks" "present" "LWrongClocks$House;", .fieldLink RX6 88 "WrongClocks$Clock" "kind" "I", .fieldLink RX6 91 "WrongClocks$Clock" "set" "I", .fieldLink RX6 94 "WrongClocks$Clock" "dial" "I", .fieldLink RX6 97 "WrongClocks$Clock" "low" "I", .fieldLink RX6 100 "WrongClocks$Clock" "high" "I", .fieldLink RX6 103 "WrongClocks$Clock" "read" "I", .methodLink RX6 84 yX1_toldClock, .instanceMethod yX1_toldClock, .selects RX1 yX1_toldClock yX1_toldClock, .initialized RX1, .code yX1_toldClock cX1_toldClock 2 (some (.object "WrongClocks$Clock")), .fieldLink RX1 17 "WrongClocks$House" "clocks" "[LWrongClocks$Clock;", .fieldLink RX1 40 "WrongClocks$Clock" "kind" "I", .static yX6_isBelow, .initialized RX6, .code yX6_isBelow cX6_isBelow 2 (some .boolean)] ++ wsX60 ++ wsX00 ++ wsX10)
def wsX6_shows_r1 : List Cond := [Cond.fieldLink RX6 19 "WrongClocks" "present" "LWrongClocks$House;", Cond.fieldLink RX6 97 "WrongClocks$Clock" "low" "I", Cond.fieldLink RX6 100 "WrongClocks$Clock" "high" "I", Cond.methodLink RX6 84 yX1_toldClock, Cond.instanceMethod yX1_toldClock, Cond.selects RX1 yX1_toldClock yX1_toldClock, Cond.initialized RX1, Cond.code yX1_toldClock cX1_toldClock 2 (some (.object "WrongClocks$Clock")), Cond.fieldLink RX1 17 "WrongClocks$House" "clocks" "[LWrongClocks$Clock;", Cond.fieldLink RX1 40 "WrongClocks$Clock" "kind" "I", Cond.static yX6_isBelow, Cond.initialized RX6, Cond.code yX6_isBelow cX6_isBelow 2 (some .boolean), Cond.methodLink RX6 106 yX6_isBelow, Cond.methodLink RX6 110 yX0_dialAt, Cond.instanceMethod yX0_dialAt, Cond.selects RX0 yX0_dialAt yX0_dialAt, Cond.initialized RX0, Cond.code yX0_dialAt cX0_dialAt 3 (some .int), Cond.methodLink RX0 38 yX0_handAt, Cond.instanceMethod yX0_handAt, Cond.selects RX0 yX0_handAt yX0_handAt, Cond.code yX0_handAt cX0_handAt 3 (some .int), Cond.fieldLink RX0 18 "WrongClocks$Clock" "dial" "I"]
def wsX6_shows_r2 : List Cond := [Cond.fieldLink RX0 15 "WrongClocks$Clock" "set" "I", Cond.methodLink RX0 34 yX0_way, Cond.instanceMethod yX0_way, Cond.selects RX0 yX0_way yX0_way, Cond.code yX0_way cX0_way 4 (some .int), Cond.fieldLink RX0 9 "WrongClocks$Clock" "kind" "I", Cond.methodLink RX0 41 yJ9_floorDiv_7cf53, Cond.static yJ9_floorDiv_7cf53, Cond.initialized RJ9, Cond.code yJ9_floorDiv_7cf53 cJ9_floorDiv_7cf53 3 (some .int), Cond.methodLink RX0 46 yJ9_floorMod_7cf53, Cond.static yJ9_floorMod_7cf53, Cond.code yJ9_floorMod_7cf53 cJ9_floorMod_7cf53 3 (some .int)]
def wsX6_shows : List Cond := .code yX6_shows cX6_shows 5 (some .int) :: ((wsX6_shows_r1 ++ wsX6_shows_r2) ++ wsX60 ++ wsX00 ++ wsX10)
def wsX6_can_r1 : List Cond := [Cond.fieldLink RX6 19 "WrongClocks" "present" "LWrongClocks$House;", Cond.methodLink RX6 84 yX1_toldClock, Cond.instanceMethod yX1_toldClock, Cond.selects RX1 yX1_toldClock yX1_toldClock, Cond.initialized RX1, Cond.code yX1_toldClock cX1_toldClock 2 (some (.object "WrongClocks$Clock")), Cond.fieldLink RX1 17 "WrongClocks$House" "clocks" "[LWrongClocks$Clock;", Cond.fieldLink RX1 40 "WrongClocks$Clock" "kind" "I", Cond.static yX6_isBelow, Cond.initialized RX6, Cond.code yX6_isBelow cX6_isBelow 2 (some .boolean), Cond.methodLink RX6 106 yX6_isBelow, Cond.methodLink RX6 114 yX0_canShow, Cond.instanceMethod yX0_canShow, Cond.selects RX0 yX0_canShow yX0_canShow, Cond.initialized RX0, Cond.code yX0_canShow cX0_canShow 7 (some .boolean), Cond.fieldLink RX0 21 "WrongClocks$Clock" "low" "I", Cond.fieldLink RX0 24 "WrongClocks$Clock" "high" "I", Cond.methodLink RX0 49 Lib.Math.min.name, Cond.static Lib.Math.min.name, Cond.initialized "java/lang/Math", Cond.code Lib.Math.min.name Lib.Math.min.code 2 (some .int), Cond.methodLink RX0 52 Lib.Math.max.name]
def wsX6_can_r2 : List Cond := [Cond.static Lib.Math.max.name, Cond.code Lib.Math.max.name Lib.Math.max.code 2 (some .int), Cond.methodLink RX0 38 yX0_handAt, Cond.instanceMethod yX0_handAt, Cond.selects RX0 yX0_handAt yX0_handAt, Cond.code yX0_handAt cX0_handAt 3 (some .int), Cond.fieldLink RX0 18 "WrongClocks$Clock" "dial" "I", Cond.fieldLink RX0 15 "WrongClocks$Clock" "set" "I", Cond.methodLink RX0 34 yX0_way, Cond.instanceMethod yX0_way, Cond.selects RX0 yX0_way yX0_way, Cond.code yX0_way cX0_way 4 (some .int), Cond.fieldLink RX0 9 "WrongClocks$Clock" "kind" "I", Cond.methodLink RX0 41 yJ9_floorDiv_7cf53, Cond.static yJ9_floorDiv_7cf53, Cond.initialized RJ9, Cond.code yJ9_floorDiv_7cf53 cJ9_floorDiv_7cf53 3 (some .int), Cond.methodLink RX0 46 yJ9_floorMod_7cf53, Cond.static yJ9_floorMod_7cf53, Cond.code yJ9_floorMod_7cf53 cJ9_floorMod_7cf53 3 (some .int)]
def wsX6_can : List Cond := .code yX6_can cX6_can 5 (some .int) :: ((wsX6_can_r1 ++ wsX6_can_r2) ++ wsX60 ++ wsX10 ++ wsX00)
def wsX6_fits_r1 : List Cond := [Cond.fieldLink RX6 19 "WrongClocks" "present" "LWrongClocks$House;", Cond.methodLink RX6 106 yX6_isBelow, Cond.static yX6_isBelow, Cond.initialized RX6, Cond.code yX6_isBelow cX6_isBelow 2 (some .boolean), Cond.methodLink RX6 117 yX1_readBits, Cond.instanceMethod yX1_readBits, Cond.selects RX1 yX1_readBits yX1_readBits, Cond.initialized RX1, Cond.code yX1_readBits cX1_readBits 3 (some .int), Cond.fieldLink RX1 17 "WrongClocks$House" "clocks" "[LWrongClocks$Clock;", Cond.fieldLink RX1 44 "WrongClocks$Clock" "read" "I", Cond.methodLink RX6 120 yX1_misfitsAt, Cond.instanceMethod yX1_misfitsAt, Cond.selects RX1 yX1_misfitsAt yX1_misfitsAt, Cond.code yX1_misfitsAt cX1_misfitsAt 5 (some .int), Cond.methodLink RX1 47 yX0_canShow, Cond.instanceMethod yX0_canShow, Cond.selects RX0 yX0_canShow yX0_canShow, Cond.initialized RX0, Cond.code yX0_canShow cX0_canShow 7 (some .boolean), Cond.fieldLink RX0 21 "WrongClocks$Clock" "low" "I", Cond.fieldLink RX0 24 "WrongClocks$Clock" "high" "I", Cond.methodLink RX0 49 Lib.Math.min.name]
def wsX6_fits_r2 : List Cond := [Cond.static Lib.Math.min.name, Cond.initialized "java/lang/Math", Cond.code Lib.Math.min.name Lib.Math.min.code 2 (some .int), Cond.methodLink RX0 52 Lib.Math.max.name, Cond.static Lib.Math.max.name, Cond.code Lib.Math.max.name Lib.Math.max.code 2 (some .int), Cond.methodLink RX0 38 yX0_handAt, Cond.instanceMethod yX0_handAt, Cond.selects RX0 yX0_handAt yX0_handAt, Cond.code yX0_handAt cX0_handAt 3 (some .int), Cond.fieldLink RX0 18 "WrongClocks$Clock" "dial" "I", Cond.fieldLink RX0 15 "WrongClocks$Clock" "set" "I", Cond.methodLink RX0 34 yX0_way, Cond.instanceMethod yX0_way, Cond.selects RX0 yX0_way yX0_way, Cond.code yX0_way cX0_way 4 (some .int), Cond.fieldLink RX0 9 "WrongClocks$Clock" "kind" "I", Cond.methodLink RX0 41 yJ9_floorDiv_7cf53, Cond.static yJ9_floorDiv_7cf53, Cond.initialized RJ9, Cond.code yJ9_floorDiv_7cf53 cJ9_floorDiv_7cf53 3 (some .int), Cond.methodLink RX0 46 yJ9_floorMod_7cf53, Cond.static yJ9_floorMod_7cf53, Cond.code yJ9_floorMod_7cf53 cJ9_floorMod_7cf53 3 (some .int)]
def wsX6_fits : List Cond := .code yX6_fits cX6_fits 2 (some .int) :: ((wsX6_fits_r1 ++ wsX6_fits_r2) ++ wsX60 ++ wsX10 ++ wsX00)
def wsX6_sift_r1 : List Cond := [Cond.fieldLink RX6 52 "WrongClocks" "sifted" "Z", Cond.fieldLink RX6 48 "WrongClocks" "misfits" "[I", Cond.fieldLink RX6 19 "WrongClocks" "present" "LWrongClocks$House;", Cond.methodLink RX6 120 yX1_misfitsAt, Cond.instanceMethod yX1_misfitsAt, Cond.selects RX1 yX1_misfitsAt yX1_misfitsAt, Cond.initialized RX1, Cond.code yX1_misfitsAt cX1_misfitsAt 5 (some .int), Cond.fieldLink RX1 17 "WrongClocks$House" "clocks" "[LWrongClocks$Clock;", Cond.fieldLink RX1 44 "WrongClocks$Clock" "read" "I", Cond.methodLink RX1 47 yX0_canShow, Cond.instanceMethod yX0_canShow, Cond.selects RX0 yX0_canShow yX0_canShow, Cond.initialized RX0, Cond.code yX0_canShow cX0_canShow 7 (some .boolean), Cond.fieldLink RX0 21 "WrongClocks$Clock" "low" "I", Cond.fieldLink RX0 24 "WrongClocks$Clock" "high" "I", Cond.methodLink RX0 49 Lib.Math.min.name, Cond.static Lib.Math.min.name, Cond.initialized "java/lang/Math", Cond.code Lib.Math.min.name Lib.Math.min.code 2 (some .int), Cond.methodLink RX0 52 Lib.Math.max.name, Cond.static Lib.Math.max.name, Cond.code Lib.Math.max.name Lib.Math.max.code 2 (some .int)]
def wsX6_sift_r2 : List Cond := [Cond.methodLink RX0 38 yX0_handAt, Cond.instanceMethod yX0_handAt, Cond.selects RX0 yX0_handAt yX0_handAt, Cond.code yX0_handAt cX0_handAt 3 (some .int), Cond.fieldLink RX0 18 "WrongClocks$Clock" "dial" "I", Cond.fieldLink RX0 15 "WrongClocks$Clock" "set" "I", Cond.methodLink RX0 34 yX0_way, Cond.instanceMethod yX0_way, Cond.selects RX0 yX0_way yX0_way, Cond.code yX0_way cX0_way 4 (some .int), Cond.fieldLink RX0 9 "WrongClocks$Clock" "kind" "I", Cond.methodLink RX0 41 yJ9_floorDiv_7cf53, Cond.static yJ9_floorDiv_7cf53, Cond.initialized RJ9, Cond.code yJ9_floorDiv_7cf53 cJ9_floorDiv_7cf53 3 (some .int), Cond.methodLink RX0 46 yJ9_floorMod_7cf53, Cond.static yJ9_floorMod_7cf53, Cond.code yJ9_floorMod_7cf53 cJ9_floorMod_7cf53 3 (some .int)]
def wsX6_sift : List Cond := .code yX6_sift cX6_sift 2 none :: ((wsX6_sift_r1 ++ wsX6_sift_r2) ++ wsX60 ++ wsX10 ++ wsX00)
def wsX6_times_r1 : List Cond := [Cond.fieldLink RX6 30 "WrongClocks" "tally" "LWrongClocks$Tally;", Cond.fieldLink RX6 48 "WrongClocks" "misfits" "[I", Cond.methodLink RX6 106 yX6_isBelow, Cond.static yX6_isBelow, Cond.initialized RX6, Cond.code yX6_isBelow cX6_isBelow 2 (some .boolean), Cond.methodLink RX6 123 yX6_sift, Cond.instanceMethod yX6_sift, Cond.selects RX6 yX6_sift yX6_sift, Cond.code yX6_sift cX6_sift 2 none, Cond.fieldLink RX6 52 "WrongClocks" "sifted" "Z", Cond.fieldLink RX6 19 "WrongClocks" "present" "LWrongClocks$House;", Cond.methodLink RX6 120 yX1_misfitsAt, Cond.instanceMethod yX1_misfitsAt, Cond.selects RX1 yX1_misfitsAt yX1_misfitsAt, Cond.initialized RX1, Cond.code yX1_misfitsAt cX1_misfitsAt 5 (some .int), Cond.fieldLink RX1 17 "WrongClocks$House" "clocks" "[LWrongClocks$Clock;", Cond.fieldLink RX1 44 "WrongClocks$Clock" "read" "I", Cond.methodLink RX1 47 yX0_canShow, Cond.instanceMethod yX0_canShow, Cond.selects RX0 yX0_canShow yX0_canShow, Cond.initialized RX0, Cond.code yX0_canShow cX0_canShow 7 (some .boolean)]
def wsX6_times_r2 : List Cond := [Cond.fieldLink RX0 21 "WrongClocks$Clock" "low" "I", Cond.fieldLink RX0 24 "WrongClocks$Clock" "high" "I", Cond.methodLink RX0 49 Lib.Math.min.name, Cond.static Lib.Math.min.name, Cond.initialized "java/lang/Math", Cond.code Lib.Math.min.name Lib.Math.min.code 2 (some .int), Cond.methodLink RX0 52 Lib.Math.max.name, Cond.static Lib.Math.max.name, Cond.code Lib.Math.max.name Lib.Math.max.code 2 (some .int), Cond.methodLink RX0 38 yX0_handAt, Cond.instanceMethod yX0_handAt, Cond.selects RX0 yX0_handAt yX0_handAt, Cond.code yX0_handAt cX0_handAt 3 (some .int), Cond.fieldLink RX0 18 "WrongClocks$Clock" "dial" "I", Cond.fieldLink RX0 15 "WrongClocks$Clock" "set" "I", Cond.methodLink RX0 34 yX0_way, Cond.instanceMethod yX0_way, Cond.selects RX0 yX0_way yX0_way, Cond.code yX0_way cX0_way 4 (some .int), Cond.fieldLink RX0 9 "WrongClocks$Clock" "kind" "I", Cond.methodLink RX0 41 yJ9_floorDiv_7cf53, Cond.static yJ9_floorDiv_7cf53, Cond.initialized RJ9, Cond.code yJ9_floorDiv_7cf53 cJ9_floorDiv_7cf53 3 (some .int)]
def wsX6_times_r3 : List Cond := [Cond.methodLink RX0 46 yJ9_floorMod_7cf53, Cond.static yJ9_floorMod_7cf53, Cond.code yJ9_floorMod_7cf53 cJ9_floorMod_7cf53 3 (some .int), Cond.methodLink RX6 126 yX4_clear, Cond.instanceMethod yX4_clear, Cond.selects RX4 yX4_clear yX4_clear, Cond.initialized RX4, Cond.code yX4_clear cX4_clear 1 none, Cond.fieldLink RX4 9 "WrongClocks$Tally" "many" "I", Cond.fieldLink RX4 15 "WrongClocks$Tally" "first" "I", Cond.fieldLink RX4 18 "WrongClocks$Tally" "last" "I", Cond.fieldLink RX4 21 "WrongClocks$Tally" "runs" "I", Cond.methodLink RX6 129 yX4_add, Cond.instanceMethod yX4_add, Cond.selects RX4 yX4_add yX4_add, Cond.code yX4_add cX4_add 2 none, Cond.methodLink RX6 132 yX4_tell, Cond.instanceMethod yX4_tell, Cond.selects RX4 yX4_tell yX4_tell, Cond.code yX4_tell cX4_tell 2 (some .int)]
def wsX6_times : List Cond := .code yX6_times cX6_times 3 (some .int) :: ((wsX6_times_r1 ++ (wsX6_times_r2 ++ wsX6_times_r3)) ++ wsX60 ++ wsX10 ++ wsX00 ++ wsX40)
def wsJ6_bitCount_0f7a4 : List Cond := .code yJ6_bitCount_0f7a4 cJ6_bitCount_0f7a4 1 (some .int) :: ([.constant RJ6 265 (1431655765), .constant RJ6 266 (858993459), .constant RJ6 267 (252645135)])
def wsX6_isLess : List Cond := .code yX6_isLess cX6_isLess 3 (some .boolean) :: ([.methodLink RX6 138 yJ6_bitCount_0f7a4, .static yJ6_bitCount_0f7a4, .initialized RJ6, .code yJ6_bitCount_0f7a4 cJ6_bitCount_0f7a4 1 (some .int), .constant RJ6 265 (1431655765), .constant RJ6 266 (858993459), .constant RJ6 267 (252645135)])
def wsX6_liars_r1 : List Cond := [Cond.fieldLink RX6 48 "WrongClocks" "misfits" "[I", Cond.methodLink RX6 106 yX6_isBelow, Cond.static yX6_isBelow, Cond.initialized RX6, Cond.code yX6_isBelow cX6_isBelow 2 (some .boolean), Cond.methodLink RX6 123 yX6_sift, Cond.instanceMethod yX6_sift, Cond.selects RX6 yX6_sift yX6_sift, Cond.code yX6_sift cX6_sift 2 none, Cond.fieldLink RX6 52 "WrongClocks" "sifted" "Z", Cond.fieldLink RX6 19 "WrongClocks" "present" "LWrongClocks$House;", Cond.methodLink RX6 120 yX1_misfitsAt, Cond.instanceMethod yX1_misfitsAt, Cond.selects RX1 yX1_misfitsAt yX1_misfitsAt, Cond.initialized RX1, Cond.code yX1_misfitsAt cX1_misfitsAt 5 (some .int), Cond.fieldLink RX1 17 "WrongClocks$House" "clocks" "[LWrongClocks$Clock;", Cond.fieldLink RX1 44 "WrongClocks$Clock" "read" "I", Cond.methodLink RX1 47 yX0_canShow, Cond.instanceMethod yX0_canShow, Cond.selects RX0 yX0_canShow yX0_canShow, Cond.initialized RX0, Cond.code yX0_canShow cX0_canShow 7 (some .boolean), Cond.fieldLink RX0 21 "WrongClocks$Clock" "low" "I"]
def wsX6_liars_r2 : List Cond := [Cond.fieldLink RX0 24 "WrongClocks$Clock" "high" "I", Cond.methodLink RX0 49 Lib.Math.min.name, Cond.static Lib.Math.min.name, Cond.initialized "java/lang/Math", Cond.code Lib.Math.min.name Lib.Math.min.code 2 (some .int), Cond.methodLink RX0 52 Lib.Math.max.name, Cond.static Lib.Math.max.name, Cond.code Lib.Math.max.name Lib.Math.max.code 2 (some .int), Cond.methodLink RX0 38 yX0_handAt, Cond.instanceMethod yX0_handAt, Cond.selects RX0 yX0_handAt yX0_handAt, Cond.code yX0_handAt cX0_handAt 3 (some .int), Cond.fieldLink RX0 18 "WrongClocks$Clock" "dial" "I", Cond.fieldLink RX0 15 "WrongClocks$Clock" "set" "I", Cond.methodLink RX0 34 yX0_way, Cond.instanceMethod yX0_way, Cond.selects RX0 yX0_way yX0_way, Cond.code yX0_way cX0_way 4 (some .int), Cond.fieldLink RX0 9 "WrongClocks$Clock" "kind" "I", Cond.methodLink RX0 41 yJ9_floorDiv_7cf53, Cond.static yJ9_floorDiv_7cf53, Cond.initialized RJ9, Cond.code yJ9_floorDiv_7cf53 cJ9_floorDiv_7cf53 3 (some .int), Cond.methodLink RX0 46 yJ9_floorMod_7cf53]
def wsX6_liars_r3 : List Cond := [Cond.static yJ9_floorMod_7cf53, Cond.code yJ9_floorMod_7cf53 cJ9_floorMod_7cf53 3 (some .int), Cond.methodLink RX6 135 yX6_isLess, Cond.static yX6_isLess, Cond.code yX6_isLess cX6_isLess 3 (some .boolean), Cond.methodLink RX6 138 yJ6_bitCount_0f7a4, Cond.static yJ6_bitCount_0f7a4, Cond.initialized RJ6, Cond.code yJ6_bitCount_0f7a4 cJ6_bitCount_0f7a4 1 (some .int), Cond.constant RJ6 265 (1431655765), Cond.constant RJ6 266 (858993459), Cond.constant RJ6 267 (252645135)]
def wsX6_liars : List Cond := .code yX6_liars cX6_liars 4 (some .int) :: ((wsX6_liars_r1 ++ (wsX6_liars_r2 ++ wsX6_liars_r3)) ++ wsX60 ++ wsX10 ++ wsX00)
def wsJ7_fill_53178 : List Cond := .code yJ7_fill_53178 cJ7_fill_53178 4 none :: ([])
def wsX6_mostLeftBy_r1 : List Cond := [Cond.fieldLink RX6 56 "WrongClocks" "shown" "[I", Cond.fieldLink RX6 48 "WrongClocks" "misfits" "[I", Cond.fieldLink RX6 97 "WrongClocks$Clock" "low" "I", Cond.methodLink RX6 153 Lib.Math.max.name, Cond.static Lib.Math.max.name, Cond.initialized "java/lang/Math", Cond.code Lib.Math.max.name Lib.Math.max.code 2 (some .int), Cond.methodLink RX6 147 yJ7_fill_53178, Cond.static yJ7_fill_53178, Cond.initialized RJ7, Cond.code yJ7_fill_53178 cJ7_fill_53178 4 none, Cond.methodLink RX6 110 yX0_dialAt, Cond.instanceMethod yX0_dialAt, Cond.selects RX0 yX0_dialAt yX0_dialAt, Cond.initialized RX0, Cond.code yX0_dialAt cX0_dialAt 3 (some .int), Cond.methodLink RX0 38 yX0_handAt, Cond.instanceMethod yX0_handAt, Cond.selects RX0 yX0_handAt yX0_handAt, Cond.code yX0_handAt cX0_handAt 3 (some .int), Cond.fieldLink RX0 18 "WrongClocks$Clock" "dial" "I", Cond.fieldLink RX0 15 "WrongClocks$Clock" "set" "I", Cond.methodLink RX0 34 yX0_way, Cond.instanceMethod yX0_way]
def wsX6_mostLeftBy_r2 : List Cond := [Cond.selects RX0 yX0_way yX0_way, Cond.code yX0_way cX0_way 4 (some .int), Cond.fieldLink RX0 9 "WrongClocks$Clock" "kind" "I", Cond.methodLink RX0 41 yJ9_floorDiv_7cf53, Cond.static yJ9_floorDiv_7cf53, Cond.initialized RJ9, Cond.code yJ9_floorDiv_7cf53 cJ9_floorDiv_7cf53 3 (some .int), Cond.methodLink RX0 46 yJ9_floorMod_7cf53, Cond.static yJ9_floorMod_7cf53, Cond.code yJ9_floorMod_7cf53 cJ9_floorMod_7cf53 3 (some .int)]
def wsX6_mostLeftBy : List Cond := .code yX6_mostLeftBy cX6_mostLeftBy 5 (some .int) :: ((wsX6_mostLeftBy_r1 ++ wsX6_mostLeftBy_r2) ++ wsX60 ++ wsX00)
def wsX6_next_r1 : List Cond := [Cond.fieldLink RX6 19 "WrongClocks" "present" "LWrongClocks$House;", Cond.fieldLink RX6 103 "WrongClocks$Clock" "read" "I", Cond.fieldLink RX6 97 "WrongClocks$Clock" "low" "I", Cond.fieldLink RX6 100 "WrongClocks$Clock" "high" "I", Cond.methodLink RX6 106 yX6_isBelow, Cond.static yX6_isBelow, Cond.initialized RX6, Cond.code yX6_isBelow cX6_isBelow 2 (some .boolean), Cond.methodLink RX6 123 yX6_sift, Cond.instanceMethod yX6_sift, Cond.selects RX6 yX6_sift yX6_sift, Cond.code yX6_sift cX6_sift 2 none, Cond.fieldLink RX6 52 "WrongClocks" "sifted" "Z", Cond.fieldLink RX6 48 "WrongClocks" "misfits" "[I", Cond.methodLink RX6 120 yX1_misfitsAt, Cond.instanceMethod yX1_misfitsAt, Cond.selects RX1 yX1_misfitsAt yX1_misfitsAt, Cond.initialized RX1, Cond.code yX1_misfitsAt cX1_misfitsAt 5 (some .int), Cond.fieldLink RX1 17 "WrongClocks$House" "clocks" "[LWrongClocks$Clock;", Cond.fieldLink RX1 44 "WrongClocks$Clock" "read" "I", Cond.methodLink RX1 47 yX0_canShow, Cond.instanceMethod yX0_canShow, Cond.selects RX0 yX0_canShow yX0_canShow]
def wsX6_next_r2 : List Cond := [Cond.initialized RX0, Cond.code yX0_canShow cX0_canShow 7 (some .boolean), Cond.fieldLink RX0 21 "WrongClocks$Clock" "low" "I", Cond.fieldLink RX0 24 "WrongClocks$Clock" "high" "I", Cond.methodLink RX0 49 Lib.Math.min.name, Cond.static Lib.Math.min.name, Cond.initialized "java/lang/Math", Cond.code Lib.Math.min.name Lib.Math.min.code 2 (some .int), Cond.methodLink RX0 52 Lib.Math.max.name, Cond.static Lib.Math.max.name, Cond.code Lib.Math.max.name Lib.Math.max.code 2 (some .int), Cond.methodLink RX0 38 yX0_handAt, Cond.instanceMethod yX0_handAt, Cond.selects RX0 yX0_handAt yX0_handAt, Cond.code yX0_handAt cX0_handAt 3 (some .int), Cond.fieldLink RX0 18 "WrongClocks$Clock" "dial" "I", Cond.fieldLink RX0 15 "WrongClocks$Clock" "set" "I", Cond.methodLink RX0 34 yX0_way, Cond.instanceMethod yX0_way, Cond.selects RX0 yX0_way yX0_way, Cond.code yX0_way cX0_way 4 (some .int), Cond.fieldLink RX0 9 "WrongClocks$Clock" "kind" "I", Cond.methodLink RX0 41 yJ9_floorDiv_7cf53, Cond.static yJ9_floorDiv_7cf53]
def wsX6_next_r3 : List Cond := [Cond.initialized RJ9, Cond.code yJ9_floorDiv_7cf53 cJ9_floorDiv_7cf53 3 (some .int), Cond.methodLink RX0 46 yJ9_floorMod_7cf53, Cond.static yJ9_floorMod_7cf53, Cond.code yJ9_floorMod_7cf53 cJ9_floorMod_7cf53 3 (some .int), Cond.methodLink RX6 84 yX1_toldClock, Cond.instanceMethod yX1_toldClock, Cond.selects RX1 yX1_toldClock yX1_toldClock, Cond.code yX1_toldClock cX1_toldClock 2 (some (.object "WrongClocks$Clock")), Cond.fieldLink RX1 40 "WrongClocks$Clock" "kind" "I", Cond.methodLink RX6 143 yX6_mostLeftBy, Cond.instanceMethod yX6_mostLeftBy, Cond.selects RX6 yX6_mostLeftBy yX6_mostLeftBy, Cond.code yX6_mostLeftBy cX6_mostLeftBy 5 (some .int), Cond.fieldLink RX6 56 "WrongClocks" "shown" "[I", Cond.methodLink RX6 153 Lib.Math.max.name, Cond.methodLink RX6 147 yJ7_fill_53178, Cond.static yJ7_fill_53178, Cond.initialized RJ7, Cond.code yJ7_fill_53178 cJ7_fill_53178 4 none, Cond.methodLink RX6 110 yX0_dialAt, Cond.instanceMethod yX0_dialAt, Cond.selects RX0 yX0_dialAt yX0_dialAt, Cond.code yX0_dialAt cX0_dialAt 3 (some .int)]
def wsX6_next : List Cond := .code yX6_next cX6_next 7 (some .int) :: ((wsX6_next_r1 ++ (wsX6_next_r2 ++ wsX6_next_r3)) ++ wsX60 ++ wsX00 ++ wsX10)
def wsX6_note : List Cond := .code yX6_note cX6_note 4 (some .int) :: ([.fieldLink RX6 19 "WrongClocks" "present" "LWrongClocks$House;", .fieldLink RX6 158 "WrongClocks$House" "notes" "LWrongClocks$Notes;", .fieldLink RX6 167 "WrongClocks$Notes" "many" "I", .methodLink RX6 84 yX1_toldClock, .instanceMethod yX1_toldClock, .selects RX1 yX1_toldClock yX1_toldClock, .initialized RX1, .code yX1_toldClock cX1_toldClock 2 (some (.object "WrongClocks$Clock")), .fieldLink RX1 17 "WrongClocks$House" "clocks" "[LWrongClocks$Clock;", .fieldLink RX1 40 "WrongClocks$Clock" "kind" "I", .static yX6_isBelow, .initialized RX6, .code yX6_isBelow cX6_isBelow 2 (some .boolean), .methodLink RX6 106 yX6_isBelow, .methodLink RX6 162 yX2_add, .instanceMethod yX2_add, .selects RX2 yX2_add yX2_add, .initialized RX2, .code yX2_add cX2_add 4 (some .boolean), .fieldLink RX2 9 "WrongClocks$Notes" "many" "I", .fieldLink RX2 15 "WrongClocks$Notes" "clocks" "[I", .fieldLink RX2 19 "WrongClocks$Notes" "minutes" "[I", .fieldLink RX2 22 "WrongClocks$Notes" "dials" "[I"] ++ wsX60 ++ wsX10 ++ wsX20 ++ wsX00)
def wsX6_burn : List Cond := .code yX6_burn cX6_burn 2 (some .int) :: ([.fieldLink RX6 19 "WrongClocks" "present" "LWrongClocks$House;", .fieldLink RX6 158 "WrongClocks$House" "notes" "LWrongClocks$Notes;", .fieldLink RX6 167 "WrongClocks$Notes" "many" "I"] ++ wsX60 ++ wsX10 ++ wsX20)
def wsX6_rates_r1 : List Cond := [Cond.fieldLink RX6 19 "WrongClocks" "present" "LWrongClocks$House;", Cond.fieldLink RX6 30 "WrongClocks" "tally" "LWrongClocks$Tally;", Cond.fieldLink RX6 158 "WrongClocks$House" "notes" "LWrongClocks$Notes;", Cond.methodLink RX6 84 yX1_toldClock, Cond.instanceMethod yX1_toldClock, Cond.selects RX1 yX1_toldClock yX1_toldClock, Cond.initialized RX1, Cond.code yX1_toldClock cX1_toldClock 2 (some (.object "WrongClocks$Clock")), Cond.fieldLink RX1 17 "WrongClocks$House" "clocks" "[LWrongClocks$Clock;", Cond.fieldLink RX1 40 "WrongClocks$Clock" "kind" "I", Cond.static yX6_isBelow, Cond.initialized RX6, Cond.code yX6_isBelow cX6_isBelow 2 (some .boolean), Cond.methodLink RX6 106 yX6_isBelow, Cond.methodLink RX6 126 yX4_clear, Cond.instanceMethod yX4_clear, Cond.selects RX4 yX4_clear yX4_clear, Cond.initialized RX4, Cond.code yX4_clear cX4_clear 1 none, Cond.fieldLink RX4 9 "WrongClocks$Tally" "many" "I", Cond.fieldLink RX4 15 "WrongClocks$Tally" "first" "I", Cond.fieldLink RX4 18 "WrongClocks$Tally" "last" "I", Cond.fieldLink RX4 21 "WrongClocks$Tally" "runs" "I", Cond.methodLink RX6 170 yX2_allow]
def wsX6_rates_r2 : List Cond := [Cond.instanceMethod yX2_allow, Cond.selects RX2 yX2_allow yX2_allow, Cond.initialized RX2, Cond.code yX2_allow cX2_allow 11 (some .boolean), Cond.fieldLink RX2 9 "WrongClocks$Notes" "many" "I", Cond.fieldLink RX2 15 "WrongClocks$Notes" "clocks" "[I", Cond.fieldLink RX2 22 "WrongClocks$Notes" "dials" "[I", Cond.fieldLink RX2 19 "WrongClocks$Notes" "minutes" "[I", Cond.constant RX2 35 (518400), Cond.constant RX2 36 (1036800), Cond.methodLink RX2 42 Lib.Math.min.name, Cond.static Lib.Math.min.name, Cond.initialized "java/lang/Math", Cond.code Lib.Math.min.name Lib.Math.min.code 2 (some .int), Cond.methodLink RX2 45 Lib.Math.max.name, Cond.static Lib.Math.max.name, Cond.code Lib.Math.max.name Lib.Math.max.code 2 (some .int), Cond.methodLink RX2 29 yX0_way, Cond.instanceMethod yX0_way, Cond.selects RX0 yX0_way yX0_way, Cond.initialized RX0, Cond.code yX0_way cX0_way 4 (some .int), Cond.fieldLink RX0 9 "WrongClocks$Clock" "kind" "I", Cond.methodLink RX2 37 yJ9_floorMod_7cf53]
def wsX6_rates_r3 : List Cond := [Cond.static yJ9_floorMod_7cf53, Cond.initialized RJ9, Cond.code yJ9_floorMod_7cf53 cJ9_floorMod_7cf53 3 (some .int), Cond.methodLink RX6 129 yX4_add, Cond.instanceMethod yX4_add, Cond.selects RX4 yX4_add yX4_add, Cond.code yX4_add cX4_add 2 none, Cond.methodLink RX6 132 yX4_tell, Cond.instanceMethod yX4_tell, Cond.selects RX4 yX4_tell yX4_tell, Cond.code yX4_tell cX4_tell 2 (some .int)]
def wsX6_rates : List Cond := .code yX6_rates cX6_rates 5 (some .int) :: ((wsX6_rates_r1 ++ (wsX6_rates_r2 ++ wsX6_rates_r3)) ++ wsX60 ++ wsX10 ++ wsX00 ++ wsX40 ++ wsX20)
def wsX6_canMeet : List Cond := .code yX6_canMeet cX6_canMeet 4 (some .boolean) :: ([.fieldLink RX6 19 "WrongClocks" "present" "LWrongClocks$House;", .fieldLink RX6 88 "WrongClocks$Clock" "kind" "I", .fieldLink RX6 97 "WrongClocks$Clock" "low" "I", .fieldLink RX6 100 "WrongClocks$Clock" "high" "I", .methodLink RX6 106 yX6_isBelow, .static yX6_isBelow, .initialized RX6, .code yX6_isBelow cX6_isBelow 2 (some .boolean), .methodLink RX6 138 yJ6_bitCount_0f7a4, .static yJ6_bitCount_0f7a4, .initialized RJ6, .code yJ6_bitCount_0f7a4 cJ6_bitCount_0f7a4 1 (some .int), .constant RJ6 265 (1431655765), .constant RJ6 266 (858993459), .constant RJ6 267 (252645135), .methodLink RX6 84 yX1_toldClock, .instanceMethod yX1_toldClock, .selects RX1 yX1_toldClock yX1_toldClock, .initialized RX1, .code yX1_toldClock cX1_toldClock 2 (some (.object "WrongClocks$Clock")), .fieldLink RX1 17 "WrongClocks$House" "clocks" "[LWrongClocks$Clock;", .fieldLink RX1 40 "WrongClocks$Clock" "kind" "I"] ++ wsX60 ++ wsX00 ++ wsX10)
def wsJ9_floorMod_f86c9 : List Cond := .code yJ9_floorMod_f86c9 cJ9_floorMod_f86c9 6 (some .long) :: ([])
def wsX6_commonDivisor : List Cond := .code yX6_commonDivisor cX6_commonDivisor 11 (some .long) :: ([])
def wsX6_sharedWithRound : List Cond := .code yX6_sharedWithRound cX6_sharedWithRound 2 (some .long) :: ([.constantLong RX6 188 (1036800), .methodLink RX6 194 Lib.MathLoose.max_long.x, .static Lib.MathLoose.max_long.x, .initialized "java/lang/Math", .code Lib.MathLoose.max_long.x Lib.MathLoose.max_long.code 4 (some .long), .methodLink RX6 196 yJ9_floorMod_f86c9, .static yJ9_floorMod_f86c9, .initialized RJ9, .code yJ9_floorMod_f86c9 cJ9_floorMod_f86c9 6 (some .long), .methodLink RX6 202 yX6_commonDivisor, .static yX6_commonDivisor, .initialized RX6, .code yX6_commonDivisor cX6_commonDivisor 11 (some .long)])
def wsX6_inverse : List Cond := .code yX6_inverse cX6_inverse 19 (some .long) :: ([.methodLink RX6 196 yJ9_floorMod_f86c9, .static yJ9_floorMod_f86c9, .initialized RJ9, .code yJ9_floorMod_f86c9 cJ9_floorMod_f86c9 6 (some .long)])
def wsX6_leastFactor : List Cond := .code yX6_leastFactor cX6_leastFactor 12 (some .long) :: ([.constantLong RX6 188 (1036800), .constantLong RX6 186 (-1), .methodLink RX6 194 Lib.MathLoose.max_long.x, .static Lib.MathLoose.max_long.x, .initialized "java/lang/Math", .code Lib.MathLoose.max_long.x Lib.MathLoose.max_long.code 4 (some .long), .methodLink RX6 196 yJ9_floorMod_f86c9, .static yJ9_floorMod_f86c9, .initialized RJ9, .code yJ9_floorMod_f86c9 cJ9_floorMod_f86c9 6 (some .long), .methodLink RX6 190 yX6_sharedWithRound, .static yX6_sharedWithRound, .initialized RX6, .code yX6_sharedWithRound cX6_sharedWithRound 2 (some .long), .methodLink RX6 202 yX6_commonDivisor, .static yX6_commonDivisor, .code yX6_commonDivisor cX6_commonDivisor 11 (some .long), .methodLink RX6 199 yX6_inverse, .static yX6_inverse, .code yX6_inverse cX6_inverse 19 (some .long)])
def wsX6_again_r1 : List Cond := [Cond.constant RX6 178 (9999999), Cond.fieldLink RX6 19 "WrongClocks" "present" "LWrongClocks$House;", Cond.fieldLink RX6 97 "WrongClocks$Clock" "low" "I", Cond.constantLong RX6 186 (-1), Cond.constantLong RX6 188 (1036800), Cond.methodLink RX6 194 Lib.MathLoose.max_long.x, Cond.static Lib.MathLoose.max_long.x, Cond.initialized "java/lang/Math", Cond.code Lib.MathLoose.max_long.x Lib.MathLoose.max_long.code 4 (some .long), Cond.methodLink RX6 174 yX6_canMeet, Cond.instanceMethod yX6_canMeet, Cond.selects RX6 yX6_canMeet yX6_canMeet, Cond.initialized RX6, Cond.code yX6_canMeet cX6_canMeet 4 (some .boolean), Cond.fieldLink RX6 88 "WrongClocks$Clock" "kind" "I", Cond.fieldLink RX6 100 "WrongClocks$Clock" "high" "I", Cond.methodLink RX6 106 yX6_isBelow, Cond.static yX6_isBelow, Cond.code yX6_isBelow cX6_isBelow 2 (some .boolean), Cond.methodLink RX6 138 yJ6_bitCount_0f7a4, Cond.static yJ6_bitCount_0f7a4, Cond.initialized RJ6, Cond.code yJ6_bitCount_0f7a4 cJ6_bitCount_0f7a4 1 (some .int), Cond.constant RJ6 265 (1431655765)]
def wsX6_again_r2 : List Cond := [Cond.constant RJ6 266 (858993459), Cond.constant RJ6 267 (252645135), Cond.methodLink RX6 84 yX1_toldClock, Cond.instanceMethod yX1_toldClock, Cond.selects RX1 yX1_toldClock yX1_toldClock, Cond.initialized RX1, Cond.code yX1_toldClock cX1_toldClock 2 (some (.object "WrongClocks$Clock")), Cond.fieldLink RX1 17 "WrongClocks$House" "clocks" "[LWrongClocks$Clock;", Cond.fieldLink RX1 40 "WrongClocks$Clock" "kind" "I", Cond.methodLink RX6 179 yX0_handAt, Cond.instanceMethod yX0_handAt, Cond.selects RX0 yX0_handAt yX0_handAt, Cond.initialized RX0, Cond.code yX0_handAt cX0_handAt 3 (some .int), Cond.fieldLink RX0 18 "WrongClocks$Clock" "dial" "I", Cond.fieldLink RX0 15 "WrongClocks$Clock" "set" "I", Cond.methodLink RX0 34 yX0_way, Cond.instanceMethod yX0_way, Cond.selects RX0 yX0_way yX0_way, Cond.code yX0_way cX0_way 4 (some .int), Cond.fieldLink RX0 9 "WrongClocks$Clock" "kind" "I", Cond.methodLink RX6 182 yX6_leastFactor, Cond.static yX6_leastFactor, Cond.code yX6_leastFactor cX6_leastFactor 12 (some .long)]
def wsX6_again_r3 : List Cond := [Cond.methodLink RX6 196 yJ9_floorMod_f86c9, Cond.static yJ9_floorMod_f86c9, Cond.initialized RJ9, Cond.code yJ9_floorMod_f86c9 cJ9_floorMod_f86c9 6 (some .long), Cond.methodLink RX6 190 yX6_sharedWithRound, Cond.static yX6_sharedWithRound, Cond.code yX6_sharedWithRound cX6_sharedWithRound 2 (some .long), Cond.methodLink RX6 202 yX6_commonDivisor, Cond.static yX6_commonDivisor, Cond.code yX6_commonDivisor cX6_commonDivisor 11 (some .long), Cond.methodLink RX6 199 yX6_inverse, Cond.static yX6_inverse, Cond.code yX6_inverse cX6_inverse 19 (some .long)]
def wsX6_again : List Cond := .code yX6_again cX6_again 16 (some .int) :: ((wsX6_again_r1 ++ (wsX6_again_r2 ++ wsX6_again_r3)) ++ wsX60 ++ wsX00 ++ wsX10)
def wsX6_stopped_r1 : List Cond := [Cond.fieldLink RX6 19 "WrongClocks" "present" "LWrongClocks$House;", Cond.fieldLink RX6 88 "WrongClocks$Clock" "kind" "I", Cond.fieldLink RX6 30 "WrongClocks" "tally" "LWrongClocks$Tally;", Cond.fieldLink RX6 94 "WrongClocks$Clock" "dial" "I", Cond.methodLink RX6 84 yX1_toldClock, Cond.instanceMethod yX1_toldClock, Cond.selects RX1 yX1_toldClock yX1_toldClock, Cond.initialized RX1, Cond.code yX1_toldClock cX1_toldClock 2 (some (.object "WrongClocks$Clock")), Cond.fieldLink RX1 17 "WrongClocks$House" "clocks" "[LWrongClocks$Clock;", Cond.fieldLink RX1 40 "WrongClocks$Clock" "kind" "I", Cond.static yX6_isBelow, Cond.initialized RX6, Cond.code yX6_isBelow cX6_isBelow 2 (some .boolean), Cond.methodLink RX6 106 yX6_isBelow, Cond.methodLink RX6 126 yX4_clear, Cond.instanceMethod yX4_clear, Cond.selects RX4 yX4_clear yX4_clear, Cond.initialized RX4, Cond.code yX4_clear cX4_clear 1 none, Cond.fieldLink RX4 9 "WrongClocks$Tally" "many" "I", Cond.fieldLink RX4 15 "WrongClocks$Tally" "first" "I", Cond.fieldLink RX4 18 "WrongClocks$Tally" "last" "I", Cond.fieldLink RX4 21 "WrongClocks$Tally" "runs" "I"]
def wsX6_stopped_r2 : List Cond := [Cond.methodLink RX6 114 yX0_canShow, Cond.instanceMethod yX0_canShow, Cond.selects RX0 yX0_canShow yX0_canShow, Cond.initialized RX0, Cond.code yX0_canShow cX0_canShow 7 (some .boolean), Cond.fieldLink RX0 21 "WrongClocks$Clock" "low" "I", Cond.fieldLink RX0 24 "WrongClocks$Clock" "high" "I", Cond.methodLink RX0 49 Lib.Math.min.name, Cond.static Lib.Math.min.name, Cond.initialized "java/lang/Math", Cond.code Lib.Math.min.name Lib.Math.min.code 2 (some .int), Cond.methodLink RX0 52 Lib.Math.max.name, Cond.static Lib.Math.max.name, Cond.code Lib.Math.max.name Lib.Math.max.code 2 (some .int), Cond.methodLink RX0 38 yX0_handAt, Cond.instanceMethod yX0_handAt, Cond.selects RX0 yX0_handAt yX0_handAt, Cond.code yX0_handAt cX0_handAt 3 (some .int), Cond.fieldLink RX0 18 "WrongClocks$Clock" "dial" "I", Cond.fieldLink RX0 15 "WrongClocks$Clock" "set" "I", Cond.methodLink RX0 34 yX0_way, Cond.instanceMethod yX0_way, Cond.selects RX0 yX0_way yX0_way, Cond.code yX0_way cX0_way 4 (some .int)]
def wsX6_stopped_r3 : List Cond := [Cond.fieldLink RX0 9 "WrongClocks$Clock" "kind" "I", Cond.methodLink RX0 41 yJ9_floorDiv_7cf53, Cond.static yJ9_floorDiv_7cf53, Cond.initialized RJ9, Cond.code yJ9_floorDiv_7cf53 cJ9_floorDiv_7cf53 3 (some .int), Cond.methodLink RX0 46 yJ9_floorMod_7cf53, Cond.static yJ9_floorMod_7cf53, Cond.code yJ9_floorMod_7cf53 cJ9_floorMod_7cf53 3 (some .int), Cond.methodLink RX6 129 yX4_add, Cond.instanceMethod yX4_add, Cond.selects RX4 yX4_add yX4_add, Cond.code yX4_add cX4_add 2 none, Cond.methodLink RX6 132 yX4_tell, Cond.instanceMethod yX4_tell, Cond.selects RX4 yX4_tell yX4_tell, Cond.code yX4_tell cX4_tell 2 (some .int)]
def wsX6_stopped : List Cond := .code yX6_stopped cX6_stopped 7 (some .int) :: ((wsX6_stopped_r1 ++ (wsX6_stopped_r2 ++ wsX6_stopped_r3)) ++ wsX60 ++ wsX00 ++ wsX10 ++ wsX40)
def wsX6_setBy_r1 : List Cond := [Cond.fieldLink RX6 19 "WrongClocks" "present" "LWrongClocks$House;", Cond.fieldLink RX6 88 "WrongClocks$Clock" "kind" "I", Cond.fieldLink RX6 103 "WrongClocks$Clock" "read" "I", Cond.fieldLink RX6 37 "WrongClocks" "trial" "LWrongClocks$Clock;", Cond.fieldLink RX6 30 "WrongClocks" "tally" "LWrongClocks$Tally;", Cond.fieldLink RX6 97 "WrongClocks$Clock" "low" "I", Cond.constant RX6 213 (1036800), Cond.constant RX6 216 (86400), Cond.fieldLink RX6 91 "WrongClocks$Clock" "set" "I", Cond.fieldLink RX6 94 "WrongClocks$Clock" "dial" "I", Cond.methodLink RX6 84 yX1_toldClock, Cond.instanceMethod yX1_toldClock, Cond.selects RX1 yX1_toldClock yX1_toldClock, Cond.initialized RX1, Cond.code yX1_toldClock cX1_toldClock 2 (some (.object "WrongClocks$Clock")), Cond.fieldLink RX1 17 "WrongClocks$House" "clocks" "[LWrongClocks$Clock;", Cond.fieldLink RX1 40 "WrongClocks$Clock" "kind" "I", Cond.static yX6_isBelow, Cond.initialized RX6, Cond.code yX6_isBelow cX6_isBelow 2 (some .boolean), Cond.methodLink RX6 106 yX6_isBelow, Cond.methodLink RX6 205 yX0_runsByOneRate, Cond.instanceMethod yX0_runsByOneRate, Cond.selects RX0 yX0_runsByOneRate yX0_runsByOneRate]
def wsX6_setBy_r2 : List Cond := [Cond.initialized RX0, Cond.code yX0_runsByOneRate cX0_runsByOneRate 1 (some .boolean), Cond.fieldLink RX0 9 "WrongClocks$Clock" "kind" "I", Cond.fieldLink RX0 21 "WrongClocks$Clock" "low" "I", Cond.fieldLink RX0 24 "WrongClocks$Clock" "high" "I", Cond.methodLink RX6 209 yX0_copy, Cond.instanceMethod yX0_copy, Cond.selects RX0 yX0_copy yX0_copy, Cond.code yX0_copy cX0_copy 2 none, Cond.fieldLink RX0 15 "WrongClocks$Clock" "set" "I", Cond.fieldLink RX0 18 "WrongClocks$Clock" "dial" "I", Cond.fieldLink RX0 27 "WrongClocks$Clock" "read" "I", Cond.methodLink RX0 30 yX0_tell, Cond.instanceMethod yX0_tell, Cond.selects RX0 yX0_tell yX0_tell, Cond.code yX0_tell cX0_tell 6 none, Cond.methodLink RX6 126 yX4_clear, Cond.instanceMethod yX4_clear, Cond.selects RX4 yX4_clear yX4_clear, Cond.initialized RX4, Cond.code yX4_clear cX4_clear 1 none, Cond.fieldLink RX4 9 "WrongClocks$Tally" "many" "I", Cond.fieldLink RX4 15 "WrongClocks$Tally" "first" "I", Cond.fieldLink RX4 18 "WrongClocks$Tally" "last" "I"]
def wsX6_setBy_r3 : List Cond := [Cond.fieldLink RX4 21 "WrongClocks$Tally" "runs" "I", Cond.methodLink RX6 179 yX0_handAt, Cond.instanceMethod yX0_handAt, Cond.selects RX0 yX0_handAt yX0_handAt, Cond.code yX0_handAt cX0_handAt 3 (some .int), Cond.methodLink RX0 34 yX0_way, Cond.instanceMethod yX0_way, Cond.selects RX0 yX0_way yX0_way, Cond.code yX0_way cX0_way 4 (some .int), Cond.methodLink RX6 214 yJ9_floorMod_7cf53, Cond.static yJ9_floorMod_7cf53, Cond.initialized RJ9, Cond.code yJ9_floorMod_7cf53 cJ9_floorMod_7cf53 3 (some .int), Cond.methodLink RX6 114 yX0_canShow, Cond.instanceMethod yX0_canShow, Cond.selects RX0 yX0_canShow yX0_canShow, Cond.code yX0_canShow cX0_canShow 7 (some .boolean), Cond.methodLink RX0 49 Lib.Math.min.name, Cond.static Lib.Math.min.name, Cond.initialized "java/lang/Math", Cond.code Lib.Math.min.name Lib.Math.min.code 2 (some .int), Cond.methodLink RX0 52 Lib.Math.max.name, Cond.static Lib.Math.max.name, Cond.code Lib.Math.max.name Lib.Math.max.code 2 (some .int)]
def wsX6_setBy_r4 : List Cond := [Cond.methodLink RX0 38 yX0_handAt, Cond.methodLink RX0 41 yJ9_floorDiv_7cf53, Cond.static yJ9_floorDiv_7cf53, Cond.code yJ9_floorDiv_7cf53 cJ9_floorDiv_7cf53 3 (some .int), Cond.methodLink RX0 46 yJ9_floorMod_7cf53, Cond.methodLink RX6 129 yX4_add, Cond.instanceMethod yX4_add, Cond.selects RX4 yX4_add yX4_add, Cond.code yX4_add cX4_add 2 none, Cond.methodLink RX6 132 yX4_tell, Cond.instanceMethod yX4_tell, Cond.selects RX4 yX4_tell yX4_tell, Cond.code yX4_tell cX4_tell 2 (some .int)]
def wsX6_setBy : List Cond := .code yX6_setBy cX6_setBy 9 (some .int) :: ((wsX6_setBy_r1 ++ (wsX6_setBy_r2 ++ (wsX6_setBy_r3 ++ wsX6_setBy_r4))) ++ wsX60 ++ wsX00 ++ wsX10 ++ wsX40)
def wsX6_leastOff : List Cond := .code yX6_leastOff cX6_leastOff 24 (some .long) :: ([.fieldLink RX6 97 "WrongClocks$Clock" "low" "I", .constantLong RX6 186 (-1), .methodLink RX6 230 Lib.MathLoose.abs_long.x, .static Lib.MathLoose.abs_long.x, .initialized "java/lang/Math", .code Lib.MathLoose.abs_long.x Lib.MathLoose.abs_long.code 2 (some .long), .methodLink RX6 227 yX0_partsToWholeMinute, .instanceMethod yX0_partsToWholeMinute, .selects RX0 yX0_partsToWholeMinute yX0_partsToWholeMinute, .initialized RX0, .code yX0_partsToWholeMinute cX0_partsToWholeMinute 2 (some .int), .fieldLink RX0 15 "WrongClocks$Clock" "set" "I", .fieldLink RX0 21 "WrongClocks$Clock" "low" "I", .methodLink RX0 46 yJ9_floorMod_7cf53, .static yJ9_floorMod_7cf53, .initialized RJ9, .code yJ9_floorMod_7cf53 cJ9_floorMod_7cf53 3 (some .int)] ++ wsX00)
def wsX6_egg_r1 : List Cond := [Cond.fieldLink RX6 19 "WrongClocks" "present" "LWrongClocks$House;", Cond.constantLong RX6 217 (-2), Cond.constantLong RX6 219 (-3), Cond.constantLong RX6 221 (-4), Cond.fieldLink RX6 97 "WrongClocks$Clock" "low" "I", Cond.methodLink RX6 194 Lib.MathLoose.max_long.x, Cond.static Lib.MathLoose.max_long.x, Cond.initialized "java/lang/Math", Cond.code Lib.MathLoose.max_long.x Lib.MathLoose.max_long.code 4 (some .long), Cond.methodLink RX6 84 yX1_toldClock, Cond.instanceMethod yX1_toldClock, Cond.selects RX1 yX1_toldClock yX1_toldClock, Cond.initialized RX1, Cond.code yX1_toldClock cX1_toldClock 2 (some (.object "WrongClocks$Clock")), Cond.fieldLink RX1 17 "WrongClocks$House" "clocks" "[LWrongClocks$Clock;", Cond.fieldLink RX1 40 "WrongClocks$Clock" "kind" "I", Cond.static yX6_isBelow, Cond.initialized RX6, Cond.code yX6_isBelow cX6_isBelow 2 (some .boolean), Cond.methodLink RX6 106 yX6_isBelow, Cond.methodLink RX6 205 yX0_runsByOneRate, Cond.instanceMethod yX0_runsByOneRate, Cond.selects RX0 yX0_runsByOneRate yX0_runsByOneRate, Cond.initialized RX0]
def wsX6_egg_r2 : List Cond := [Cond.code yX0_runsByOneRate cX0_runsByOneRate 1 (some .boolean), Cond.fieldLink RX0 9 "WrongClocks$Clock" "kind" "I", Cond.fieldLink RX0 21 "WrongClocks$Clock" "low" "I", Cond.fieldLink RX0 24 "WrongClocks$Clock" "high" "I", Cond.methodLink RX6 223 yX6_leastOff, Cond.static yX6_leastOff, Cond.code yX6_leastOff cX6_leastOff 24 (some .long), Cond.constantLong RX6 186 (-1), Cond.methodLink RX6 230 Lib.MathLoose.abs_long.x, Cond.static Lib.MathLoose.abs_long.x, Cond.code Lib.MathLoose.abs_long.x Lib.MathLoose.abs_long.code 2 (some .long), Cond.methodLink RX6 227 yX0_partsToWholeMinute, Cond.instanceMethod yX0_partsToWholeMinute, Cond.selects RX0 yX0_partsToWholeMinute yX0_partsToWholeMinute, Cond.code yX0_partsToWholeMinute cX0_partsToWholeMinute 2 (some .int), Cond.fieldLink RX0 15 "WrongClocks$Clock" "set" "I", Cond.methodLink RX0 46 yJ9_floorMod_7cf53, Cond.static yJ9_floorMod_7cf53, Cond.initialized RJ9, Cond.code yJ9_floorMod_7cf53 cJ9_floorMod_7cf53 3 (some .int), Cond.methodLink RX6 202 yX6_commonDivisor, Cond.static yX6_commonDivisor, Cond.code yX6_commonDivisor cX6_commonDivisor 11 (some .long)]
def wsX6_egg : List Cond := .code yX6_egg cX6_egg 14 (some .long) :: ((wsX6_egg_r1 ++ wsX6_egg_r2) ++ wsX60 ++ wsX00 ++ wsX10)
def wsX6_order_r1 : List Cond := [Cond.fieldLink RX6 44 "WrongClocks" "queue" "LWrongClocks$Queue;", Cond.fieldLink RX6 19 "WrongClocks" "present" "LWrongClocks$House;", Cond.fieldLink RX6 88 "WrongClocks$Clock" "kind" "I", Cond.fieldLink RX6 97 "WrongClocks$Clock" "low" "I", Cond.fieldLink RX6 100 "WrongClocks$Clock" "high" "I", Cond.fieldLink RX6 237 "WrongClocks$Queue" "many" "I", Cond.methodLink RX6 233 yX3_clear, Cond.instanceMethod yX3_clear, Cond.selects RX3 yX3_clear yX3_clear, Cond.initialized RX3, Cond.code yX3_clear cX3_clear 1 none, Cond.fieldLink RX3 9 "WrongClocks$Queue" "many" "I", Cond.methodLink RX6 84 yX1_toldClock, Cond.instanceMethod yX1_toldClock, Cond.selects RX1 yX1_toldClock yX1_toldClock, Cond.initialized RX1, Cond.code yX1_toldClock cX1_toldClock 2 (some (.object "WrongClocks$Clock")), Cond.fieldLink RX1 17 "WrongClocks$House" "clocks" "[LWrongClocks$Clock;", Cond.fieldLink RX1 40 "WrongClocks$Clock" "kind" "I", Cond.static yX6_isBelow, Cond.initialized RX6, Cond.code yX6_isBelow cX6_isBelow 2 (some .boolean), Cond.methodLink RX6 234 yX3_add, Cond.instanceMethod yX3_add]
def wsX6_order_r2 : List Cond := [Cond.selects RX3 yX3_add yX3_add, Cond.code yX3_add cX3_add 3 none, Cond.fieldLink RX3 15 "WrongClocks$Queue" "clocks" "[I", Cond.fieldLink RX3 19 "WrongClocks$Queue" "rates" "[I", Cond.methodLink RX6 238 yX3_weigh, Cond.instanceMethod yX3_weigh, Cond.selects RX3 yX3_weigh yX3_weigh, Cond.code yX3_weigh cX3_weigh 4 none, Cond.fieldLink RX3 22 "WrongClocks$Queue" "least" "[I", Cond.methodLink RX3 32 Lib.Math.max.name, Cond.static Lib.Math.max.name, Cond.initialized "java/lang/Math", Cond.code Lib.Math.max.name Lib.Math.max.code 2 (some .int), Cond.methodLink RX3 25 yX3_leastBehind, Cond.instanceMethod yX3_leastBehind, Cond.selects RX3 yX3_leastBehind yX3_leastBehind, Cond.code yX3_leastBehind cX3_leastBehind 2 (some .int), Cond.methodLink RX3 29 yX3_errorBehind, Cond.instanceMethod yX3_errorBehind, Cond.selects RX3 yX3_errorBehind yX3_errorBehind, Cond.code yX3_errorBehind cX3_errorBehind 4 (some .int), Cond.methodLink RX3 38 Lib.Math.abs.name, Cond.static Lib.Math.abs.name, Cond.code Lib.Math.abs.name Lib.Math.abs.code 1 (some .int)]
def wsX6_order_r3 : List Cond := [Cond.methodLink RX6 241 yX3_leastError, Cond.instanceMethod yX3_leastError, Cond.selects RX3 yX3_leastError yX3_leastError, Cond.code yX3_leastError cX3_leastError 1 (some .int), Cond.methodLink RX6 244 yX3_clockAt, Cond.instanceMethod yX3_clockAt, Cond.selects RX3 yX3_clockAt yX3_clockAt, Cond.code yX3_clockAt cX3_clockAt 5 (some .int), Cond.methodLink RX3 45 yX3_firstBehind, Cond.instanceMethod yX3_firstBehind, Cond.selects RX3 yX3_firstBehind yX3_firstBehind, Cond.code yX3_firstBehind cX3_firstBehind 3 (some .int)]
def wsX6_order : List Cond := .code yX6_order cX6_order 4 (some .int) :: ((wsX6_order_r1 ++ (wsX6_order_r2 ++ wsX6_order_r3)) ++ wsX60 ++ wsX00 ++ wsX30 ++ wsX10)
def wsX6_keep_r1 : List Cond := [Cond.fieldLink RX6 23 "WrongClocks" "kept" "[LWrongClocks$House;", Cond.fieldLink RX6 19 "WrongClocks" "present" "LWrongClocks$House;", Cond.fieldLink RX6 250 "WrongClocks$House" "filled" "Z", Cond.methodLink RX6 106 yX6_isBelow, Cond.static yX6_isBelow, Cond.initialized RX6, Cond.code yX6_isBelow cX6_isBelow 2 (some .boolean), Cond.methodLink RX6 247 yX1_copy, Cond.instanceMethod yX1_copy, Cond.selects RX1 yX1_copy yX1_copy, Cond.initialized RX1, Cond.code yX1_copy cX1_copy 3 none, Cond.fieldLink RX1 17 "WrongClocks$House" "clocks" "[LWrongClocks$Clock;", Cond.fieldLink RX1 24 "WrongClocks$House" "notes" "LWrongClocks$Notes;", Cond.methodLink RX1 29 yX0_copy, Cond.instanceMethod yX0_copy, Cond.selects RX0 yX0_copy yX0_copy, Cond.initialized RX0, Cond.code yX0_copy cX0_copy 2 none, Cond.fieldLink RX0 9 "WrongClocks$Clock" "kind" "I", Cond.fieldLink RX0 15 "WrongClocks$Clock" "set" "I", Cond.fieldLink RX0 18 "WrongClocks$Clock" "dial" "I", Cond.fieldLink RX0 21 "WrongClocks$Clock" "low" "I", Cond.fieldLink RX0 24 "WrongClocks$Clock" "high" "I"]
def wsX6_keep_r2 : List Cond := [Cond.fieldLink RX0 27 "WrongClocks$Clock" "read" "I", Cond.methodLink RX0 30 yX0_tell, Cond.instanceMethod yX0_tell, Cond.selects RX0 yX0_tell yX0_tell, Cond.code yX0_tell cX0_tell 6 none, Cond.methodLink RX1 33 yX2_copy, Cond.instanceMethod yX2_copy, Cond.selects RX2 yX2_copy yX2_copy, Cond.initialized RX2, Cond.code yX2_copy cX2_copy 3 none, Cond.fieldLink RX2 9 "WrongClocks$Notes" "many" "I", Cond.fieldLink RX2 15 "WrongClocks$Notes" "clocks" "[I", Cond.fieldLink RX2 19 "WrongClocks$Notes" "minutes" "[I", Cond.fieldLink RX2 22 "WrongClocks$Notes" "dials" "[I", Cond.methodLink RX2 25 yX2_add, Cond.instanceMethod yX2_add, Cond.selects RX2 yX2_add yX2_add, Cond.code yX2_add cX2_add 4 (some .boolean), Cond.methodLink RX6 69 yX1_toldBits, Cond.instanceMethod yX1_toldBits, Cond.selects RX1 yX1_toldBits yX1_toldBits, Cond.code yX1_toldBits cX1_toldBits 3 (some .int), Cond.fieldLink RX1 40 "WrongClocks$Clock" "kind" "I", Cond.methodLink RX6 138 yJ6_bitCount_0f7a4]
def wsX6_keep_r3 : List Cond := [Cond.static yJ6_bitCount_0f7a4, Cond.initialized RJ6, Cond.code yJ6_bitCount_0f7a4 cJ6_bitCount_0f7a4 1 (some .int), Cond.constant RJ6 265 (1431655765), Cond.constant RJ6 266 (858993459), Cond.constant RJ6 267 (252645135)]
def wsX6_keep : List Cond := .code yX6_keep cX6_keep 2 (some .int) :: ((wsX6_keep_r1 ++ (wsX6_keep_r2 ++ wsX6_keep_r3)) ++ wsX60 ++ wsX10 ++ wsX00 ++ wsX20)
def wsX6_back_r1 : List Cond := [Cond.fieldLink RX6 23 "WrongClocks" "kept" "[LWrongClocks$House;", Cond.fieldLink RX6 250 "WrongClocks$House" "filled" "Z", Cond.fieldLink RX6 19 "WrongClocks" "present" "LWrongClocks$House;", Cond.fieldLink RX6 52 "WrongClocks" "sifted" "Z", Cond.methodLink RX6 106 yX6_isBelow, Cond.static yX6_isBelow, Cond.initialized RX6, Cond.code yX6_isBelow cX6_isBelow 2 (some .boolean), Cond.methodLink RX6 247 yX1_copy, Cond.instanceMethod yX1_copy, Cond.selects RX1 yX1_copy yX1_copy, Cond.initialized RX1, Cond.code yX1_copy cX1_copy 3 none, Cond.fieldLink RX1 17 "WrongClocks$House" "clocks" "[LWrongClocks$Clock;", Cond.fieldLink RX1 24 "WrongClocks$House" "notes" "LWrongClocks$Notes;", Cond.methodLink RX1 29 yX0_copy, Cond.instanceMethod yX0_copy, Cond.selects RX0 yX0_copy yX0_copy, Cond.initialized RX0, Cond.code yX0_copy cX0_copy 2 none, Cond.fieldLink RX0 9 "WrongClocks$Clock" "kind" "I", Cond.fieldLink RX0 15 "WrongClocks$Clock" "set" "I", Cond.fieldLink RX0 18 "WrongClocks$Clock" "dial" "I", Cond.fieldLink RX0 21 "WrongClocks$Clock" "low" "I"]
def wsX6_back_r2 : List Cond := [Cond.fieldLink RX0 24 "WrongClocks$Clock" "high" "I", Cond.fieldLink RX0 27 "WrongClocks$Clock" "read" "I", Cond.methodLink RX0 30 yX0_tell, Cond.instanceMethod yX0_tell, Cond.selects RX0 yX0_tell yX0_tell, Cond.code yX0_tell cX0_tell 6 none, Cond.methodLink RX1 33 yX2_copy, Cond.instanceMethod yX2_copy, Cond.selects RX2 yX2_copy yX2_copy, Cond.initialized RX2, Cond.code yX2_copy cX2_copy 3 none, Cond.fieldLink RX2 9 "WrongClocks$Notes" "many" "I", Cond.fieldLink RX2 15 "WrongClocks$Notes" "clocks" "[I", Cond.fieldLink RX2 19 "WrongClocks$Notes" "minutes" "[I", Cond.fieldLink RX2 22 "WrongClocks$Notes" "dials" "[I", Cond.methodLink RX2 25 yX2_add, Cond.instanceMethod yX2_add, Cond.selects RX2 yX2_add yX2_add, Cond.code yX2_add cX2_add 4 (some .boolean), Cond.methodLink RX6 69 yX1_toldBits, Cond.instanceMethod yX1_toldBits, Cond.selects RX1 yX1_toldBits yX1_toldBits, Cond.code yX1_toldBits cX1_toldBits 3 (some .int), Cond.fieldLink RX1 40 "WrongClocks$Clock" "kind" "I"]
def wsX6_back_r3 : List Cond := [Cond.methodLink RX6 138 yJ6_bitCount_0f7a4, Cond.static yJ6_bitCount_0f7a4, Cond.initialized RJ6, Cond.code yJ6_bitCount_0f7a4 cJ6_bitCount_0f7a4 1 (some .int), Cond.constant RJ6 265 (1431655765), Cond.constant RJ6 266 (858993459), Cond.constant RJ6 267 (252645135)]
def wsX6_back : List Cond := .code yX6_back cX6_back 2 (some .int) :: ((wsX6_back_r1 ++ (wsX6_back_r2 ++ wsX6_back_r3)) ++ wsX60 ++ wsX10 ++ wsX00 ++ wsX20)
def wsX6_count : List Cond := .code yX6_count cX6_count 2 (some .int) :: ([.fieldLink RX6 19 "WrongClocks" "present" "LWrongClocks$House;", .fieldLink RX6 158 "WrongClocks$House" "notes" "LWrongClocks$Notes;", .fieldLink RX6 167 "WrongClocks$Notes" "many" "I", .fieldLink RX6 12 "WrongClocks" "text" "LWrongClocks$Text;", .fieldLink RX6 59 "WrongClocks$Text" "length" "I", .methodLink RX6 69 yX1_toldBits, .instanceMethod yX1_toldBits, .selects RX1 yX1_toldBits yX1_toldBits, .initialized RX1, .code yX1_toldBits cX1_toldBits 3 (some .int), .fieldLink RX1 17 "WrongClocks$House" "clocks" "[LWrongClocks$Clock;", .fieldLink RX1 40 "WrongClocks$Clock" "kind" "I", .methodLink RX6 117 yX1_readBits, .instanceMethod yX1_readBits, .selects RX1 yX1_readBits yX1_readBits, .code yX1_readBits cX1_readBits 3 (some .int), .fieldLink RX1 44 "WrongClocks$Clock" "read" "I"] ++ wsX60 ++ wsX10 ++ wsX20 ++ wsX50 ++ wsX00)
def wsX7_init : List Cond := .code yX7_init cX7_init 1 none :: ([.methodLink RX7 1 objectInit, .instanceMethod objectInit, .code objectInit ⟨#[0xb1]⟩ 1 none, .arrayClass .int, .fieldLink RX7 7 "WrongClocksModel" "clock" "[I", .fieldLink RX7 13 "WrongClocksModel" "note" "[I", .fieldLink RX7 16 "WrongClocksModel" "text" "[I", .fieldLink RX7 19 "WrongClocksModel" "read" "[I", .fieldLink RX7 22 "WrongClocksModel" "fit" "[I", .fieldLink RX7 25 "WrongClocksModel" "shown" "[I", .fieldLink RX7 28 "WrongClocksModel" "image" "[I", .arrayClass .boolean, .fieldLink RX7 31 "WrongClocksModel" "isKept" "[Z", .fieldLink RX7 35 "WrongClocksModel" "row" "[I", .fieldLink RX7 38 "WrongClocksModel" "best" "[I"] ++ wsX70)
def wsX7_in : List Cond := .code yX7_in cX7_in 3 (some .boolean) :: ([])
def wsX7_has : List Cond := .code yX7_has cX7_has 2 (some .boolean) :: ([])
def wsX7_bits : List Cond := .code yX7_bits cX7_bits 3 (some .int) :: ([])
def wsX7_isClock : List Cond := .code yX7_isClock cX7_isClock 2 (some .boolean) :: ([.fieldLink RX7 45 "WrongClocksModel" "told" "I", .methodLink RX7 41 yX7_in, .static yX7_in, .initialized RX7, .code yX7_in cX7_in 3 (some .boolean), .methodLink RX7 49 yX7_has, .static yX7_has, .code yX7_has cX7_has 2 (some .boolean)] ++ wsX70)
def wsX7_write : List Cond := .code yX7_write cX7_write 5 (some .int) :: ([.fieldLink RX7 53 "WrongClocksModel" "bytes" "I", .fieldLink RX7 16 "WrongClocksModel" "text" "[I", .constantLong RX7 56 (255), .methodLink RX7 41 yX7_in, .static yX7_in, .initialized RX7, .code yX7_in cX7_in 3 (some .boolean)] ++ wsX70)
def wsX7_erase : List Cond := .code yX7_erase cX7_erase 2 (some .int) :: ([.fieldLink RX7 53 "WrongClocksModel" "bytes" "I"] ++ wsX70)
def wsX7_nextToken : List Cond := .code yX7_nextToken cX7_nextToken 1 none :: ([.fieldLink RX7 58 "WrongClocksModel" "position" "I", .fieldLink RX7 53 "WrongClocksModel" "bytes" "I", .fieldLink RX7 16 "WrongClocksModel" "text" "[I", .fieldLink RX7 61 "WrongClocksModel" "tokenAt" "I", .fieldLink RX7 64 "WrongClocksModel" "digits" "I", .fieldLink RX7 67 "WrongClocksModel" "number" "I", .constantLong RX7 70 (-2), .fieldLink RX7 72 "WrongClocksModel" "token" "J", .constantLong RX7 76 (27), .constantLong RX7 78 (96), .constantLong RX7 80 (-4), .constantLong RX7 82 (-1), .constantLong RX7 84 (-3), .methodLink RX7 41 yX7_in, .static yX7_in, .initialized RX7, .code yX7_in cX7_in 3 (some .boolean)] ++ wsX70)
def wsX7_fails : List Cond := .code yX7_fails cX7_fails 1 (some .boolean) :: ([.fieldLink RX7 61 "WrongClocksModel" "tokenAt" "I", .fieldLink RX7 86 "WrongClocksModel" "faultAt" "I"] ++ wsX70)
def wsX7_isNumber_r1 : List Cond := [Cond.fieldLink RX7 72 "WrongClocksModel" "token" "J", Cond.constantLong RX7 82 (-1), Cond.fieldLink RX7 67 "WrongClocksModel" "number" "I", Cond.fieldLink RX7 19 "WrongClocksModel" "read" "[I", Cond.methodLink RX7 89 yX7_nextToken, Cond.instanceMethod yX7_nextToken, Cond.selects RX7 yX7_nextToken yX7_nextToken, Cond.initialized RX7, Cond.code yX7_nextToken cX7_nextToken 1 none, Cond.fieldLink RX7 58 "WrongClocksModel" "position" "I", Cond.fieldLink RX7 53 "WrongClocksModel" "bytes" "I", Cond.fieldLink RX7 16 "WrongClocksModel" "text" "[I", Cond.fieldLink RX7 61 "WrongClocksModel" "tokenAt" "I", Cond.fieldLink RX7 64 "WrongClocksModel" "digits" "I", Cond.constantLong RX7 70 (-2), Cond.constantLong RX7 76 (27), Cond.constantLong RX7 78 (96), Cond.constantLong RX7 80 (-4), Cond.constantLong RX7 84 (-3), Cond.methodLink RX7 41 yX7_in, Cond.static yX7_in, Cond.code yX7_in cX7_in 3 (some .boolean), Cond.methodLink RX7 92 yX7_fails, Cond.instanceMethod yX7_fails]
def wsX7_isNumber_r2 : List Cond := [Cond.selects RX7 yX7_fails yX7_fails, Cond.code yX7_fails cX7_fails 1 (some .boolean), Cond.fieldLink RX7 86 "WrongClocksModel" "faultAt" "I"]
def wsX7_isNumber : List Cond := .code yX7_isNumber cX7_isNumber 4 (some .boolean) :: ((wsX7_isNumber_r1 ++ wsX7_isNumber_r2) ++ wsX70)
def wsX7_isGoing_r1 : List Cond := [Cond.fieldLink RX7 19 "WrongClocksModel" "read" "[I", Cond.fieldLink RX7 99 "WrongClocksModel" "readTold" "I", Cond.methodLink RX7 96 yX7_isNumber, Cond.instanceMethod yX7_isNumber, Cond.selects RX7 yX7_isNumber yX7_isNumber, Cond.initialized RX7, Cond.code yX7_isNumber cX7_isNumber 4 (some .boolean), Cond.fieldLink RX7 72 "WrongClocksModel" "token" "J", Cond.constantLong RX7 82 (-1), Cond.fieldLink RX7 67 "WrongClocksModel" "number" "I", Cond.methodLink RX7 89 yX7_nextToken, Cond.instanceMethod yX7_nextToken, Cond.selects RX7 yX7_nextToken yX7_nextToken, Cond.code yX7_nextToken cX7_nextToken 1 none, Cond.fieldLink RX7 58 "WrongClocksModel" "position" "I", Cond.fieldLink RX7 53 "WrongClocksModel" "bytes" "I", Cond.fieldLink RX7 16 "WrongClocksModel" "text" "[I", Cond.fieldLink RX7 61 "WrongClocksModel" "tokenAt" "I", Cond.fieldLink RX7 64 "WrongClocksModel" "digits" "I", Cond.constantLong RX7 70 (-2), Cond.constantLong RX7 76 (27), Cond.constantLong RX7 78 (96), Cond.constantLong RX7 80 (-4), Cond.constantLong RX7 84 (-3)]
def wsX7_isGoing_r2 : List Cond := [Cond.methodLink RX7 41 yX7_in, Cond.static yX7_in, Cond.code yX7_in cX7_in 3 (some .boolean), Cond.methodLink RX7 92 yX7_fails, Cond.instanceMethod yX7_fails, Cond.selects RX7 yX7_fails yX7_fails, Cond.code yX7_fails cX7_fails 1 (some .boolean), Cond.fieldLink RX7 86 "WrongClocksModel" "faultAt" "I"]
def wsX7_isGoing : List Cond := .code yX7_isGoing cX7_isGoing 3 (some .boolean) :: ((wsX7_isGoing_r1 ++ wsX7_isGoing_r2) ++ wsX70)
def wsX7_isStopped_r1 : List Cond := [Cond.fieldLink RX7 99 "WrongClocksModel" "readTold" "I", Cond.fieldLink RX7 19 "WrongClocksModel" "read" "[I", Cond.methodLink RX7 96 yX7_isNumber, Cond.instanceMethod yX7_isNumber, Cond.selects RX7 yX7_isNumber yX7_isNumber, Cond.initialized RX7, Cond.code yX7_isNumber cX7_isNumber 4 (some .boolean), Cond.fieldLink RX7 72 "WrongClocksModel" "token" "J", Cond.constantLong RX7 82 (-1), Cond.fieldLink RX7 67 "WrongClocksModel" "number" "I", Cond.methodLink RX7 89 yX7_nextToken, Cond.instanceMethod yX7_nextToken, Cond.selects RX7 yX7_nextToken yX7_nextToken, Cond.code yX7_nextToken cX7_nextToken 1 none, Cond.fieldLink RX7 58 "WrongClocksModel" "position" "I", Cond.fieldLink RX7 53 "WrongClocksModel" "bytes" "I", Cond.fieldLink RX7 16 "WrongClocksModel" "text" "[I", Cond.fieldLink RX7 61 "WrongClocksModel" "tokenAt" "I", Cond.fieldLink RX7 64 "WrongClocksModel" "digits" "I", Cond.constantLong RX7 70 (-2), Cond.constantLong RX7 76 (27), Cond.constantLong RX7 78 (96), Cond.constantLong RX7 80 (-4), Cond.constantLong RX7 84 (-3)]
def wsX7_isStopped_r2 : List Cond := [Cond.methodLink RX7 41 yX7_in, Cond.static yX7_in, Cond.code yX7_in cX7_in 3 (some .boolean), Cond.methodLink RX7 92 yX7_fails, Cond.instanceMethod yX7_fails, Cond.selects RX7 yX7_fails yX7_fails, Cond.code yX7_fails cX7_fails 1 (some .boolean), Cond.fieldLink RX7 86 "WrongClocksModel" "faultAt" "I"]
def wsX7_isStopped : List Cond := .code yX7_isStopped cX7_isStopped 3 (some .boolean) :: ((wsX7_isStopped_r1 ++ wsX7_isStopped_r2) ++ wsX70)
def wsX7_isNow_r1 : List Cond := [Cond.fieldLink RX7 99 "WrongClocksModel" "readTold" "I", Cond.fieldLink RX7 19 "WrongClocksModel" "read" "[I", Cond.methodLink RX7 96 yX7_isNumber, Cond.instanceMethod yX7_isNumber, Cond.selects RX7 yX7_isNumber yX7_isNumber, Cond.initialized RX7, Cond.code yX7_isNumber cX7_isNumber 4 (some .boolean), Cond.fieldLink RX7 72 "WrongClocksModel" "token" "J", Cond.constantLong RX7 82 (-1), Cond.fieldLink RX7 67 "WrongClocksModel" "number" "I", Cond.methodLink RX7 89 yX7_nextToken, Cond.instanceMethod yX7_nextToken, Cond.selects RX7 yX7_nextToken yX7_nextToken, Cond.code yX7_nextToken cX7_nextToken 1 none, Cond.fieldLink RX7 58 "WrongClocksModel" "position" "I", Cond.fieldLink RX7 53 "WrongClocksModel" "bytes" "I", Cond.fieldLink RX7 16 "WrongClocksModel" "text" "[I", Cond.fieldLink RX7 61 "WrongClocksModel" "tokenAt" "I", Cond.fieldLink RX7 64 "WrongClocksModel" "digits" "I", Cond.constantLong RX7 70 (-2), Cond.constantLong RX7 76 (27), Cond.constantLong RX7 78 (96), Cond.constantLong RX7 80 (-4), Cond.constantLong RX7 84 (-3)]
def wsX7_isNow_r2 : List Cond := [Cond.methodLink RX7 41 yX7_in, Cond.static yX7_in, Cond.code yX7_in cX7_in 3 (some .boolean), Cond.methodLink RX7 92 yX7_fails, Cond.instanceMethod yX7_fails, Cond.selects RX7 yX7_fails yX7_fails, Cond.code yX7_fails cX7_fails 1 (some .boolean), Cond.fieldLink RX7 86 "WrongClocksModel" "faultAt" "I", Cond.methodLink RX7 49 yX7_has, Cond.static yX7_has, Cond.code yX7_has cX7_has 2 (some .boolean)]
def wsX7_isNow : List Cond := .code yX7_isNow cX7_isNow 2 (some .boolean) :: ((wsX7_isNow_r1 ++ wsX7_isNow_r2) ++ wsX70)
def wsX7_isGone_r1 : List Cond := [Cond.fieldLink RX7 99 "WrongClocksModel" "readTold" "I", Cond.fieldLink RX7 19 "WrongClocksModel" "read" "[I", Cond.methodLink RX7 96 yX7_isNumber, Cond.instanceMethod yX7_isNumber, Cond.selects RX7 yX7_isNumber yX7_isNumber, Cond.initialized RX7, Cond.code yX7_isNumber cX7_isNumber 4 (some .boolean), Cond.fieldLink RX7 72 "WrongClocksModel" "token" "J", Cond.constantLong RX7 82 (-1), Cond.fieldLink RX7 67 "WrongClocksModel" "number" "I", Cond.methodLink RX7 89 yX7_nextToken, Cond.instanceMethod yX7_nextToken, Cond.selects RX7 yX7_nextToken yX7_nextToken, Cond.code yX7_nextToken cX7_nextToken 1 none, Cond.fieldLink RX7 58 "WrongClocksModel" "position" "I", Cond.fieldLink RX7 53 "WrongClocksModel" "bytes" "I", Cond.fieldLink RX7 16 "WrongClocksModel" "text" "[I", Cond.fieldLink RX7 61 "WrongClocksModel" "tokenAt" "I", Cond.fieldLink RX7 64 "WrongClocksModel" "digits" "I", Cond.constantLong RX7 70 (-2), Cond.constantLong RX7 76 (27), Cond.constantLong RX7 78 (96), Cond.constantLong RX7 80 (-4), Cond.constantLong RX7 84 (-3)]
def wsX7_isGone_r2 : List Cond := [Cond.methodLink RX7 41 yX7_in, Cond.static yX7_in, Cond.code yX7_in cX7_in 3 (some .boolean), Cond.methodLink RX7 92 yX7_fails, Cond.instanceMethod yX7_fails, Cond.selects RX7 yX7_fails yX7_fails, Cond.code yX7_fails cX7_fails 1 (some .boolean), Cond.fieldLink RX7 86 "WrongClocksModel" "faultAt" "I"]
def wsX7_isGone : List Cond := .code yX7_isGone cX7_isGone 3 (some .boolean) :: ((wsX7_isGone_r1 ++ wsX7_isGone_r2) ++ wsX70)
def wsX7_isLine_r1 : List Cond := [Cond.fieldLink RX7 19 "WrongClocksModel" "read" "[I", Cond.fieldLink RX7 72 "WrongClocksModel" "token" "J", Cond.constantLong RX7 102 (4022278), Cond.constantLong RX7 104 (40187), Cond.constantLong RX7 106 (7656265777), Cond.constantLong RX7 108 (149099), Cond.constantLong RX7 110 (10634), Cond.constantLong RX7 112 (309125191), Cond.methodLink RX7 89 yX7_nextToken, Cond.instanceMethod yX7_nextToken, Cond.selects RX7 yX7_nextToken yX7_nextToken, Cond.initialized RX7, Cond.code yX7_nextToken cX7_nextToken 1 none, Cond.fieldLink RX7 58 "WrongClocksModel" "position" "I", Cond.fieldLink RX7 53 "WrongClocksModel" "bytes" "I", Cond.fieldLink RX7 16 "WrongClocksModel" "text" "[I", Cond.fieldLink RX7 61 "WrongClocksModel" "tokenAt" "I", Cond.fieldLink RX7 64 "WrongClocksModel" "digits" "I", Cond.fieldLink RX7 67 "WrongClocksModel" "number" "I", Cond.constantLong RX7 70 (-2), Cond.constantLong RX7 76 (27), Cond.constantLong RX7 78 (96), Cond.constantLong RX7 80 (-4), Cond.constantLong RX7 82 (-1)]
def wsX7_isLine_r2 : List Cond := [Cond.constantLong RX7 84 (-3), Cond.methodLink RX7 41 yX7_in, Cond.static yX7_in, Cond.code yX7_in cX7_in 3 (some .boolean), Cond.methodLink RX7 114 yX7_isGoing, Cond.instanceMethod yX7_isGoing, Cond.selects RX7 yX7_isGoing yX7_isGoing, Cond.code yX7_isGoing cX7_isGoing 3 (some .boolean), Cond.fieldLink RX7 99 "WrongClocksModel" "readTold" "I", Cond.methodLink RX7 96 yX7_isNumber, Cond.instanceMethod yX7_isNumber, Cond.selects RX7 yX7_isNumber yX7_isNumber, Cond.code yX7_isNumber cX7_isNumber 4 (some .boolean), Cond.methodLink RX7 92 yX7_fails, Cond.instanceMethod yX7_fails, Cond.selects RX7 yX7_fails yX7_fails, Cond.code yX7_fails cX7_fails 1 (some .boolean), Cond.fieldLink RX7 86 "WrongClocksModel" "faultAt" "I", Cond.methodLink RX7 118 yX7_isStopped, Cond.instanceMethod yX7_isStopped, Cond.selects RX7 yX7_isStopped yX7_isStopped, Cond.code yX7_isStopped cX7_isStopped 3 (some .boolean), Cond.methodLink RX7 121 yX7_isGone, Cond.instanceMethod yX7_isGone]
def wsX7_isLine_r3 : List Cond := [Cond.selects RX7 yX7_isGone yX7_isGone, Cond.code yX7_isGone cX7_isGone 3 (some .boolean), Cond.methodLink RX7 124 yX7_isNow, Cond.instanceMethod yX7_isNow, Cond.selects RX7 yX7_isNow yX7_isNow, Cond.code yX7_isNow cX7_isNow 2 (some .boolean), Cond.methodLink RX7 49 yX7_has, Cond.static yX7_has, Cond.code yX7_has cX7_has 2 (some .boolean)]
def wsX7_isLine : List Cond := .code yX7_isLine cX7_isLine 2 (some .boolean) :: ((wsX7_isLine_r1 ++ (wsX7_isLine_r2 ++ wsX7_isLine_r3)) ++ wsX70)
def wsX7_isText_r1 : List Cond := [Cond.fieldLink RX7 58 "WrongClocksModel" "position" "I", Cond.fieldLink RX7 127 "WrongClocksModel" "readMany" "I", Cond.fieldLink RX7 45 "WrongClocksModel" "told" "I", Cond.fieldLink RX7 99 "WrongClocksModel" "readTold" "I", Cond.fieldLink RX7 72 "WrongClocksModel" "token" "J", Cond.constantLong RX7 84 (-3), Cond.constantLong RX7 70 (-2), Cond.methodLink RX7 130 yX7_isLine, Cond.instanceMethod yX7_isLine, Cond.selects RX7 yX7_isLine yX7_isLine, Cond.initialized RX7, Cond.code yX7_isLine cX7_isLine 2 (some .boolean), Cond.fieldLink RX7 19 "WrongClocksModel" "read" "[I", Cond.constantLong RX7 102 (4022278), Cond.constantLong RX7 104 (40187), Cond.constantLong RX7 106 (7656265777), Cond.constantLong RX7 108 (149099), Cond.constantLong RX7 110 (10634), Cond.constantLong RX7 112 (309125191), Cond.methodLink RX7 89 yX7_nextToken, Cond.instanceMethod yX7_nextToken, Cond.selects RX7 yX7_nextToken yX7_nextToken, Cond.code yX7_nextToken cX7_nextToken 1 none, Cond.fieldLink RX7 53 "WrongClocksModel" "bytes" "I"]
def wsX7_isText_r2 : List Cond := [Cond.fieldLink RX7 16 "WrongClocksModel" "text" "[I", Cond.fieldLink RX7 61 "WrongClocksModel" "tokenAt" "I", Cond.fieldLink RX7 64 "WrongClocksModel" "digits" "I", Cond.fieldLink RX7 67 "WrongClocksModel" "number" "I", Cond.constantLong RX7 76 (27), Cond.constantLong RX7 78 (96), Cond.constantLong RX7 80 (-4), Cond.constantLong RX7 82 (-1), Cond.methodLink RX7 41 yX7_in, Cond.static yX7_in, Cond.code yX7_in cX7_in 3 (some .boolean), Cond.methodLink RX7 114 yX7_isGoing, Cond.instanceMethod yX7_isGoing, Cond.selects RX7 yX7_isGoing yX7_isGoing, Cond.code yX7_isGoing cX7_isGoing 3 (some .boolean), Cond.methodLink RX7 96 yX7_isNumber, Cond.instanceMethod yX7_isNumber, Cond.selects RX7 yX7_isNumber yX7_isNumber, Cond.code yX7_isNumber cX7_isNumber 4 (some .boolean), Cond.methodLink RX7 92 yX7_fails, Cond.instanceMethod yX7_fails, Cond.selects RX7 yX7_fails yX7_fails, Cond.code yX7_fails cX7_fails 1 (some .boolean), Cond.fieldLink RX7 86 "WrongClocksModel" "faultAt" "I"]
def wsX7_isText_r3 : List Cond := [Cond.methodLink RX7 118 yX7_isStopped, Cond.instanceMethod yX7_isStopped, Cond.selects RX7 yX7_isStopped yX7_isStopped, Cond.code yX7_isStopped cX7_isStopped 3 (some .boolean), Cond.methodLink RX7 121 yX7_isGone, Cond.instanceMethod yX7_isGone, Cond.selects RX7 yX7_isGone yX7_isGone, Cond.code yX7_isGone cX7_isGone 3 (some .boolean), Cond.methodLink RX7 124 yX7_isNow, Cond.instanceMethod yX7_isNow, Cond.selects RX7 yX7_isNow yX7_isNow, Cond.code yX7_isNow cX7_isNow 2 (some .boolean), Cond.methodLink RX7 49 yX7_has, Cond.static yX7_has, Cond.code yX7_has cX7_has 2 (some .boolean)]
def wsX7_isText : List Cond := .code yX7_isText cX7_isText 2 (some .boolean) :: ((wsX7_isText_r1 ++ (wsX7_isText_r2 ++ wsX7_isText_r3)) ++ wsX70)
def wsX7_fault_r1 : List Cond := [Cond.fieldLink RX7 86 "WrongClocksModel" "faultAt" "I", Cond.methodLink RX7 133 yX7_isText, Cond.instanceMethod yX7_isText, Cond.selects RX7 yX7_isText yX7_isText, Cond.initialized RX7, Cond.code yX7_isText cX7_isText 2 (some .boolean), Cond.fieldLink RX7 58 "WrongClocksModel" "position" "I", Cond.fieldLink RX7 127 "WrongClocksModel" "readMany" "I", Cond.fieldLink RX7 45 "WrongClocksModel" "told" "I", Cond.fieldLink RX7 99 "WrongClocksModel" "readTold" "I", Cond.fieldLink RX7 72 "WrongClocksModel" "token" "J", Cond.constantLong RX7 84 (-3), Cond.constantLong RX7 70 (-2), Cond.methodLink RX7 130 yX7_isLine, Cond.instanceMethod yX7_isLine, Cond.selects RX7 yX7_isLine yX7_isLine, Cond.code yX7_isLine cX7_isLine 2 (some .boolean), Cond.fieldLink RX7 19 "WrongClocksModel" "read" "[I", Cond.constantLong RX7 102 (4022278), Cond.constantLong RX7 104 (40187), Cond.constantLong RX7 106 (7656265777), Cond.constantLong RX7 108 (149099), Cond.constantLong RX7 110 (10634), Cond.constantLong RX7 112 (309125191)]
def wsX7_fault_r2 : List Cond := [Cond.methodLink RX7 89 yX7_nextToken, Cond.instanceMethod yX7_nextToken, Cond.selects RX7 yX7_nextToken yX7_nextToken, Cond.code yX7_nextToken cX7_nextToken 1 none, Cond.fieldLink RX7 53 "WrongClocksModel" "bytes" "I", Cond.fieldLink RX7 16 "WrongClocksModel" "text" "[I", Cond.fieldLink RX7 61 "WrongClocksModel" "tokenAt" "I", Cond.fieldLink RX7 64 "WrongClocksModel" "digits" "I", Cond.fieldLink RX7 67 "WrongClocksModel" "number" "I", Cond.constantLong RX7 76 (27), Cond.constantLong RX7 78 (96), Cond.constantLong RX7 80 (-4), Cond.constantLong RX7 82 (-1), Cond.methodLink RX7 41 yX7_in, Cond.static yX7_in, Cond.code yX7_in cX7_in 3 (some .boolean), Cond.methodLink RX7 114 yX7_isGoing, Cond.instanceMethod yX7_isGoing, Cond.selects RX7 yX7_isGoing yX7_isGoing, Cond.code yX7_isGoing cX7_isGoing 3 (some .boolean), Cond.methodLink RX7 96 yX7_isNumber, Cond.instanceMethod yX7_isNumber, Cond.selects RX7 yX7_isNumber yX7_isNumber, Cond.code yX7_isNumber cX7_isNumber 4 (some .boolean)]
def wsX7_fault_r3 : List Cond := [Cond.methodLink RX7 92 yX7_fails, Cond.instanceMethod yX7_fails, Cond.selects RX7 yX7_fails yX7_fails, Cond.code yX7_fails cX7_fails 1 (some .boolean), Cond.methodLink RX7 118 yX7_isStopped, Cond.instanceMethod yX7_isStopped, Cond.selects RX7 yX7_isStopped yX7_isStopped, Cond.code yX7_isStopped cX7_isStopped 3 (some .boolean), Cond.methodLink RX7 121 yX7_isGone, Cond.instanceMethod yX7_isGone, Cond.selects RX7 yX7_isGone yX7_isGone, Cond.code yX7_isGone cX7_isGone 3 (some .boolean), Cond.methodLink RX7 124 yX7_isNow, Cond.instanceMethod yX7_isNow, Cond.selects RX7 yX7_isNow yX7_isNow, Cond.code yX7_isNow cX7_isNow 2 (some .boolean), Cond.methodLink RX7 49 yX7_has, Cond.static yX7_has, Cond.code yX7_has cX7_has 2 (some .boolean)]
def wsX7_fault : List Cond := .code yX7_fault cX7_fault 1 (some .int) :: ((wsX7_fault_r1 ++ (wsX7_fault_r2 ++ wsX7_fault_r3)) ++ wsX70)
def wsX7_doLine : List Cond := .code yX7_doLine cX7_doLine 3 none :: ([.fieldLink RX7 19 "WrongClocksModel" "read" "[I", .fieldLink RX7 45 "WrongClocksModel" "told" "I", .fieldLink RX7 136 "WrongClocksModel" "isRead1" "I", .fieldLink RX7 7 "WrongClocksModel" "clock" "[I"] ++ wsX70)
def wsX7_house_r1 : List Cond := [Cond.fieldLink RX7 127 "WrongClocksModel" "readMany" "I", Cond.fieldLink RX7 53 "WrongClocksModel" "bytes" "I", Cond.methodLink RX7 133 yX7_isText, Cond.instanceMethod yX7_isText, Cond.selects RX7 yX7_isText yX7_isText, Cond.initialized RX7, Cond.code yX7_isText cX7_isText 2 (some .boolean), Cond.fieldLink RX7 58 "WrongClocksModel" "position" "I", Cond.fieldLink RX7 45 "WrongClocksModel" "told" "I", Cond.fieldLink RX7 99 "WrongClocksModel" "readTold" "I", Cond.fieldLink RX7 72 "WrongClocksModel" "token" "J", Cond.constantLong RX7 84 (-3), Cond.constantLong RX7 70 (-2), Cond.methodLink RX7 130 yX7_isLine, Cond.instanceMethod yX7_isLine, Cond.selects RX7 yX7_isLine yX7_isLine, Cond.code yX7_isLine cX7_isLine 2 (some .boolean), Cond.fieldLink RX7 19 "WrongClocksModel" "read" "[I", Cond.constantLong RX7 102 (4022278), Cond.constantLong RX7 104 (40187), Cond.constantLong RX7 106 (7656265777), Cond.constantLong RX7 108 (149099), Cond.constantLong RX7 110 (10634), Cond.constantLong RX7 112 (309125191)]
def wsX7_house_r2 : List Cond := [Cond.methodLink RX7 89 yX7_nextToken, Cond.instanceMethod yX7_nextToken, Cond.selects RX7 yX7_nextToken yX7_nextToken, Cond.code yX7_nextToken cX7_nextToken 1 none, Cond.fieldLink RX7 16 "WrongClocksModel" "text" "[I", Cond.fieldLink RX7 61 "WrongClocksModel" "tokenAt" "I", Cond.fieldLink RX7 64 "WrongClocksModel" "digits" "I", Cond.fieldLink RX7 67 "WrongClocksModel" "number" "I", Cond.constantLong RX7 76 (27), Cond.constantLong RX7 78 (96), Cond.constantLong RX7 80 (-4), Cond.constantLong RX7 82 (-1), Cond.methodLink RX7 41 yX7_in, Cond.static yX7_in, Cond.code yX7_in cX7_in 3 (some .boolean), Cond.methodLink RX7 114 yX7_isGoing, Cond.instanceMethod yX7_isGoing, Cond.selects RX7 yX7_isGoing yX7_isGoing, Cond.code yX7_isGoing cX7_isGoing 3 (some .boolean), Cond.methodLink RX7 96 yX7_isNumber, Cond.instanceMethod yX7_isNumber, Cond.selects RX7 yX7_isNumber yX7_isNumber, Cond.code yX7_isNumber cX7_isNumber 4 (some .boolean), Cond.methodLink RX7 92 yX7_fails]
def wsX7_house_r3 : List Cond := [Cond.instanceMethod yX7_fails, Cond.selects RX7 yX7_fails yX7_fails, Cond.code yX7_fails cX7_fails 1 (some .boolean), Cond.fieldLink RX7 86 "WrongClocksModel" "faultAt" "I", Cond.methodLink RX7 118 yX7_isStopped, Cond.instanceMethod yX7_isStopped, Cond.selects RX7 yX7_isStopped yX7_isStopped, Cond.code yX7_isStopped cX7_isStopped 3 (some .boolean), Cond.methodLink RX7 121 yX7_isGone, Cond.instanceMethod yX7_isGone, Cond.selects RX7 yX7_isGone yX7_isGone, Cond.code yX7_isGone cX7_isGone 3 (some .boolean), Cond.methodLink RX7 124 yX7_isNow, Cond.instanceMethod yX7_isNow, Cond.selects RX7 yX7_isNow yX7_isNow, Cond.code yX7_isNow cX7_isNow 2 (some .boolean), Cond.methodLink RX7 49 yX7_has, Cond.static yX7_has, Cond.code yX7_has cX7_has 2 (some .boolean), Cond.methodLink RX7 139 yX7_doLine, Cond.instanceMethod yX7_doLine, Cond.selects RX7 yX7_doLine yX7_doLine, Cond.code yX7_doLine cX7_doLine 3 none, Cond.fieldLink RX7 136 "WrongClocksModel" "isRead1" "I"]
def wsX7_house_r4 : List Cond := [Cond.fieldLink RX7 7 "WrongClocksModel" "clock" "[I"]
def wsX7_house : List Cond := .code yX7_house cX7_house 2 (some .int) :: ((wsX7_house_r1 ++ (wsX7_house_r2 ++ (wsX7_house_r3 ++ wsX7_house_r4))) ++ wsX70)
def wsX7_clock : List Cond := .code yX7_clock cX7_clock 4 (some .int) :: ([.fieldLink RX7 7 "WrongClocksModel" "clock" "[I", .fieldLink RX7 136 "WrongClocksModel" "isRead1" "I", .methodLink RX7 143 yX7_isClock, .instanceMethod yX7_isClock, .selects RX7 yX7_isClock yX7_isClock, .initialized RX7, .code yX7_isClock cX7_isClock 2 (some .boolean), .fieldLink RX7 45 "WrongClocksModel" "told" "I", .methodLink RX7 41 yX7_in, .static yX7_in, .code yX7_in cX7_in 3 (some .boolean), .methodLink RX7 49 yX7_has, .static yX7_has, .code yX7_has cX7_has 2 (some .boolean)] ++ wsX70)
def wsX7_rest : List Cond := .code yX7_rest cX7_rest 3 (some .int) :: ([])
def wsX7_down : List Cond := .code yX7_down cX7_down 2 (some .int) :: ([.methodLink RX7 146 yX7_rest, .static yX7_rest, .initialized RX7, .code yX7_rest cX7_rest 3 (some .int)])
def wsX7_hand : List Cond := .code yX7_hand cX7_hand 5 (some .int) :: ([.fieldLink RX7 7 "WrongClocksModel" "clock" "[I"] ++ wsX70)
def wsX7_isMinute : List Cond := .code yX7_isMinute cX7_isMinute 1 (some .boolean) :: ([.methodLink RX7 41 yX7_in, .static yX7_in, .initialized RX7, .code yX7_in cX7_in 3 (some .boolean)])
def wsX7_shows_r1 : List Cond := [Cond.fieldLink RX7 7 "WrongClocksModel" "clock" "[I", Cond.methodLink RX7 143 yX7_isClock, Cond.instanceMethod yX7_isClock, Cond.selects RX7 yX7_isClock yX7_isClock, Cond.initialized RX7, Cond.code yX7_isClock cX7_isClock 2 (some .boolean), Cond.fieldLink RX7 45 "WrongClocksModel" "told" "I", Cond.methodLink RX7 41 yX7_in, Cond.static yX7_in, Cond.code yX7_in cX7_in 3 (some .boolean), Cond.methodLink RX7 49 yX7_has, Cond.static yX7_has, Cond.code yX7_has cX7_has 2 (some .boolean), Cond.methodLink RX7 150 yX7_isMinute, Cond.static yX7_isMinute, Cond.code yX7_isMinute cX7_isMinute 1 (some .boolean), Cond.methodLink RX7 153 yX7_hand, Cond.instanceMethod yX7_hand, Cond.selects RX7 yX7_hand yX7_hand, Cond.code yX7_hand cX7_hand 5 (some .int), Cond.methodLink RX7 157 yX7_down, Cond.static yX7_down, Cond.code yX7_down cX7_down 2 (some .int), Cond.methodLink RX7 146 yX7_rest]
def wsX7_shows_r2 : List Cond := [Cond.static yX7_rest, Cond.code yX7_rest cX7_rest 3 (some .int)]
def wsX7_shows : List Cond := .code yX7_shows cX7_shows 4 (some .int) :: ((wsX7_shows_r1 ++ wsX7_shows_r2) ++ wsX70)
def wsX7_isBetween : List Cond := .code yX7_isBetween cX7_isBetween 5 (some .boolean) :: ([.methodLink RX7 157 yX7_down, .static yX7_down, .initialized RX7, .code yX7_down cX7_down 2 (some .int), .methodLink RX7 146 yX7_rest, .static yX7_rest, .code yX7_rest cX7_rest 3 (some .int)])
def wsX7_canShow : List Cond := .code yX7_canShow cX7_canShow 4 (some .boolean) :: ([.fieldLink RX7 7 "WrongClocksModel" "clock" "[I", .methodLink RX7 153 yX7_hand, .instanceMethod yX7_hand, .selects RX7 yX7_hand yX7_hand, .initialized RX7, .code yX7_hand cX7_hand 5 (some .int), .methodLink RX7 160 yX7_isBetween, .static yX7_isBetween, .code yX7_isBetween cX7_isBetween 5 (some .boolean), .methodLink RX7 157 yX7_down, .static yX7_down, .code yX7_down cX7_down 2 (some .int), .methodLink RX7 146 yX7_rest, .static yX7_rest, .code yX7_rest cX7_rest 3 (some .int)] ++ wsX70)
def wsX7_can_r1 : List Cond := [Cond.methodLink RX7 143 yX7_isClock, Cond.instanceMethod yX7_isClock, Cond.selects RX7 yX7_isClock yX7_isClock, Cond.initialized RX7, Cond.code yX7_isClock cX7_isClock 2 (some .boolean), Cond.fieldLink RX7 45 "WrongClocksModel" "told" "I", Cond.methodLink RX7 41 yX7_in, Cond.static yX7_in, Cond.code yX7_in cX7_in 3 (some .boolean), Cond.methodLink RX7 49 yX7_has, Cond.static yX7_has, Cond.code yX7_has cX7_has 2 (some .boolean), Cond.methodLink RX7 150 yX7_isMinute, Cond.static yX7_isMinute, Cond.code yX7_isMinute cX7_isMinute 1 (some .boolean), Cond.methodLink RX7 163 yX7_canShow, Cond.instanceMethod yX7_canShow, Cond.selects RX7 yX7_canShow yX7_canShow, Cond.code yX7_canShow cX7_canShow 4 (some .boolean), Cond.fieldLink RX7 7 "WrongClocksModel" "clock" "[I", Cond.methodLink RX7 153 yX7_hand, Cond.instanceMethod yX7_hand, Cond.selects RX7 yX7_hand yX7_hand, Cond.code yX7_hand cX7_hand 5 (some .int)]
def wsX7_can_r2 : List Cond := [Cond.methodLink RX7 160 yX7_isBetween, Cond.static yX7_isBetween, Cond.code yX7_isBetween cX7_isBetween 5 (some .boolean), Cond.methodLink RX7 157 yX7_down, Cond.static yX7_down, Cond.code yX7_down cX7_down 2 (some .int), Cond.methodLink RX7 146 yX7_rest, Cond.static yX7_rest, Cond.code yX7_rest cX7_rest 3 (some .int)]
def wsX7_can : List Cond := .code yX7_can cX7_can 4 (some .int) :: ((wsX7_can_r1 ++ wsX7_can_r2) ++ wsX70)
def wsX7_fitAt : List Cond := .code yX7_fitAt cX7_fitAt 4 (some .int) :: ([.fieldLink RX7 136 "WrongClocksModel" "isRead1" "I", .fieldLink RX7 7 "WrongClocksModel" "clock" "[I", .methodLink RX7 49 yX7_has, .static yX7_has, .initialized RX7, .code yX7_has cX7_has 2 (some .boolean), .methodLink RX7 163 yX7_canShow, .instanceMethod yX7_canShow, .selects RX7 yX7_canShow yX7_canShow, .code yX7_canShow cX7_canShow 4 (some .boolean), .methodLink RX7 153 yX7_hand, .instanceMethod yX7_hand, .selects RX7 yX7_hand yX7_hand, .code yX7_hand cX7_hand 5 (some .int), .methodLink RX7 160 yX7_isBetween, .static yX7_isBetween, .code yX7_isBetween cX7_isBetween 5 (some .boolean), .methodLink RX7 157 yX7_down, .static yX7_down, .code yX7_down cX7_down 2 (some .int), .methodLink RX7 146 yX7_rest, .static yX7_rest, .code yX7_rest cX7_rest 3 (some .int)] ++ wsX70)
def wsX7_fits_r1 : List Cond := [Cond.methodLink RX7 150 yX7_isMinute, Cond.static yX7_isMinute, Cond.initialized RX7, Cond.code yX7_isMinute cX7_isMinute 1 (some .boolean), Cond.methodLink RX7 41 yX7_in, Cond.static yX7_in, Cond.code yX7_in cX7_in 3 (some .boolean), Cond.methodLink RX7 166 yX7_fitAt, Cond.instanceMethod yX7_fitAt, Cond.selects RX7 yX7_fitAt yX7_fitAt, Cond.code yX7_fitAt cX7_fitAt 4 (some .int), Cond.fieldLink RX7 136 "WrongClocksModel" "isRead1" "I", Cond.fieldLink RX7 7 "WrongClocksModel" "clock" "[I", Cond.methodLink RX7 49 yX7_has, Cond.static yX7_has, Cond.code yX7_has cX7_has 2 (some .boolean), Cond.methodLink RX7 163 yX7_canShow, Cond.instanceMethod yX7_canShow, Cond.selects RX7 yX7_canShow yX7_canShow, Cond.code yX7_canShow cX7_canShow 4 (some .boolean), Cond.methodLink RX7 153 yX7_hand, Cond.instanceMethod yX7_hand, Cond.selects RX7 yX7_hand yX7_hand, Cond.code yX7_hand cX7_hand 5 (some .int)]
def wsX7_fits_r2 : List Cond := [Cond.methodLink RX7 160 yX7_isBetween, Cond.static yX7_isBetween, Cond.code yX7_isBetween cX7_isBetween 5 (some .boolean), Cond.methodLink RX7 157 yX7_down, Cond.static yX7_down, Cond.code yX7_down cX7_down 2 (some .int), Cond.methodLink RX7 146 yX7_rest, Cond.static yX7_rest, Cond.code yX7_rest cX7_rest 3 (some .int)]
def wsX7_fits : List Cond := .code yX7_fits cX7_fits 2 (some .int) :: ((wsX7_fits_r1 ++ wsX7_fits_r2) ++ wsX70)
def wsX7_layFits_r1 : List Cond := [Cond.fieldLink RX7 22 "WrongClocksModel" "fit" "[I", Cond.methodLink RX7 166 yX7_fitAt, Cond.instanceMethod yX7_fitAt, Cond.selects RX7 yX7_fitAt yX7_fitAt, Cond.initialized RX7, Cond.code yX7_fitAt cX7_fitAt 4 (some .int), Cond.fieldLink RX7 136 "WrongClocksModel" "isRead1" "I", Cond.fieldLink RX7 7 "WrongClocksModel" "clock" "[I", Cond.methodLink RX7 49 yX7_has, Cond.static yX7_has, Cond.code yX7_has cX7_has 2 (some .boolean), Cond.methodLink RX7 163 yX7_canShow, Cond.instanceMethod yX7_canShow, Cond.selects RX7 yX7_canShow yX7_canShow, Cond.code yX7_canShow cX7_canShow 4 (some .boolean), Cond.methodLink RX7 153 yX7_hand, Cond.instanceMethod yX7_hand, Cond.selects RX7 yX7_hand yX7_hand, Cond.code yX7_hand cX7_hand 5 (some .int), Cond.methodLink RX7 160 yX7_isBetween, Cond.static yX7_isBetween, Cond.code yX7_isBetween cX7_isBetween 5 (some .boolean), Cond.methodLink RX7 157 yX7_down, Cond.static yX7_down]
def wsX7_layFits_r2 : List Cond := [Cond.code yX7_down cX7_down 2 (some .int), Cond.methodLink RX7 146 yX7_rest, Cond.static yX7_rest, Cond.code yX7_rest cX7_rest 3 (some .int)]
def wsX7_layFits : List Cond := .code yX7_layFits cX7_layFits 2 none :: ((wsX7_layFits_r1 ++ wsX7_layFits_r2) ++ wsX70)
def wsX7_times_r1 : List Cond := [Cond.fieldLink RX7 22 "WrongClocksModel" "fit" "[I", Cond.fieldLink RX7 136 "WrongClocksModel" "isRead1" "I", Cond.methodLink RX7 41 yX7_in, Cond.static yX7_in, Cond.initialized RX7, Cond.code yX7_in cX7_in 3 (some .boolean), Cond.methodLink RX7 170 yX7_layFits, Cond.instanceMethod yX7_layFits, Cond.selects RX7 yX7_layFits yX7_layFits, Cond.code yX7_layFits cX7_layFits 2 none, Cond.methodLink RX7 166 yX7_fitAt, Cond.instanceMethod yX7_fitAt, Cond.selects RX7 yX7_fitAt yX7_fitAt, Cond.code yX7_fitAt cX7_fitAt 4 (some .int), Cond.fieldLink RX7 7 "WrongClocksModel" "clock" "[I", Cond.methodLink RX7 49 yX7_has, Cond.static yX7_has, Cond.code yX7_has cX7_has 2 (some .boolean), Cond.methodLink RX7 163 yX7_canShow, Cond.instanceMethod yX7_canShow, Cond.selects RX7 yX7_canShow yX7_canShow, Cond.code yX7_canShow cX7_canShow 4 (some .boolean), Cond.methodLink RX7 153 yX7_hand, Cond.instanceMethod yX7_hand]
def wsX7_times_r2 : List Cond := [Cond.selects RX7 yX7_hand yX7_hand, Cond.code yX7_hand cX7_hand 5 (some .int), Cond.methodLink RX7 160 yX7_isBetween, Cond.static yX7_isBetween, Cond.code yX7_isBetween cX7_isBetween 5 (some .boolean), Cond.methodLink RX7 157 yX7_down, Cond.static yX7_down, Cond.code yX7_down cX7_down 2 (some .int), Cond.methodLink RX7 146 yX7_rest, Cond.static yX7_rest, Cond.code yX7_rest cX7_rest 3 (some .int)]
def wsX7_times : List Cond := .code yX7_times cX7_times 7 (some .int) :: ((wsX7_times_r1 ++ wsX7_times_r2) ++ wsX70)
def wsX7_liars_r1 : List Cond := [Cond.fieldLink RX7 136 "WrongClocksModel" "isRead1" "I", Cond.fieldLink RX7 22 "WrongClocksModel" "fit" "[I", Cond.methodLink RX7 41 yX7_in, Cond.static yX7_in, Cond.initialized RX7, Cond.code yX7_in cX7_in 3 (some .boolean), Cond.methodLink RX7 170 yX7_layFits, Cond.instanceMethod yX7_layFits, Cond.selects RX7 yX7_layFits yX7_layFits, Cond.code yX7_layFits cX7_layFits 2 none, Cond.methodLink RX7 166 yX7_fitAt, Cond.instanceMethod yX7_fitAt, Cond.selects RX7 yX7_fitAt yX7_fitAt, Cond.code yX7_fitAt cX7_fitAt 4 (some .int), Cond.fieldLink RX7 7 "WrongClocksModel" "clock" "[I", Cond.methodLink RX7 49 yX7_has, Cond.static yX7_has, Cond.code yX7_has cX7_has 2 (some .boolean), Cond.methodLink RX7 163 yX7_canShow, Cond.instanceMethod yX7_canShow, Cond.selects RX7 yX7_canShow yX7_canShow, Cond.code yX7_canShow cX7_canShow 4 (some .boolean), Cond.methodLink RX7 153 yX7_hand, Cond.instanceMethod yX7_hand]
def wsX7_liars_r2 : List Cond := [Cond.selects RX7 yX7_hand yX7_hand, Cond.code yX7_hand cX7_hand 5 (some .int), Cond.methodLink RX7 160 yX7_isBetween, Cond.static yX7_isBetween, Cond.code yX7_isBetween cX7_isBetween 5 (some .boolean), Cond.methodLink RX7 157 yX7_down, Cond.static yX7_down, Cond.code yX7_down cX7_down 2 (some .int), Cond.methodLink RX7 146 yX7_rest, Cond.static yX7_rest, Cond.code yX7_rest cX7_rest 3 (some .int), Cond.methodLink RX7 173 yX7_bits, Cond.static yX7_bits, Cond.code yX7_bits cX7_bits 3 (some .int)]
def wsX7_liars : List Cond := .code yX7_liars cX7_liars 6 (some .int) :: ((wsX7_liars_r1 ++ wsX7_liars_r2) ++ wsX70)
def wsX7_isExact : List Cond := .code yX7_isExact cX7_isExact 2 (some .boolean) :: ([.fieldLink RX7 7 "WrongClocksModel" "clock" "[I", .methodLink RX7 143 yX7_isClock, .instanceMethod yX7_isClock, .selects RX7 yX7_isClock yX7_isClock, .initialized RX7, .code yX7_isClock cX7_isClock 2 (some .boolean), .fieldLink RX7 45 "WrongClocksModel" "told" "I", .methodLink RX7 41 yX7_in, .static yX7_in, .code yX7_in cX7_in 3 (some .boolean), .methodLink RX7 49 yX7_has, .static yX7_has, .code yX7_has cX7_has 2 (some .boolean)] ++ wsX70)
def wsX7_next_r1 : List Cond := [Cond.fieldLink RX7 136 "WrongClocksModel" "isRead1" "I", Cond.fieldLink RX7 25 "WrongClocksModel" "shown" "[I", Cond.fieldLink RX7 22 "WrongClocksModel" "fit" "[I", Cond.fieldLink RX7 7 "WrongClocksModel" "clock" "[I", Cond.methodLink RX7 41 yX7_in, Cond.static yX7_in, Cond.initialized RX7, Cond.code yX7_in cX7_in 3 (some .boolean), Cond.methodLink RX7 170 yX7_layFits, Cond.instanceMethod yX7_layFits, Cond.selects RX7 yX7_layFits yX7_layFits, Cond.code yX7_layFits cX7_layFits 2 none, Cond.methodLink RX7 166 yX7_fitAt, Cond.instanceMethod yX7_fitAt, Cond.selects RX7 yX7_fitAt yX7_fitAt, Cond.code yX7_fitAt cX7_fitAt 4 (some .int), Cond.methodLink RX7 49 yX7_has, Cond.static yX7_has, Cond.code yX7_has cX7_has 2 (some .boolean), Cond.methodLink RX7 163 yX7_canShow, Cond.instanceMethod yX7_canShow, Cond.selects RX7 yX7_canShow yX7_canShow, Cond.code yX7_canShow cX7_canShow 4 (some .boolean), Cond.methodLink RX7 153 yX7_hand]
def wsX7_next_r2 : List Cond := [Cond.instanceMethod yX7_hand, Cond.selects RX7 yX7_hand yX7_hand, Cond.code yX7_hand cX7_hand 5 (some .int), Cond.methodLink RX7 160 yX7_isBetween, Cond.static yX7_isBetween, Cond.code yX7_isBetween cX7_isBetween 5 (some .boolean), Cond.methodLink RX7 157 yX7_down, Cond.static yX7_down, Cond.code yX7_down cX7_down 2 (some .int), Cond.methodLink RX7 146 yX7_rest, Cond.static yX7_rest, Cond.code yX7_rest cX7_rest 3 (some .int), Cond.methodLink RX7 176 yX7_isExact, Cond.instanceMethod yX7_isExact, Cond.selects RX7 yX7_isExact yX7_isExact, Cond.code yX7_isExact cX7_isExact 2 (some .boolean), Cond.methodLink RX7 143 yX7_isClock, Cond.instanceMethod yX7_isClock, Cond.selects RX7 yX7_isClock yX7_isClock, Cond.code yX7_isClock cX7_isClock 2 (some .boolean), Cond.fieldLink RX7 45 "WrongClocksModel" "told" "I"]
def wsX7_next : List Cond := .code yX7_next cX7_next 8 (some .int) :: ((wsX7_next_r1 ++ wsX7_next_r2) ++ wsX70)
def wsX7_note : List Cond := .code yX7_note cX7_note 4 (some .int) :: ([.fieldLink RX7 179 "WrongClocksModel" "noted" "I", .fieldLink RX7 13 "WrongClocksModel" "note" "[I", .methodLink RX7 143 yX7_isClock, .instanceMethod yX7_isClock, .selects RX7 yX7_isClock yX7_isClock, .initialized RX7, .code yX7_isClock cX7_isClock 2 (some .boolean), .fieldLink RX7 45 "WrongClocksModel" "told" "I", .methodLink RX7 41 yX7_in, .static yX7_in, .code yX7_in cX7_in 3 (some .boolean), .methodLink RX7 49 yX7_has, .static yX7_has, .code yX7_has cX7_has 2 (some .boolean), .methodLink RX7 150 yX7_isMinute, .static yX7_isMinute, .code yX7_isMinute cX7_isMinute 1 (some .boolean)] ++ wsX70)
def wsX7_burn : List Cond := .code yX7_burn cX7_burn 2 (some .int) :: ([.fieldLink RX7 179 "WrongClocksModel" "noted" "I"] ++ wsX70)
def wsX7_isNoted : List Cond := .code yX7_isNoted cX7_isNoted 10 (some .boolean) :: ([.fieldLink RX7 179 "WrongClocksModel" "noted" "I", .fieldLink RX7 13 "WrongClocksModel" "note" "[I", .fieldLink RX7 7 "WrongClocksModel" "clock" "[I", .constant RX7 182 (1036800), .constant RX7 183 (518400), .methodLink RX7 146 yX7_rest, .static yX7_rest, .initialized RX7, .code yX7_rest cX7_rest 3 (some .int)] ++ wsX70)
def wsX7_rates : List Cond := .code yX7_rates cX7_rates 7 (some .int) :: ([.methodLink RX7 143 yX7_isClock, .instanceMethod yX7_isClock, .selects RX7 yX7_isClock yX7_isClock, .initialized RX7, .code yX7_isClock cX7_isClock 2 (some .boolean), .fieldLink RX7 45 "WrongClocksModel" "told" "I", .methodLink RX7 41 yX7_in, .static yX7_in, .code yX7_in cX7_in 3 (some .boolean), .methodLink RX7 49 yX7_has, .static yX7_has, .code yX7_has cX7_has 2 (some .boolean), .methodLink RX7 184 yX7_isNoted, .instanceMethod yX7_isNoted, .selects RX7 yX7_isNoted yX7_isNoted, .code yX7_isNoted cX7_isNoted 10 (some .boolean), .fieldLink RX7 179 "WrongClocksModel" "noted" "I", .fieldLink RX7 13 "WrongClocksModel" "note" "[I", .fieldLink RX7 7 "WrongClocksModel" "clock" "[I", .constant RX7 182 (1036800), .constant RX7 183 (518400), .methodLink RX7 146 yX7_rest, .static yX7_rest, .code yX7_rest cX7_rest 3 (some .int)] ++ wsX70)
def wsX7_common : List Cond := .code yX7_common cX7_common 5 (some .int) :: ([])
def wsX7_isAgain : List Cond := .code yX7_isAgain cX7_isAgain 8 (some .boolean) :: ([.fieldLink RX7 7 "WrongClocksModel" "clock" "[I", .constant RX7 182 (1036800), .fieldLink RX7 190 "WrongClocksModel" "againStep" "I", .fieldLink RX7 193 "WrongClocksModel" "againAt" "I", .constantLong RX7 196 (1036800), .methodLink RX7 153 yX7_hand, .instanceMethod yX7_hand, .selects RX7 yX7_hand yX7_hand, .initialized RX7, .code yX7_hand cX7_hand 5 (some .int), .methodLink RX7 146 yX7_rest, .static yX7_rest, .code yX7_rest cX7_rest 3 (some .int), .methodLink RX7 187 yX7_common, .static yX7_common, .code yX7_common cX7_common 5 (some .int)] ++ wsX70)
def wsX7_isFirstAgain : List Cond := .code yX7_isFirstAgain cX7_isFirstAgain 17 (some .boolean) :: ([.fieldLink RX7 7 "WrongClocksModel" "clock" "[I", .constant RX7 182 (1036800), .fieldLink RX7 190 "WrongClocksModel" "againStep" "I", .fieldLink RX7 193 "WrongClocksModel" "againAt" "I", .methodLink RX7 153 yX7_hand, .instanceMethod yX7_hand, .selects RX7 yX7_hand yX7_hand, .initialized RX7, .code yX7_hand cX7_hand 5 (some .int), .methodLink RX7 146 yX7_rest, .static yX7_rest, .code yX7_rest cX7_rest 3 (some .int), .methodLink RX7 187 yX7_common, .static yX7_common, .code yX7_common cX7_common 5 (some .int)] ++ wsX70)
def wsX7_again_r1 : List Cond := [Cond.constant RX7 198 (9999999), Cond.fieldLink RX7 7 "WrongClocksModel" "clock" "[I", Cond.fieldLink RX7 193 "WrongClocksModel" "againAt" "I", Cond.methodLink RX7 41 yX7_in, Cond.static yX7_in, Cond.initialized RX7, Cond.code yX7_in cX7_in 3 (some .boolean), Cond.methodLink RX7 173 yX7_bits, Cond.static yX7_bits, Cond.code yX7_bits cX7_bits 3 (some .int), Cond.methodLink RX7 49 yX7_has, Cond.static yX7_has, Cond.code yX7_has cX7_has 2 (some .boolean), Cond.methodLink RX7 176 yX7_isExact, Cond.instanceMethod yX7_isExact, Cond.selects RX7 yX7_isExact yX7_isExact, Cond.code yX7_isExact cX7_isExact 2 (some .boolean), Cond.methodLink RX7 143 yX7_isClock, Cond.instanceMethod yX7_isClock, Cond.selects RX7 yX7_isClock yX7_isClock, Cond.code yX7_isClock cX7_isClock 2 (some .boolean), Cond.fieldLink RX7 45 "WrongClocksModel" "told" "I", Cond.methodLink RX7 199 yX7_isFirstAgain, Cond.instanceMethod yX7_isFirstAgain]
def wsX7_again_r2 : List Cond := [Cond.selects RX7 yX7_isFirstAgain yX7_isFirstAgain, Cond.code yX7_isFirstAgain cX7_isFirstAgain 17 (some .boolean), Cond.constant RX7 182 (1036800), Cond.fieldLink RX7 190 "WrongClocksModel" "againStep" "I", Cond.methodLink RX7 153 yX7_hand, Cond.instanceMethod yX7_hand, Cond.selects RX7 yX7_hand yX7_hand, Cond.code yX7_hand cX7_hand 5 (some .int), Cond.methodLink RX7 146 yX7_rest, Cond.static yX7_rest, Cond.code yX7_rest cX7_rest 3 (some .int), Cond.methodLink RX7 187 yX7_common, Cond.static yX7_common, Cond.code yX7_common cX7_common 5 (some .int), Cond.methodLink RX7 202 yX7_isAgain, Cond.instanceMethod yX7_isAgain, Cond.selects RX7 yX7_isAgain yX7_isAgain, Cond.code yX7_isAgain cX7_isAgain 8 (some .boolean), Cond.constantLong RX7 196 (1036800)]
def wsX7_again : List Cond := .code yX7_again cX7_again 6 (some .int) :: ((wsX7_again_r1 ++ wsX7_again_r2) ++ wsX70)
def wsX7_stopped_r1 : List Cond := [Cond.fieldLink RX7 7 "WrongClocksModel" "clock" "[I", Cond.methodLink RX7 143 yX7_isClock, Cond.instanceMethod yX7_isClock, Cond.selects RX7 yX7_isClock yX7_isClock, Cond.initialized RX7, Cond.code yX7_isClock cX7_isClock 2 (some .boolean), Cond.fieldLink RX7 45 "WrongClocksModel" "told" "I", Cond.methodLink RX7 41 yX7_in, Cond.static yX7_in, Cond.code yX7_in cX7_in 3 (some .boolean), Cond.methodLink RX7 49 yX7_has, Cond.static yX7_has, Cond.code yX7_has cX7_has 2 (some .boolean), Cond.methodLink RX7 163 yX7_canShow, Cond.instanceMethod yX7_canShow, Cond.selects RX7 yX7_canShow yX7_canShow, Cond.code yX7_canShow cX7_canShow 4 (some .boolean), Cond.methodLink RX7 153 yX7_hand, Cond.instanceMethod yX7_hand, Cond.selects RX7 yX7_hand yX7_hand, Cond.code yX7_hand cX7_hand 5 (some .int), Cond.methodLink RX7 160 yX7_isBetween, Cond.static yX7_isBetween, Cond.code yX7_isBetween cX7_isBetween 5 (some .boolean)]
def wsX7_stopped_r2 : List Cond := [Cond.methodLink RX7 157 yX7_down, Cond.static yX7_down, Cond.code yX7_down cX7_down 2 (some .int), Cond.methodLink RX7 146 yX7_rest, Cond.static yX7_rest, Cond.code yX7_rest cX7_rest 3 (some .int)]
def wsX7_stopped : List Cond := .code yX7_stopped cX7_stopped 8 (some .int) :: ((wsX7_stopped_r1 ++ wsX7_stopped_r2) ++ wsX70)
def wsX7_setBy_r1 : List Cond := [Cond.fieldLink RX7 7 "WrongClocksModel" "clock" "[I", Cond.fieldLink RX7 136 "WrongClocksModel" "isRead1" "I", Cond.constant RX7 182 (1036800), Cond.constant RX7 205 (86400), Cond.methodLink RX7 143 yX7_isClock, Cond.instanceMethod yX7_isClock, Cond.selects RX7 yX7_isClock yX7_isClock, Cond.initialized RX7, Cond.code yX7_isClock cX7_isClock 2 (some .boolean), Cond.fieldLink RX7 45 "WrongClocksModel" "told" "I", Cond.methodLink RX7 41 yX7_in, Cond.static yX7_in, Cond.code yX7_in cX7_in 3 (some .boolean), Cond.methodLink RX7 49 yX7_has, Cond.static yX7_has, Cond.code yX7_has cX7_has 2 (some .boolean), Cond.methodLink RX7 150 yX7_isMinute, Cond.static yX7_isMinute, Cond.code yX7_isMinute cX7_isMinute 1 (some .boolean), Cond.methodLink RX7 176 yX7_isExact, Cond.instanceMethod yX7_isExact, Cond.selects RX7 yX7_isExact yX7_isExact, Cond.code yX7_isExact cX7_isExact 2 (some .boolean), Cond.methodLink RX7 153 yX7_hand]
def wsX7_setBy_r2 : List Cond := [Cond.instanceMethod yX7_hand, Cond.selects RX7 yX7_hand yX7_hand, Cond.code yX7_hand cX7_hand 5 (some .int), Cond.methodLink RX7 146 yX7_rest, Cond.static yX7_rest, Cond.code yX7_rest cX7_rest 3 (some .int), Cond.methodLink RX7 160 yX7_isBetween, Cond.static yX7_isBetween, Cond.code yX7_isBetween cX7_isBetween 5 (some .boolean), Cond.methodLink RX7 157 yX7_down, Cond.static yX7_down, Cond.code yX7_down cX7_down 2 (some .int)]
def wsX7_setBy : List Cond := .code yX7_setBy cX7_setBy 9 (some .int) :: ((wsX7_setBy_r1 ++ wsX7_setBy_r2) ++ wsX70)
def wsX7_toWhole : List Cond := .code yX7_toWhole cX7_toWhole 4 (some .int) :: ([.fieldLink RX7 7 "WrongClocksModel" "clock" "[I", .methodLink RX7 153 yX7_hand, .instanceMethod yX7_hand, .selects RX7 yX7_hand yX7_hand, .initialized RX7, .code yX7_hand cX7_hand 5 (some .int), .methodLink RX7 146 yX7_rest, .static yX7_rest, .code yX7_rest cX7_rest 3 (some .int)] ++ wsX70)
def wsX7_egg_r1 : List Cond := [Cond.constantLong RX7 70 (-2), Cond.constantLong RX7 84 (-3), Cond.fieldLink RX7 7 "WrongClocksModel" "clock" "[I", Cond.constantLong RX7 80 (-4), Cond.constantLong RX7 82 (-1), Cond.constantLong RX7 209 (1440), Cond.methodLink RX7 143 yX7_isClock, Cond.instanceMethod yX7_isClock, Cond.selects RX7 yX7_isClock yX7_isClock, Cond.initialized RX7, Cond.code yX7_isClock cX7_isClock 2 (some .boolean), Cond.fieldLink RX7 45 "WrongClocksModel" "told" "I", Cond.methodLink RX7 41 yX7_in, Cond.static yX7_in, Cond.code yX7_in cX7_in 3 (some .boolean), Cond.methodLink RX7 49 yX7_has, Cond.static yX7_has, Cond.code yX7_has cX7_has 2 (some .boolean), Cond.methodLink RX7 150 yX7_isMinute, Cond.static yX7_isMinute, Cond.code yX7_isMinute cX7_isMinute 1 (some .boolean), Cond.methodLink RX7 176 yX7_isExact, Cond.instanceMethod yX7_isExact, Cond.selects RX7 yX7_isExact yX7_isExact]
def wsX7_egg_r2 : List Cond := [Cond.code yX7_isExact cX7_isExact 2 (some .boolean), Cond.methodLink RX7 206 yX7_toWhole, Cond.instanceMethod yX7_toWhole, Cond.selects RX7 yX7_toWhole yX7_toWhole, Cond.code yX7_toWhole cX7_toWhole 4 (some .int), Cond.methodLink RX7 153 yX7_hand, Cond.instanceMethod yX7_hand, Cond.selects RX7 yX7_hand yX7_hand, Cond.code yX7_hand cX7_hand 5 (some .int), Cond.methodLink RX7 146 yX7_rest, Cond.static yX7_rest, Cond.code yX7_rest cX7_rest 3 (some .int)]
def wsX7_egg : List Cond := .code yX7_egg cX7_egg 20 (some .long) :: ((wsX7_egg_r1 ++ wsX7_egg_r2) ++ wsX70)
def wsX7_greatest : List Cond := .code yX7_greatest cX7_greatest 5 (some .int) :: ([.fieldLink RX7 211 "WrongClocksModel" "orderMany" "I", .fieldLink RX7 7 "WrongClocksModel" "clock" "[I", .fieldLink RX7 35 "WrongClocksModel" "row" "[I"] ++ wsX70)
def wsX7_take : List Cond := .code yX7_take cX7_take 2 none :: ([.fieldLink RX7 218 "WrongClocksModel" "orderLeast" "I", .fieldLink RX7 211 "WrongClocksModel" "orderMany" "I", .fieldLink RX7 38 "WrongClocksModel" "best" "[I", .fieldLink RX7 35 "WrongClocksModel" "row" "[I", .methodLink RX7 214 yX7_greatest, .instanceMethod yX7_greatest, .selects RX7 yX7_greatest yX7_greatest, .initialized RX7, .code yX7_greatest cX7_greatest 5 (some .int), .fieldLink RX7 7 "WrongClocksModel" "clock" "[I"] ++ wsX70)
def wsX7_nextRow : List Cond := .code yX7_nextRow cX7_nextRow 6 (some .boolean) :: ([.fieldLink RX7 211 "WrongClocksModel" "orderMany" "I", .fieldLink RX7 35 "WrongClocksModel" "row" "[I"] ++ wsX70)
def wsX7_order_r1 : List Cond := [Cond.fieldLink RX7 7 "WrongClocksModel" "clock" "[I", Cond.fieldLink RX7 35 "WrongClocksModel" "row" "[I", Cond.fieldLink RX7 211 "WrongClocksModel" "orderMany" "I", Cond.fieldLink RX7 218 "WrongClocksModel" "orderLeast" "I", Cond.fieldLink RX7 38 "WrongClocksModel" "best" "[I", Cond.methodLink RX7 176 yX7_isExact, Cond.instanceMethod yX7_isExact, Cond.selects RX7 yX7_isExact yX7_isExact, Cond.initialized RX7, Cond.code yX7_isExact cX7_isExact 2 (some .boolean), Cond.methodLink RX7 143 yX7_isClock, Cond.instanceMethod yX7_isClock, Cond.selects RX7 yX7_isClock yX7_isClock, Cond.code yX7_isClock cX7_isClock 2 (some .boolean), Cond.fieldLink RX7 45 "WrongClocksModel" "told" "I", Cond.methodLink RX7 41 yX7_in, Cond.static yX7_in, Cond.code yX7_in cX7_in 3 (some .boolean), Cond.methodLink RX7 49 yX7_has, Cond.static yX7_has, Cond.code yX7_has cX7_has 2 (some .boolean), Cond.methodLink RX7 221 yX7_take, Cond.instanceMethod yX7_take, Cond.selects RX7 yX7_take yX7_take]
def wsX7_order_r2 : List Cond := [Cond.code yX7_take cX7_take 2 none, Cond.methodLink RX7 214 yX7_greatest, Cond.instanceMethod yX7_greatest, Cond.selects RX7 yX7_greatest yX7_greatest, Cond.code yX7_greatest cX7_greatest 5 (some .int), Cond.methodLink RX7 224 yX7_nextRow, Cond.instanceMethod yX7_nextRow, Cond.selects RX7 yX7_nextRow yX7_nextRow, Cond.code yX7_nextRow cX7_nextRow 6 (some .boolean)]
def wsX7_order : List Cond := .code yX7_order cX7_order 4 (some .int) :: ((wsX7_order_r1 ++ wsX7_order_r2) ++ wsX70)
def wsX7_keep : List Cond := .code yX7_keep cX7_keep 4 (some .int) :: ([.fieldLink RX7 28 "WrongClocksModel" "image" "[I", .fieldLink RX7 45 "WrongClocksModel" "told" "I", .fieldLink RX7 136 "WrongClocksModel" "isRead1" "I", .fieldLink RX7 179 "WrongClocksModel" "noted" "I", .fieldLink RX7 7 "WrongClocksModel" "clock" "[I", .fieldLink RX7 13 "WrongClocksModel" "note" "[I", .fieldLink RX7 31 "WrongClocksModel" "isKept" "[Z", .methodLink RX7 41 yX7_in, .static yX7_in, .initialized RX7, .code yX7_in cX7_in 3 (some .boolean), .methodLink RX7 173 yX7_bits, .static yX7_bits, .code yX7_bits cX7_bits 3 (some .int)] ++ wsX70)
def wsX7_back : List Cond := .code yX7_back cX7_back 4 (some .int) :: ([.fieldLink RX7 31 "WrongClocksModel" "isKept" "[Z", .fieldLink RX7 28 "WrongClocksModel" "image" "[I", .fieldLink RX7 45 "WrongClocksModel" "told" "I", .fieldLink RX7 136 "WrongClocksModel" "isRead1" "I", .fieldLink RX7 179 "WrongClocksModel" "noted" "I", .fieldLink RX7 7 "WrongClocksModel" "clock" "[I", .fieldLink RX7 13 "WrongClocksModel" "note" "[I", .methodLink RX7 41 yX7_in, .static yX7_in, .initialized RX7, .code yX7_in cX7_in 3 (some .boolean), .methodLink RX7 173 yX7_bits, .static yX7_bits, .code yX7_bits cX7_bits 3 (some .int)] ++ wsX70)
def wsX7_count : List Cond := .code yX7_count cX7_count 2 (some .int) :: ([.fieldLink RX7 45 "WrongClocksModel" "told" "I", .fieldLink RX7 136 "WrongClocksModel" "isRead1" "I", .fieldLink RX7 179 "WrongClocksModel" "noted" "I", .fieldLink RX7 53 "WrongClocksModel" "bytes" "I"] ++ wsX70)
def wsJ9_abs_0f7a4 : List Cond := .code yJ9_abs_0f7a4 cJ9_abs_0f7a4 1 (some .int) :: ([])
def wsJ9_abs_067f4 : List Cond := .code yJ9_abs_067f4 cJ9_abs_067f4 2 (some .long) :: ([])
def wsJ9_max_7cf53 : List Cond := .code yJ9_max_7cf53 cJ9_max_7cf53 2 (some .int) :: ([])
def wsJ9_max_f86c9 : List Cond := .code yJ9_max_f86c9 cJ9_max_f86c9 4 (some .long) :: ([])
def wsJ9_min_7cf53 : List Cond := .code yJ9_min_7cf53 cJ9_min_7cf53 2 (some .int) :: ([])
def wsL_law_r1 : List Cond := [Cond.classLink RL 7 RX6, Cond.instantiable RX6 9, Cond.initialized RX6, Cond.classLink RL 10 RX7, Cond.instantiable RX7 26, Cond.initialized RX7, Cond.constantLong RL 13 (4294967295), Cond.methodLink RL 9 yX6_init, Cond.instanceMethod yX6_init, Cond.code yX6_init cX6_init 2 none, Cond.methodLink RX6 3 objectInit, Cond.instanceMethod objectInit, Cond.code objectInit ⟨#[0xb1]⟩ 1 none, Cond.classLink RX6 9 RX5, Cond.instantiable RX5 6, Cond.initialized RX5, Cond.fieldLink RX6 12 "WrongClocks" "text" "LWrongClocks$Text;", Cond.classLink RX6 16 RX1, Cond.instantiable RX1 3, Cond.initialized RX1, Cond.fieldLink RX6 19 "WrongClocks" "present" "LWrongClocks$House;", Cond.fieldLink RX6 23 "WrongClocks" "kept" "[LWrongClocks$House;", Cond.classLink RX6 27 RX4, Cond.instantiable RX4 4]
def wsL_law_r2 : List Cond := [Cond.initialized RX4, Cond.fieldLink RX6 30 "WrongClocks" "tally" "LWrongClocks$Tally;", Cond.classLink RX6 34 RX0, Cond.instantiable RX0 6, Cond.initialized RX0, Cond.fieldLink RX6 37 "WrongClocks" "trial" "LWrongClocks$Clock;", Cond.classLink RX6 41 RX3, Cond.instantiable RX3 4, Cond.initialized RX3, Cond.fieldLink RX6 44 "WrongClocks" "queue" "LWrongClocks$Queue;", Cond.arrayClass .int, Cond.fieldLink RX6 48 "WrongClocks" "misfits" "[I", Cond.fieldLink RX6 52 "WrongClocks" "sifted" "Z", Cond.fieldLink RX6 56 "WrongClocks" "shown" "[I", Cond.instanceMethod yX5_init, Cond.code yX5_init cX5_init 1 none, Cond.methodLink RX5 3 objectInit, Cond.fieldLink RX5 9 "WrongClocks$Text" "bytes" "[I", Cond.fieldLink RX5 15 "WrongClocks$Text" "length" "I", Cond.fieldLink RX5 19 "WrongClocks$Text" "rows" "[I", Cond.fieldLink RX5 22 "WrongClocks$Text" "lineCount" "I", Cond.fieldLink RX5 25 "WrongClocks$Text" "start" "I", Cond.fieldLink RX5 28 "WrongClocks$Text" "end" "I", Cond.methodLink RX6 18 yX1_init]
def wsL_law_r3 : List Cond := [Cond.instanceMethod yX1_init, Cond.code yX1_init cX1_init 2 none, Cond.methodLink RX1 3 objectInit, Cond.fieldLink RX1 9 "WrongClocks$House" "filled" "Z", Cond.classLink RX1 15 RX0, Cond.fieldLink RX1 17 "WrongClocks$House" "clocks" "[LWrongClocks$Clock;", Cond.classLink RX1 21 RX2, Cond.instantiable RX2 4, Cond.initialized RX2, Cond.fieldLink RX1 24 "WrongClocks$House" "notes" "LWrongClocks$Notes;", Cond.instanceMethod yX2_init, Cond.code yX2_init cX2_init 1 none, Cond.methodLink RX2 3 objectInit, Cond.fieldLink RX2 9 "WrongClocks$Notes" "many" "I", Cond.fieldLink RX2 15 "WrongClocks$Notes" "clocks" "[I", Cond.fieldLink RX2 19 "WrongClocks$Notes" "minutes" "[I", Cond.fieldLink RX2 22 "WrongClocks$Notes" "dials" "[I", Cond.instanceMethod yX0_init, Cond.code yX0_init cX0_init 1 none, Cond.methodLink RX0 3 objectInit, Cond.fieldLink RX0 9 "WrongClocks$Clock" "kind" "I", Cond.fieldLink RX0 15 "WrongClocks$Clock" "set" "I", Cond.fieldLink RX0 18 "WrongClocks$Clock" "dial" "I", Cond.fieldLink RX0 21 "WrongClocks$Clock" "low" "I"]
def wsL_law_r4 : List Cond := [Cond.fieldLink RX0 24 "WrongClocks$Clock" "high" "I", Cond.fieldLink RX0 27 "WrongClocks$Clock" "read" "I", Cond.instanceMethod yX4_init, Cond.code yX4_init cX4_init 1 none, Cond.methodLink RX4 3 objectInit, Cond.fieldLink RX4 9 "WrongClocks$Tally" "many" "I", Cond.fieldLink RX4 15 "WrongClocks$Tally" "first" "I", Cond.fieldLink RX4 18 "WrongClocks$Tally" "last" "I", Cond.fieldLink RX4 21 "WrongClocks$Tally" "runs" "I", Cond.instanceMethod yX3_init, Cond.code yX3_init cX3_init 1 none, Cond.methodLink RX3 3 objectInit, Cond.fieldLink RX3 9 "WrongClocks$Queue" "many" "I", Cond.fieldLink RX3 15 "WrongClocks$Queue" "clocks" "[I", Cond.fieldLink RX3 19 "WrongClocks$Queue" "rates" "[I", Cond.fieldLink RX3 22 "WrongClocks$Queue" "least" "[I", Cond.methodLink RL 12 yX7_init, Cond.instanceMethod yX7_init, Cond.code yX7_init cX7_init 1 none, Cond.methodLink RX7 1 objectInit, Cond.fieldLink RX7 7 "WrongClocksModel" "clock" "[I", Cond.fieldLink RX7 13 "WrongClocksModel" "note" "[I", Cond.fieldLink RX7 16 "WrongClocksModel" "text" "[I", Cond.fieldLink RX7 19 "WrongClocksModel" "read" "[I"]
def wsL_law_r5 : List Cond := [Cond.fieldLink RX7 22 "WrongClocksModel" "fit" "[I", Cond.fieldLink RX7 25 "WrongClocksModel" "shown" "[I", Cond.fieldLink RX7 28 "WrongClocksModel" "image" "[I", Cond.arrayClass .boolean, Cond.fieldLink RX7 31 "WrongClocksModel" "isKept" "[Z", Cond.fieldLink RX7 35 "WrongClocksModel" "row" "[I", Cond.fieldLink RX7 38 "WrongClocksModel" "best" "[I", Cond.methodLink RL 15 yX6_write, Cond.instanceMethod yX6_write, Cond.selects RX6 yX6_write yX6_write, Cond.code yX6_write cX6_write 5 (some .int), Cond.fieldLink RX6 59 "WrongClocks$Text" "length" "I", Cond.constantLong RX6 63 (255), Cond.methodLink RX6 65 yX5_put, Cond.instanceMethod yX5_put, Cond.selects RX5 yX5_put yX5_put, Cond.code yX5_put cX5_put 2 none, Cond.methodLink RL 19 yX7_write, Cond.instanceMethod yX7_write, Cond.selects RX7 yX7_write yX7_write, Cond.code yX7_write cX7_write 5 (some .int), Cond.fieldLink RX7 53 "WrongClocksModel" "bytes" "I", Cond.constantLong RX7 56 (255), Cond.methodLink RX7 41 yX7_in]
def wsL_law_r6 : List Cond := [Cond.static yX7_in, Cond.code yX7_in cX7_in 3 (some .boolean), Cond.methodLink RL 20 yX6_erase, Cond.instanceMethod yX6_erase, Cond.selects RX6 yX6_erase yX6_erase, Cond.code yX6_erase cX6_erase 2 (some .int), Cond.methodLink RL 24 yX7_erase, Cond.instanceMethod yX7_erase, Cond.selects RX7 yX7_erase yX7_erase, Cond.code yX7_erase cX7_erase 2 (some .int), Cond.methodLink RL 25 yX6_fault, Cond.instanceMethod yX6_fault, Cond.selects RX6 yX6_fault yX6_fault, Cond.code yX6_fault cX6_fault 1 (some .int), Cond.methodLink RX6 69 yX1_toldBits, Cond.instanceMethod yX1_toldBits, Cond.selects RX1 yX1_toldBits yX1_toldBits, Cond.code yX1_toldBits cX1_toldBits 3 (some .int), Cond.fieldLink RX1 40 "WrongClocks$Clock" "kind" "I", Cond.methodLink RX6 73 yX5_findFault, Cond.instanceMethod yX5_findFault, Cond.selects RX5 yX5_findFault yX5_findFault, Cond.code yX5_findFault cX5_findFault 4 (some .int), Cond.methodLink RX5 35 yX5_takeLine]
def wsL_law_r7 : List Cond := [Cond.instanceMethod yX5_takeLine, Cond.selects RX5 yX5_takeLine yX5_takeLine, Cond.code yX5_takeLine cX5_takeLine 10 (some .boolean), Cond.methodLink RX5 42 yX5_takeToken, Cond.instanceMethod yX5_takeToken, Cond.selects RX5 yX5_takeToken yX5_takeToken, Cond.code yX5_takeToken cX5_takeToken 1 none, Cond.methodLink RX5 45 yX5_signAt, Cond.instanceMethod yX5_signAt, Cond.selects RX5 yX5_signAt yX5_signAt, Cond.code yX5_signAt cX5_signAt 2 (some .int), Cond.methodLink RX5 75 yX5_isLetter, Cond.static yX5_isLetter, Cond.code yX5_isLetter cX5_isLetter 1 (some .boolean), Cond.methodLink RX5 79 yX5_isDigit, Cond.static yX5_isDigit, Cond.code yX5_isDigit cX5_isDigit 1 (some .boolean), Cond.methodLink RX5 49 yX5_wordTaken, Cond.instanceMethod yX5_wordTaken, Cond.selects RX5 yX5_wordTaken yX5_wordTaken, Cond.code yX5_wordTaken cX5_wordTaken 2 (some .int), Cond.methodLink RX5 82 yX5_wordOf, Cond.static yX5_wordOf, Cond.code yX5_wordOf cX5_wordOf 1 (some (.object "java/lang/String"))]
def wsL_law_r8 : List Cond := [Cond.methodLink RX5 85 yX5_isTaken, Cond.instanceMethod yX5_isTaken, Cond.selects RX5 yX5_isTaken yX5_isTaken, Cond.code yX5_isTaken cX5_isTaken 3 (some .boolean), Cond.methodLink RX5 57 yJ0_length_8abf5, Cond.instanceMethod yJ0_length_8abf5, Cond.selects RJ0 yJ0_length_8abf5 yJ0_length_8abf5, Cond.initialized RJ0, Cond.code yJ0_length_8abf5 cJ0_length_8abf5 1 (some .int), Cond.fieldLink RJ0 9 "java/lang/String" "value" "[B", Cond.methodLink RJ0 335 yJ0_coder_7d493, Cond.instanceMethod yJ0_coder_7d493, Cond.selects RJ0 yJ0_coder_7d493 yJ0_coder_7d493, Cond.code yJ0_coder_7d493 cJ0_coder_7d493 1 (some .byte), Cond.fieldLink RJ0 38 "java/lang/String" "COMPACT_STRINGS" "Z", Cond.fieldLink RJ0 15 "java/lang/String" "coder" "B", Cond.methodLink RX5 61 yJ0_charAt_5068e, Cond.instanceMethod yJ0_charAt_5068e, Cond.selects RJ0 yJ0_charAt_5068e yJ0_charAt_5068e, Cond.code yJ0_charAt_5068e cJ0_charAt_5068e 2 (some .char), Cond.methodLink RJ0 492 yJ0_isLatin1_aae02, Cond.instanceMethod yJ0_isLatin1_aae02, Cond.selects RJ0 yJ0_isLatin1_aae02 yJ0_isLatin1_aae02, Cond.code yJ0_isLatin1_aae02 cJ0_isLatin1_aae02 1 (some .boolean)]
def wsL_law_r9 : List Cond := [Cond.methodLink RJ0 495 yJ1_charAt_3b067, Cond.static yJ1_charAt_3b067, Cond.initialized RJ1, Cond.code yJ1_charAt_3b067 cJ1_charAt_3b067 2 (some .char), Cond.methodLink RJ1 9 yJ0_checkIndex_df160, Cond.static yJ0_checkIndex_df160, Cond.code yJ0_checkIndex_df160 cJ0_checkIndex_df160 2 none, Cond.fieldLink RJ0 1053 "jdk/internal/util/Preconditions" "SIOOBE_FORMATTER" "Ljava/util/function/BiFunction;", Cond.methodLink RJ0 1059 yJ3_checkIndex_8e157, Cond.static yJ3_checkIndex_8e157, Cond.initialized RJ3, Cond.code yJ3_checkIndex_8e157 cJ3_checkIndex_8e157 3 (some .int), Cond.methodLink RJ0 498 yJ2_charAt_3b067, Cond.static yJ2_charAt_3b067, Cond.initialized RJ2, Cond.code yJ2_charAt_3b067 cJ2_charAt_3b067 2 (some .char), Cond.methodLink RJ2 67 yJ2_checkIndex_2214a, Cond.static yJ2_checkIndex_2214a, Cond.code yJ2_checkIndex_2214a cJ2_checkIndex_2214a 2 none, Cond.methodLink RJ2 48 yJ2_length_9d52b, Cond.static yJ2_length_9d52b, Cond.code yJ2_length_9d52b cJ2_length_9d52b 1 (some .int), Cond.methodLink RJ2 414 yJ0_checkIndex_df160, Cond.methodLink RJ2 71 yJ2_getChar_3b067]
def wsL_law_r10 : List Cond := [Cond.static yJ2_getChar_3b067, Cond.code yJ2_getChar_3b067 cJ2_getChar_3b067 2 (some .char), Cond.fieldLink RJ2 44 "java/lang/StringUTF16" "$assertionsDisabled" "Z", Cond.fieldLink RJ2 59 "java/lang/StringUTF16" "HI_BYTE_SHIFT" "I", Cond.fieldLink RJ2 63 "java/lang/StringUTF16" "LO_BYTE_SHIFT" "I", Cond.static yX6_isBelow, Cond.code yX6_isBelow cX6_isBelow 2 (some .boolean), Cond.methodLink RX5 53 yX5_numbersOf, Cond.static yX5_numbersOf, Cond.code yX5_numbersOf cX5_numbersOf 1 (some (.object "java/lang/String")), Cond.methodLink RX5 65 yX5_numberTaken, Cond.instanceMethod yX5_numberTaken, Cond.selects RX5 yX5_numberTaken yX5_numberTaken, Cond.code yX5_numberTaken cX5_numberTaken 3 (some .int), Cond.methodLink RX5 68 yX5_mostOf, Cond.static yX5_mostOf, Cond.code yX5_mostOf cX5_mostOf 1 (some .int), Cond.methodLink RX5 38 yX5_knownBehind, Cond.instanceMethod yX5_knownBehind, Cond.selects RX5 yX5_knownBehind yX5_knownBehind, Cond.code yX5_knownBehind cX5_knownBehind 4 (some .int), Cond.methodLink RX5 72 yX5_number, Cond.instanceMethod yX5_number, Cond.selects RX5 yX5_number yX5_number]
def wsL_law_r11 : List Cond := [Cond.code yX5_number cX5_number 3 (some .int), Cond.methodLink RL 28 yX7_fault, Cond.instanceMethod yX7_fault, Cond.selects RX7 yX7_fault yX7_fault, Cond.code yX7_fault cX7_fault 1 (some .int), Cond.fieldLink RX7 86 "WrongClocksModel" "faultAt" "I", Cond.methodLink RX7 133 yX7_isText, Cond.instanceMethod yX7_isText, Cond.selects RX7 yX7_isText yX7_isText, Cond.code yX7_isText cX7_isText 2 (some .boolean), Cond.fieldLink RX7 58 "WrongClocksModel" "position" "I", Cond.fieldLink RX7 127 "WrongClocksModel" "readMany" "I", Cond.fieldLink RX7 45 "WrongClocksModel" "told" "I", Cond.fieldLink RX7 99 "WrongClocksModel" "readTold" "I", Cond.fieldLink RX7 72 "WrongClocksModel" "token" "J", Cond.constantLong RX7 84 (-3), Cond.constantLong RX7 70 (-2), Cond.methodLink RX7 130 yX7_isLine, Cond.instanceMethod yX7_isLine, Cond.selects RX7 yX7_isLine yX7_isLine, Cond.code yX7_isLine cX7_isLine 2 (some .boolean), Cond.constantLong RX7 102 (4022278), Cond.constantLong RX7 104 (40187), Cond.constantLong RX7 106 (7656265777)]
def wsL_law_r12 : List Cond := [Cond.constantLong RX7 108 (149099), Cond.constantLong RX7 110 (10634), Cond.constantLong RX7 112 (309125191), Cond.methodLink RX7 89 yX7_nextToken, Cond.instanceMethod yX7_nextToken, Cond.selects RX7 yX7_nextToken yX7_nextToken, Cond.code yX7_nextToken cX7_nextToken 1 none, Cond.fieldLink RX7 61 "WrongClocksModel" "tokenAt" "I", Cond.fieldLink RX7 64 "WrongClocksModel" "digits" "I", Cond.fieldLink RX7 67 "WrongClocksModel" "number" "I", Cond.constantLong RX7 76 (27), Cond.constantLong RX7 78 (96), Cond.constantLong RX7 80 (-4), Cond.constantLong RX7 82 (-1), Cond.methodLink RX7 114 yX7_isGoing, Cond.instanceMethod yX7_isGoing, Cond.selects RX7 yX7_isGoing yX7_isGoing, Cond.code yX7_isGoing cX7_isGoing 3 (some .boolean), Cond.methodLink RX7 96 yX7_isNumber, Cond.instanceMethod yX7_isNumber, Cond.selects RX7 yX7_isNumber yX7_isNumber, Cond.code yX7_isNumber cX7_isNumber 4 (some .boolean), Cond.methodLink RX7 92 yX7_fails, Cond.instanceMethod yX7_fails]
def wsL_law_r13 : List Cond := [Cond.selects RX7 yX7_fails yX7_fails, Cond.code yX7_fails cX7_fails 1 (some .boolean), Cond.methodLink RX7 118 yX7_isStopped, Cond.instanceMethod yX7_isStopped, Cond.selects RX7 yX7_isStopped yX7_isStopped, Cond.code yX7_isStopped cX7_isStopped 3 (some .boolean), Cond.methodLink RX7 121 yX7_isGone, Cond.instanceMethod yX7_isGone, Cond.selects RX7 yX7_isGone yX7_isGone, Cond.code yX7_isGone cX7_isGone 3 (some .boolean), Cond.methodLink RX7 124 yX7_isNow, Cond.instanceMethod yX7_isNow, Cond.selects RX7 yX7_isNow yX7_isNow, Cond.code yX7_isNow cX7_isNow 2 (some .boolean), Cond.methodLink RX7 49 yX7_has, Cond.static yX7_has, Cond.code yX7_has cX7_has 2 (some .boolean), Cond.methodLink RL 29 yX6_house, Cond.instanceMethod yX6_house, Cond.selects RX6 yX6_house yX6_house, Cond.code yX6_house cX6_house 2 (some .int), Cond.fieldLink RX6 77 "WrongClocks$Text" "lineCount" "I", Cond.methodLink RX6 80 yX1_heed, Cond.instanceMethod yX1_heed]
def wsL_law_r14 : List Cond := [Cond.selects RX1 yX1_heed yX1_heed, Cond.code yX1_heed cX1_heed 8 none, Cond.fieldLink RX1 44 "WrongClocks$Clock" "read" "I", Cond.methodLink RX1 50 yX5_number, Cond.methodLink RX1 56 yX1_readNone, Cond.instanceMethod yX1_readNone, Cond.selects RX1 yX1_readNone yX1_readNone, Cond.code yX1_readNone cX1_readNone 2 none, Cond.methodLink RX1 59 yX0_tell, Cond.instanceMethod yX0_tell, Cond.selects RX0 yX0_tell yX0_tell, Cond.code yX0_tell cX0_tell 6 none, Cond.methodLink RL 32 yX7_house, Cond.instanceMethod yX7_house, Cond.selects RX7 yX7_house yX7_house, Cond.code yX7_house cX7_house 2 (some .int), Cond.methodLink RX7 139 yX7_doLine, Cond.instanceMethod yX7_doLine, Cond.selects RX7 yX7_doLine yX7_doLine, Cond.code yX7_doLine cX7_doLine 3 none, Cond.fieldLink RX7 136 "WrongClocksModel" "isRead1" "I", Cond.methodLink RL 33 yX6_clock, Cond.instanceMethod yX6_clock, Cond.selects RX6 yX6_clock yX6_clock]
def wsL_law_r15 : List Cond := [Cond.code yX6_clock cX6_clock 5 (some .int), Cond.fieldLink RX6 88 "WrongClocks$Clock" "kind" "I", Cond.fieldLink RX6 91 "WrongClocks$Clock" "set" "I", Cond.fieldLink RX6 94 "WrongClocks$Clock" "dial" "I", Cond.fieldLink RX6 97 "WrongClocks$Clock" "low" "I", Cond.fieldLink RX6 100 "WrongClocks$Clock" "high" "I", Cond.fieldLink RX6 103 "WrongClocks$Clock" "read" "I", Cond.methodLink RX6 84 yX1_toldClock, Cond.instanceMethod yX1_toldClock, Cond.selects RX1 yX1_toldClock yX1_toldClock, Cond.code yX1_toldClock cX1_toldClock 2 (some (.object "WrongClocks$Clock")), Cond.methodLink RL 37 yX7_clock, Cond.instanceMethod yX7_clock, Cond.selects RX7 yX7_clock yX7_clock, Cond.code yX7_clock cX7_clock 4 (some .int), Cond.methodLink RX7 143 yX7_isClock, Cond.instanceMethod yX7_isClock, Cond.selects RX7 yX7_isClock yX7_isClock, Cond.code yX7_isClock cX7_isClock 2 (some .boolean), Cond.methodLink RL 38 yX6_shows, Cond.instanceMethod yX6_shows, Cond.selects RX6 yX6_shows yX6_shows, Cond.code yX6_shows cX6_shows 5 (some .int), Cond.methodLink RX6 106 yX6_isBelow]
def wsL_law_r16 : List Cond := [Cond.methodLink RX6 110 yX0_dialAt, Cond.instanceMethod yX0_dialAt, Cond.selects RX0 yX0_dialAt yX0_dialAt, Cond.code yX0_dialAt cX0_dialAt 3 (some .int), Cond.methodLink RX0 38 yX0_handAt, Cond.instanceMethod yX0_handAt, Cond.selects RX0 yX0_handAt yX0_handAt, Cond.code yX0_handAt cX0_handAt 3 (some .int), Cond.methodLink RX0 34 yX0_way, Cond.instanceMethod yX0_way, Cond.selects RX0 yX0_way yX0_way, Cond.code yX0_way cX0_way 4 (some .int), Cond.methodLink RX0 41 yJ9_floorDiv_7cf53, Cond.static yJ9_floorDiv_7cf53, Cond.initialized RJ9, Cond.code yJ9_floorDiv_7cf53 cJ9_floorDiv_7cf53 3 (some .int), Cond.methodLink RX0 46 yJ9_floorMod_7cf53, Cond.static yJ9_floorMod_7cf53, Cond.code yJ9_floorMod_7cf53 cJ9_floorMod_7cf53 3 (some .int), Cond.methodLink RL 42 yX7_shows, Cond.instanceMethod yX7_shows, Cond.selects RX7 yX7_shows yX7_shows, Cond.code yX7_shows cX7_shows 4 (some .int), Cond.methodLink RX7 150 yX7_isMinute]
def wsL_law_r17 : List Cond := [Cond.static yX7_isMinute, Cond.code yX7_isMinute cX7_isMinute 1 (some .boolean), Cond.methodLink RX7 153 yX7_hand, Cond.instanceMethod yX7_hand, Cond.selects RX7 yX7_hand yX7_hand, Cond.code yX7_hand cX7_hand 5 (some .int), Cond.methodLink RX7 157 yX7_down, Cond.static yX7_down, Cond.code yX7_down cX7_down 2 (some .int), Cond.methodLink RX7 146 yX7_rest, Cond.static yX7_rest, Cond.code yX7_rest cX7_rest 3 (some .int), Cond.methodLink RL 43 yX6_can, Cond.instanceMethod yX6_can, Cond.selects RX6 yX6_can yX6_can, Cond.code yX6_can cX6_can 5 (some .int), Cond.methodLink RX6 114 yX0_canShow, Cond.instanceMethod yX0_canShow, Cond.selects RX0 yX0_canShow yX0_canShow, Cond.code yX0_canShow cX0_canShow 7 (some .boolean), Cond.methodLink RX0 49 Lib.Math.min.name, Cond.static Lib.Math.min.name, Cond.initialized "java/lang/Math", Cond.code Lib.Math.min.name Lib.Math.min.code 2 (some .int)]
def wsL_law_r18 : List Cond := [Cond.methodLink RX0 52 Lib.Math.max.name, Cond.static Lib.Math.max.name, Cond.code Lib.Math.max.name Lib.Math.max.code 2 (some .int), Cond.methodLink RL 46 yX7_can, Cond.instanceMethod yX7_can, Cond.selects RX7 yX7_can yX7_can, Cond.code yX7_can cX7_can 4 (some .int), Cond.methodLink RX7 163 yX7_canShow, Cond.instanceMethod yX7_canShow, Cond.selects RX7 yX7_canShow yX7_canShow, Cond.code yX7_canShow cX7_canShow 4 (some .boolean), Cond.methodLink RX7 160 yX7_isBetween, Cond.static yX7_isBetween, Cond.code yX7_isBetween cX7_isBetween 5 (some .boolean), Cond.methodLink RL 47 yX6_fits, Cond.instanceMethod yX6_fits, Cond.selects RX6 yX6_fits yX6_fits, Cond.code yX6_fits cX6_fits 2 (some .int), Cond.methodLink RX6 117 yX1_readBits, Cond.instanceMethod yX1_readBits, Cond.selects RX1 yX1_readBits yX1_readBits, Cond.code yX1_readBits cX1_readBits 3 (some .int), Cond.methodLink RX6 120 yX1_misfitsAt, Cond.instanceMethod yX1_misfitsAt]
def wsL_law_r19 : List Cond := [Cond.selects RX1 yX1_misfitsAt yX1_misfitsAt, Cond.code yX1_misfitsAt cX1_misfitsAt 5 (some .int), Cond.methodLink RX1 47 yX0_canShow, Cond.methodLink RL 51 yX7_fits, Cond.instanceMethod yX7_fits, Cond.selects RX7 yX7_fits yX7_fits, Cond.code yX7_fits cX7_fits 2 (some .int), Cond.methodLink RX7 166 yX7_fitAt, Cond.instanceMethod yX7_fitAt, Cond.selects RX7 yX7_fitAt yX7_fitAt, Cond.code yX7_fitAt cX7_fitAt 4 (some .int), Cond.methodLink RL 52 yX6_times, Cond.instanceMethod yX6_times, Cond.selects RX6 yX6_times yX6_times, Cond.code yX6_times cX6_times 3 (some .int), Cond.methodLink RX6 123 yX6_sift, Cond.instanceMethod yX6_sift, Cond.selects RX6 yX6_sift yX6_sift, Cond.code yX6_sift cX6_sift 2 none, Cond.methodLink RX6 126 yX4_clear, Cond.instanceMethod yX4_clear, Cond.selects RX4 yX4_clear yX4_clear, Cond.code yX4_clear cX4_clear 1 none, Cond.methodLink RX6 129 yX4_add]
def wsL_law_r20 : List Cond := [Cond.instanceMethod yX4_add, Cond.selects RX4 yX4_add yX4_add, Cond.code yX4_add cX4_add 2 none, Cond.methodLink RX6 132 yX4_tell, Cond.instanceMethod yX4_tell, Cond.selects RX4 yX4_tell yX4_tell, Cond.code yX4_tell cX4_tell 2 (some .int), Cond.methodLink RL 55 yX7_times, Cond.instanceMethod yX7_times, Cond.selects RX7 yX7_times yX7_times, Cond.code yX7_times cX7_times 7 (some .int), Cond.methodLink RX7 170 yX7_layFits, Cond.instanceMethod yX7_layFits, Cond.selects RX7 yX7_layFits yX7_layFits, Cond.code yX7_layFits cX7_layFits 2 none, Cond.methodLink RL 56 yX6_liars, Cond.instanceMethod yX6_liars, Cond.selects RX6 yX6_liars yX6_liars, Cond.code yX6_liars cX6_liars 4 (some .int), Cond.methodLink RX6 135 yX6_isLess, Cond.static yX6_isLess, Cond.code yX6_isLess cX6_isLess 3 (some .boolean), Cond.methodLink RX6 138 yJ6_bitCount_0f7a4, Cond.static yJ6_bitCount_0f7a4]
def wsL_law_r21 : List Cond := [Cond.initialized RJ6, Cond.code yJ6_bitCount_0f7a4 cJ6_bitCount_0f7a4 1 (some .int), Cond.constant RJ6 265 (1431655765), Cond.constant RJ6 266 (858993459), Cond.constant RJ6 267 (252645135), Cond.methodLink RL 59 yX7_liars, Cond.instanceMethod yX7_liars, Cond.selects RX7 yX7_liars yX7_liars, Cond.code yX7_liars cX7_liars 6 (some .int), Cond.methodLink RX7 173 yX7_bits, Cond.static yX7_bits, Cond.code yX7_bits cX7_bits 3 (some .int), Cond.methodLink RL 60 yX6_next, Cond.instanceMethod yX6_next, Cond.selects RX6 yX6_next yX6_next, Cond.code yX6_next cX6_next 7 (some .int), Cond.methodLink RX6 143 yX6_mostLeftBy, Cond.instanceMethod yX6_mostLeftBy, Cond.selects RX6 yX6_mostLeftBy yX6_mostLeftBy, Cond.code yX6_mostLeftBy cX6_mostLeftBy 5 (some .int), Cond.methodLink RX6 153 Lib.Math.max.name, Cond.methodLink RX6 147 yJ7_fill_53178, Cond.static yJ7_fill_53178, Cond.initialized RJ7]
def wsL_law_r22 : List Cond := [Cond.code yJ7_fill_53178 cJ7_fill_53178 4 none, Cond.methodLink RL 63 yX7_next, Cond.instanceMethod yX7_next, Cond.selects RX7 yX7_next yX7_next, Cond.code yX7_next cX7_next 8 (some .int), Cond.methodLink RX7 176 yX7_isExact, Cond.instanceMethod yX7_isExact, Cond.selects RX7 yX7_isExact yX7_isExact, Cond.code yX7_isExact cX7_isExact 2 (some .boolean), Cond.methodLink RL 64 yX6_note, Cond.instanceMethod yX6_note, Cond.selects RX6 yX6_note yX6_note, Cond.code yX6_note cX6_note 4 (some .int), Cond.fieldLink RX6 158 "WrongClocks$House" "notes" "LWrongClocks$Notes;", Cond.fieldLink RX6 167 "WrongClocks$Notes" "many" "I", Cond.methodLink RX6 162 yX2_add, Cond.instanceMethod yX2_add, Cond.selects RX2 yX2_add yX2_add, Cond.code yX2_add cX2_add 4 (some .boolean), Cond.methodLink RL 67 yX7_note, Cond.instanceMethod yX7_note, Cond.selects RX7 yX7_note yX7_note, Cond.code yX7_note cX7_note 4 (some .int), Cond.fieldLink RX7 179 "WrongClocksModel" "noted" "I"]
def wsL_law_r23 : List Cond := [Cond.methodLink RL 68 yX6_burn, Cond.instanceMethod yX6_burn, Cond.selects RX6 yX6_burn yX6_burn, Cond.code yX6_burn cX6_burn 2 (some .int), Cond.methodLink RL 71 yX7_burn, Cond.instanceMethod yX7_burn, Cond.selects RX7 yX7_burn yX7_burn, Cond.code yX7_burn cX7_burn 2 (some .int), Cond.methodLink RL 72 yX6_rates, Cond.instanceMethod yX6_rates, Cond.selects RX6 yX6_rates yX6_rates, Cond.code yX6_rates cX6_rates 5 (some .int), Cond.methodLink RX6 170 yX2_allow, Cond.instanceMethod yX2_allow, Cond.selects RX2 yX2_allow yX2_allow, Cond.code yX2_allow cX2_allow 11 (some .boolean), Cond.constant RX2 35 (518400), Cond.constant RX2 36 (1036800), Cond.methodLink RX2 42 Lib.Math.min.name, Cond.methodLink RX2 45 Lib.Math.max.name, Cond.methodLink RX2 29 yX0_way, Cond.methodLink RX2 37 yJ9_floorMod_7cf53, Cond.methodLink RL 75 yX7_rates, Cond.instanceMethod yX7_rates]
def wsL_law_r24 : List Cond := [Cond.selects RX7 yX7_rates yX7_rates, Cond.code yX7_rates cX7_rates 7 (some .int), Cond.methodLink RX7 184 yX7_isNoted, Cond.instanceMethod yX7_isNoted, Cond.selects RX7 yX7_isNoted yX7_isNoted, Cond.code yX7_isNoted cX7_isNoted 10 (some .boolean), Cond.constant RX7 182 (1036800), Cond.constant RX7 183 (518400), Cond.methodLink RL 76 yX6_again, Cond.instanceMethod yX6_again, Cond.selects RX6 yX6_again yX6_again, Cond.code yX6_again cX6_again 16 (some .int), Cond.constant RX6 178 (9999999), Cond.constantLong RX6 186 (-1), Cond.constantLong RX6 188 (1036800), Cond.methodLink RX6 194 Lib.MathLoose.max_long.x, Cond.static Lib.MathLoose.max_long.x, Cond.code Lib.MathLoose.max_long.x Lib.MathLoose.max_long.code 4 (some .long), Cond.methodLink RX6 174 yX6_canMeet, Cond.instanceMethod yX6_canMeet, Cond.selects RX6 yX6_canMeet yX6_canMeet, Cond.code yX6_canMeet cX6_canMeet 4 (some .boolean), Cond.methodLink RX6 179 yX0_handAt, Cond.methodLink RX6 182 yX6_leastFactor]
def wsL_law_r25 : List Cond := [Cond.static yX6_leastFactor, Cond.code yX6_leastFactor cX6_leastFactor 12 (some .long), Cond.methodLink RX6 196 yJ9_floorMod_f86c9, Cond.static yJ9_floorMod_f86c9, Cond.code yJ9_floorMod_f86c9 cJ9_floorMod_f86c9 6 (some .long), Cond.methodLink RX6 190 yX6_sharedWithRound, Cond.static yX6_sharedWithRound, Cond.code yX6_sharedWithRound cX6_sharedWithRound 2 (some .long), Cond.methodLink RX6 202 yX6_commonDivisor, Cond.static yX6_commonDivisor, Cond.code yX6_commonDivisor cX6_commonDivisor 11 (some .long), Cond.methodLink RX6 199 yX6_inverse, Cond.static yX6_inverse, Cond.code yX6_inverse cX6_inverse 19 (some .long), Cond.methodLink RL 79 yX7_again, Cond.instanceMethod yX7_again, Cond.selects RX7 yX7_again yX7_again, Cond.code yX7_again cX7_again 6 (some .int), Cond.constant RX7 198 (9999999), Cond.fieldLink RX7 193 "WrongClocksModel" "againAt" "I", Cond.methodLink RX7 199 yX7_isFirstAgain, Cond.instanceMethod yX7_isFirstAgain, Cond.selects RX7 yX7_isFirstAgain yX7_isFirstAgain, Cond.code yX7_isFirstAgain cX7_isFirstAgain 17 (some .boolean)]
def wsL_law_r26 : List Cond := [Cond.fieldLink RX7 190 "WrongClocksModel" "againStep" "I", Cond.methodLink RX7 187 yX7_common, Cond.static yX7_common, Cond.code yX7_common cX7_common 5 (some .int), Cond.methodLink RX7 202 yX7_isAgain, Cond.instanceMethod yX7_isAgain, Cond.selects RX7 yX7_isAgain yX7_isAgain, Cond.code yX7_isAgain cX7_isAgain 8 (some .boolean), Cond.constantLong RX7 196 (1036800), Cond.methodLink RL 80 yX6_stopped, Cond.instanceMethod yX6_stopped, Cond.selects RX6 yX6_stopped yX6_stopped, Cond.code yX6_stopped cX6_stopped 7 (some .int), Cond.methodLink RL 83 yX7_stopped, Cond.instanceMethod yX7_stopped, Cond.selects RX7 yX7_stopped yX7_stopped, Cond.code yX7_stopped cX7_stopped 8 (some .int), Cond.methodLink RL 84 yX6_setBy, Cond.instanceMethod yX6_setBy, Cond.selects RX6 yX6_setBy yX6_setBy, Cond.code yX6_setBy cX6_setBy 9 (some .int), Cond.constant RX6 213 (1036800), Cond.constant RX6 216 (86400), Cond.methodLink RX6 205 yX0_runsByOneRate]
def wsL_law_r27 : List Cond := [Cond.instanceMethod yX0_runsByOneRate, Cond.selects RX0 yX0_runsByOneRate yX0_runsByOneRate, Cond.code yX0_runsByOneRate cX0_runsByOneRate 1 (some .boolean), Cond.methodLink RX6 209 yX0_copy, Cond.instanceMethod yX0_copy, Cond.selects RX0 yX0_copy yX0_copy, Cond.code yX0_copy cX0_copy 2 none, Cond.methodLink RX0 30 yX0_tell, Cond.methodLink RX6 214 yJ9_floorMod_7cf53, Cond.methodLink RL 88 yX7_setBy, Cond.instanceMethod yX7_setBy, Cond.selects RX7 yX7_setBy yX7_setBy, Cond.code yX7_setBy cX7_setBy 9 (some .int), Cond.constant RX7 205 (86400), Cond.methodLink RL 89 yX6_egg, Cond.instanceMethod yX6_egg, Cond.selects RX6 yX6_egg yX6_egg, Cond.code yX6_egg cX6_egg 14 (some .long), Cond.constantLong RX6 217 (-2), Cond.constantLong RX6 219 (-3), Cond.constantLong RX6 221 (-4), Cond.methodLink RX6 223 yX6_leastOff, Cond.static yX6_leastOff, Cond.code yX6_leastOff cX6_leastOff 24 (some .long)]
def wsL_law_r28 : List Cond := [Cond.methodLink RX6 230 Lib.MathLoose.abs_long.x, Cond.static Lib.MathLoose.abs_long.x, Cond.code Lib.MathLoose.abs_long.x Lib.MathLoose.abs_long.code 2 (some .long), Cond.methodLink RX6 227 yX0_partsToWholeMinute, Cond.instanceMethod yX0_partsToWholeMinute, Cond.selects RX0 yX0_partsToWholeMinute yX0_partsToWholeMinute, Cond.code yX0_partsToWholeMinute cX0_partsToWholeMinute 2 (some .int), Cond.methodLink RL 93 yX7_egg, Cond.instanceMethod yX7_egg, Cond.selects RX7 yX7_egg yX7_egg, Cond.code yX7_egg cX7_egg 20 (some .long), Cond.constantLong RX7 209 (1440), Cond.methodLink RX7 206 yX7_toWhole, Cond.instanceMethod yX7_toWhole, Cond.selects RX7 yX7_toWhole yX7_toWhole, Cond.code yX7_toWhole cX7_toWhole 4 (some .int), Cond.methodLink RL 94 yX6_order, Cond.instanceMethod yX6_order, Cond.selects RX6 yX6_order yX6_order, Cond.code yX6_order cX6_order 4 (some .int), Cond.fieldLink RX6 237 "WrongClocks$Queue" "many" "I", Cond.methodLink RX6 233 yX3_clear, Cond.instanceMethod yX3_clear, Cond.selects RX3 yX3_clear yX3_clear]
def wsL_law_r29 : List Cond := [Cond.code yX3_clear cX3_clear 1 none, Cond.methodLink RX6 234 yX3_add, Cond.instanceMethod yX3_add, Cond.selects RX3 yX3_add yX3_add, Cond.code yX3_add cX3_add 3 none, Cond.methodLink RX6 238 yX3_weigh, Cond.instanceMethod yX3_weigh, Cond.selects RX3 yX3_weigh yX3_weigh, Cond.code yX3_weigh cX3_weigh 4 none, Cond.methodLink RX3 32 Lib.Math.max.name, Cond.methodLink RX3 25 yX3_leastBehind, Cond.instanceMethod yX3_leastBehind, Cond.selects RX3 yX3_leastBehind yX3_leastBehind, Cond.code yX3_leastBehind cX3_leastBehind 2 (some .int), Cond.methodLink RX3 29 yX3_errorBehind, Cond.instanceMethod yX3_errorBehind, Cond.selects RX3 yX3_errorBehind yX3_errorBehind, Cond.code yX3_errorBehind cX3_errorBehind 4 (some .int), Cond.methodLink RX3 38 Lib.Math.abs.name, Cond.static Lib.Math.abs.name, Cond.code Lib.Math.abs.name Lib.Math.abs.code 1 (some .int), Cond.methodLink RX6 241 yX3_leastError, Cond.instanceMethod yX3_leastError, Cond.selects RX3 yX3_leastError yX3_leastError]
def wsL_law_r30 : List Cond := [Cond.code yX3_leastError cX3_leastError 1 (some .int), Cond.methodLink RX6 244 yX3_clockAt, Cond.instanceMethod yX3_clockAt, Cond.selects RX3 yX3_clockAt yX3_clockAt, Cond.code yX3_clockAt cX3_clockAt 5 (some .int), Cond.methodLink RX3 45 yX3_firstBehind, Cond.instanceMethod yX3_firstBehind, Cond.selects RX3 yX3_firstBehind yX3_firstBehind, Cond.code yX3_firstBehind cX3_firstBehind 3 (some .int), Cond.methodLink RL 97 yX7_order, Cond.instanceMethod yX7_order, Cond.selects RX7 yX7_order yX7_order, Cond.code yX7_order cX7_order 4 (some .int), Cond.fieldLink RX7 211 "WrongClocksModel" "orderMany" "I", Cond.fieldLink RX7 218 "WrongClocksModel" "orderLeast" "I", Cond.methodLink RX7 221 yX7_take, Cond.instanceMethod yX7_take, Cond.selects RX7 yX7_take yX7_take, Cond.code yX7_take cX7_take 2 none, Cond.methodLink RX7 214 yX7_greatest, Cond.instanceMethod yX7_greatest, Cond.selects RX7 yX7_greatest yX7_greatest, Cond.code yX7_greatest cX7_greatest 5 (some .int), Cond.methodLink RX7 224 yX7_nextRow]
def wsL_law_r31 : List Cond := [Cond.instanceMethod yX7_nextRow, Cond.selects RX7 yX7_nextRow yX7_nextRow, Cond.code yX7_nextRow cX7_nextRow 6 (some .boolean), Cond.methodLink RL 98 yX6_keep, Cond.instanceMethod yX6_keep, Cond.selects RX6 yX6_keep yX6_keep, Cond.code yX6_keep cX6_keep 2 (some .int), Cond.fieldLink RX6 250 "WrongClocks$House" "filled" "Z", Cond.methodLink RX6 247 yX1_copy, Cond.instanceMethod yX1_copy, Cond.selects RX1 yX1_copy yX1_copy, Cond.code yX1_copy cX1_copy 3 none, Cond.methodLink RX1 29 yX0_copy, Cond.methodLink RX1 33 yX2_copy, Cond.instanceMethod yX2_copy, Cond.selects RX2 yX2_copy yX2_copy, Cond.code yX2_copy cX2_copy 3 none, Cond.methodLink RX2 25 yX2_add, Cond.methodLink RL 101 yX7_keep, Cond.instanceMethod yX7_keep, Cond.selects RX7 yX7_keep yX7_keep, Cond.code yX7_keep cX7_keep 4 (some .int), Cond.methodLink RL 102 yX6_back, Cond.instanceMethod yX6_back]
def wsL_law_r32 : List Cond := [Cond.selects RX6 yX6_back yX6_back, Cond.code yX6_back cX6_back 2 (some .int), Cond.methodLink RL 105 yX7_back, Cond.instanceMethod yX7_back, Cond.selects RX7 yX7_back yX7_back, Cond.code yX7_back cX7_back 4 (some .int), Cond.methodLink RL 106 yX6_count, Cond.instanceMethod yX6_count, Cond.selects RX6 yX6_count yX6_count, Cond.code yX6_count cX6_count 2 (some .int), Cond.methodLink RL 109 yX7_count, Cond.instanceMethod yX7_count, Cond.selects RX7 yX7_count yX7_count, Cond.code yX7_count cX7_count 2 (some .int)]
def wsL_law : List Cond := (wsL_law_r1 ++ (wsL_law_r2 ++ (wsL_law_r3 ++ (wsL_law_r4 ++ (wsL_law_r5 ++ (wsL_law_r6 ++ (wsL_law_r7 ++ (wsL_law_r8 ++ (wsL_law_r9 ++ (wsL_law_r10 ++ (wsL_law_r11 ++ (wsL_law_r12 ++ (wsL_law_r13 ++ (wsL_law_r14 ++ (wsL_law_r15 ++ (wsL_law_r16 ++ (wsL_law_r17 ++ (wsL_law_r18 ++ (wsL_law_r19 ++ (wsL_law_r20 ++ (wsL_law_r21 ++ (wsL_law_r22 ++ (wsL_law_r23 ++ (wsL_law_r24 ++ (wsL_law_r25 ++ (wsL_law_r26 ++ (wsL_law_r27 ++ (wsL_law_r28 ++ (wsL_law_r29 ++ (wsL_law_r30 ++ (wsL_law_r31 ++ wsL_law_r32))))))))))))))))))))))))))))))) ++ wsX60 ++ wsX70 ++ wsX50 ++ wsX10 ++ wsX40 ++ wsX00 ++ wsX30 ++ wsX20 ++ ([] : List Cond)
abbrev vwCl : List vw_C := [(RX0, TX0, 6), (RX1, TX1, 3), (RX2, TX2, 4), (RX3, TX3, 4), (RX4, TX4, 4), (RX5, TX5, 6), (RX6, TX6, 9), (RX7, TX7, 26)]
end
section
/-! My own layer over the kit's rows: a contract that is a function (what is answered, what the cells are behind it), one context, one state of the heap. -/
def nw_l : List (String × Nat × MethodName × String) := [("WrongClocks", 11, ⟨"WrongClocks$Text", "<init>", "()V"⟩, "WrongClocks"), ("WrongClocks$House", 23, ⟨"WrongClocks$Notes", "<init>", "()V"⟩, "WrongClocks"), ("WrongClocks$House", 28, ⟨"WrongClocks$Clock", "<init>", "()V"⟩, "WrongClocks"), ("WrongClocks", 29, ⟨"WrongClocks$Tally", "<init>", "()V"⟩, "WrongClocks"), ("WrongClocks", 36, ⟨"WrongClocks$Clock", "<init>", "()V"⟩, "WrongClocks"), ("WrongClocks", 43, ⟨"WrongClocks$Queue", "<init>", "()V"⟩, "WrongClocks"), ("WrongClocks$Text", 31, ⟨"WrongClocks", "isBelow", "(II)Z"⟩, "WrongClocks"), ("WrongClocks$House", 36, ⟨"WrongClocks", "isBelow", "(II)Z"⟩, "WrongClocks"), ("WrongClocks$Queue", 41, ⟨"WrongClocks", "isBelow", "(II)Z"⟩, "WrongClocks")]
def nw_q (q : String × Nat × MethodName × String) : Cond := .methodLinkNest q.1 q.2.1 q.2.2.1 q.2.2.2
def NW (U : State) : Prop := ∀ q ∈ nw_l, va_Nw (nw_q q) U
theorem NW.warm {s U : State} (hW : s.WarmedH U.vm) (h : NW s) : NW U := fun q hq => va_Nw.warmM hW (h q hq)
theorem NW.same {s U : State} (e : s.vm = U.vm) (h : NW s) : NW U := fun q hq => va_Nw.same rfl e (h q hq)
/-- what a method of mine leaves: the answer v, the cells w1, and nothing else touched -/
def GQ (D : va_G) (v : Option Value) (w1 : va_W) (A : Nat → Prop) : Array Value → State → Outcome → State → Prop := fun _ st oc t => oc = .returned v ∧ va_P D vwCl w1 t.heap ∧ va_D A w1 ∧ va_F A st t
def GP (D : va_G) (tys : List (ClassId × FieldType)) (sz : Nat) (av : List Value) (ws : va_W) : Array Value → State → Prop := va_Pc av (fun U => U.heap.size = sz ∧ va_P D vwCl ws U.heap ∧ va_K D vwCl tys U ∧ va_D (fun _ => True) ws ∧ NW U)
def MC (l : Launch) (D : va_G) (tys : List (ClassId × FieldType)) (y : MethodName) (wsy : List Cond) (fr lo : Nat) (av : List Value) (ws : va_W) (v : Option Value) (w1 : va_W) : Prop :=
  ∀ sz : Nat, Met l y wsy ({ frames := fr, cells := 0, slots := 0, locals := lo }) (GP D tys sz av ws) (GQ D v w1 (va_A ws sz)) 0 0 (va_A ws sz)
theorem GP.blind {D : va_G} {tys : List (ClassId × FieldType)} {sz : Nat} {av : List Value} {ws : va_W} : FrameBlind (GP D tys sz av ws) := fun a U g mk q => by
  obtain ⟨q0, q1, qP, qK, qD, qN⟩ := q
  exact ⟨q0, q1, qP, va_K.moved (u := U) (U := U.calling g mk a) (Vm.Alike.refl U.vm) qK, qD, NW.same (s := U) (U := U.calling g mk a) rfl qN⟩
def HS (D : va_G) (A : Nat → Prop) (H0 : Heap) (w : va_W) (H : Heap) (locs : List Loc) : Prop := va_P D vwCl w H ∧ va_D A w ∧ va_S A H0 H locs
/-- what stays the same while a body is walked -/
def Cx (D : va_G) (tys : List (ClassId × FieldType)) (p : Program) (s : State) (m : MethodId) (args : Array Value) (c : Code) (cc : ByteArray) (nL : Nat) (Ts : List Cond) (own : String) (A : Nat → Prop) : Prop :=
  p.tables.exec = Jvm.exec ∧ c.code = cc ∧ c.maxLocals = nL ∧ s.vm.findClass own = some m.cls ∧ (∀ w ∈ Ts, w.before args s = true) ∧ va_K D vwCl tys s ∧ NW s ∧ (∀ q : Nat, s.heap.size ≤ q → A q)
/-- a callee's cells wc among the caller's ws; behind the call w1 stands in their place: ws1 -/
def JN (ws wc w1 ws1 : va_W) : Prop := (∀ (D : va_G) (H : Heap), va_P D vwCl ws H → va_P D vwCl wc H) ∧ (∀ A : Nat → Prop, va_D A ws → va_D A wc) ∧
  ∀ (D : va_G) (A : Nat → Prop) (H H1 : Heap), va_P D vwCl ws H → va_D A ws → (∀ q : Nat, q < H.size → ¬ va_A wc H.size q → H1[q]? = H[q]?) → (∀ q : Nat, H.size ≤ q → A q) → va_P D vwCl w1 H1 → va_D (va_A wc H.size) w1 → va_P D vwCl ws1 H1 ∧ va_D A ws1
theorem JN.all {ws w1 : va_W} : JN ws ws w1 w1 := by
  refine ⟨fun _ _ h => h, fun _ h => h, fun D A H H1 hP hD _ hA hP1 hD1 => ⟨hP1, hD1.weaken (fun k q hk h => ?_)⟩⟩
  rcases h with ⟨j, e, hj⟩ | h
  · exact hD.2 j (q.1, e) hj
  · exact hA _ h
theorem jn_at {ws wc : va_W} {is : List Nat} (h : is.map (fun i => ws[i]?) = wc.map some) (k : Nat) (q : Nat × va_E) (hq : wc[k]? = some q) : ∃ i, is[k]? = some i ∧ ws[i]? = some q := by
  have h1 : (is.map (fun i => ws[i]?))[k]? = some (some q) := by rw [h, List.getElem?_map, hq]; rfl
  rw [List.getElem?_map] at h1
  cases hi : is[k]? with
  | none => rw [hi] at h1; cases h1
  | some i => rw [hi] at h1; exact ⟨i, rfl, Option.some.inj h1⟩
theorem jn_P {ws wc : va_W} {is : List Nat} (h : is.map (fun i => ws[i]?) = wc.map some) (D : va_G) (H : Heap) (hP : va_P D vwCl ws H) : va_P D vwCl wc H := fun k q hq => by
  obtain ⟨i, -, hi⟩ := jn_at h k q hq
  exact hP i q hi
/-- what lies among ws, and is not of wc, is apart from wc -/
theorem jn_apart {ws wc : va_W} {is : List Nat} (h : is.map (fun i => ws[i]?) = wc.map some) {D : va_G} {A : Nat → Prop} {H : Heap} (hP : va_P D vwCl ws H) (hD : va_D A ws) {k : Nat} (hk : k ∉ is) {q : Nat × va_E} (hq : ws[k]? = some q) : q.1 < H.size ∧ ¬ va_A wc H.size q.1 := by
  have hl := (hP k q hq).lt
  refine ⟨hl, fun hA => ?_⟩
  rcases hA with ⟨j, e, hj⟩ | hA
  · obtain ⟨i, h1, h2⟩ := jn_at h j _ hj
    have := hD.1 k i q (q.1, e) hq h2 rfl
    subst this
    exact hk (List.mem_of_getElem? h1)
  · omega
/-- nothing of the callee's cells has changed -/
theorem JN.ro {ws wc : va_W} (is : List Nat) (h : is.map (fun i => ws[i]?) = wc.map some) (hn : va_nd is = true) : JN ws wc wc ws := by
  refine ⟨fun D H hP => jn_P h D H hP, fun A hD => hD.sub is hn h, fun D A H H1 hP hD hk _ hP1 _ => ⟨fun k q hq => ?_, hD⟩⟩
  by_cases hi : k ∈ is
  · obtain ⟨j, hj⟩ := List.getElem?_of_mem hi
    have h1 : (wc.map some)[j]? = some (ws[k]?) := by rw [← h, List.getElem?_map, hj]; rfl
    rw [List.getElem?_map, hq] at h1
    cases hw : wc[j]? with
    | none => rw [hw] at h1; cases h1
    | some q2 =>
      rw [hw] at h1
      have e : q2 = q := by simpa using h1
      subst e
      exact hP1 j q2 hw
  · obtain ⟨g1, g2⟩ := jn_apart h hP hD hi hq
    exact (hP k q hq).kept (hk q.1 g1 g2)
theorem jn_set {is : List Nat} {w1 : va_W} : ∀ (ws : va_W), (∀ k, k ∉ is → ((is.zip w1).foldl (fun a q => a.set q.1 q.2) ws)[k]? = ws[k]?) := by
  induction is generalizing w1 with
  | nil => intro ws k _; rfl
  | cons i is ih =>
    intro ws k hk
    cases w1 with
    | nil => rfl
    | cons x w1 =>
      rw [List.zip_cons_cons, List.foldl_cons, ih _ k (fun h => hk (List.mem_cons_of_mem _ h)), List.getElem?_set_ne (fun e => hk (by rw [← e]; exact List.mem_cons_self))]
theorem JN.up {ws wc w1 ws1 : va_W} (is : List Nat) (h : is.map (fun i => ws[i]?) = wc.map some) (hn : va_nd is = true) (ha : w1.map Prod.fst = wc.map Prod.fst) (h1 : is.map (fun i => ws1[i]?) = w1.map some) (hs : (is.zip w1).foldl (fun a q => a.set q.1 q.2) ws = ws1) : JN ws wc w1 ws1 := by
  refine ⟨fun D H hP => jn_P h D H hP, fun A hD => hD.sub is hn h, fun D A H H1 hP hD hk _ hP1 _ => ?_⟩
  have key : ∀ (k : Nat) (q : Nat × va_E), ws1[k]? = some q → (k ∉ is ∧ ws[k]? = some q) ∨ ∃ (j : Nat) (q0 : Nat × va_E), is[j]? = some k ∧ w1[j]? = some q ∧ ws[k]? = some q0 ∧ q0.1 = q.1 := by
    intro k q hq
    by_cases hi : k ∈ is
    · right
      obtain ⟨j, hj⟩ := List.getElem?_of_mem hi
      have e1 : (w1.map some)[j]? = some (ws1[k]?) := by rw [← h1, List.getElem?_map, hj]; rfl
      have e2 : (wc.map some)[j]? = some (ws[k]?) := by rw [← h, List.getElem?_map, hj]; rfl
      rw [List.getElem?_map, hq] at e1
      rw [List.getElem?_map] at e2
      have e3 : (w1.map Prod.fst)[j]? = (wc.map Prod.fst)[j]? := by rw [ha]
      rw [List.getElem?_map, List.getElem?_map] at e3
      cases hw : w1[j]? with
      | none => rw [hw] at e1; cases e1
      | some a =>
        rw [hw] at e1 e3
        cases hc : wc[j]? with
        | none => rw [hc] at e3; cases e3
        | some b =>
          rw [hc] at e2 e3
          have ea : a = q := by simpa using e1
          subst ea
          have eb : ws[k]? = some b := by simpa using e2.symm
          exact ⟨j, b, hj, hw, eb, (by simpa using e3.symm)⟩
    · left
      refine ⟨hi, ?_⟩
      rw [← hs, jn_set ws k hi] at hq
      exact hq
  refine ⟨fun k q hq => ?_, ⟨fun i j x y hi hj hxy => ?_, fun k q hq => ?_⟩⟩
  · rcases key k q hq with ⟨hi, hw⟩ | ⟨j, q0, -, hw, -, -⟩
    · obtain ⟨g1, g2⟩ := jn_apart h hP hD hi hw
      exact (hP k q hw).kept (hk q.1 g1 g2)
    · exact hP1 j q hw
  · have f : ∀ (k : Nat) (q : Nat × va_E), ws1[k]? = some q → ∃ q0, ws[k]? = some q0 ∧ q0.1 = q.1 := fun k q hq => by
      rcases key k q hq with ⟨-, hw⟩ | ⟨_, q0, -, -, h3, h4⟩
      · exact ⟨q, hw, rfl⟩
      · exact ⟨q0, h3, h4⟩
    obtain ⟨x0, a1, a2⟩ := f i x hi
    obtain ⟨y0, b1, b2⟩ := f j y hj
    exact hD.1 i j x0 y0 a1 b1 (by rw [a2, b2]; exact hxy)
  · rcases key k q hq with ⟨-, hw⟩ | ⟨_, q0, -, -, h3, h4⟩
    · exact hD.2 k q hw
    · rw [← h4]; exact hD.2 k q0 h3
theorem JN.no {ws : va_W} : JN ws [] [] ws := JN.ro [] rfl rfl
section G1
variable {p : Program} {l : Launch} {e : Env} {R : Room} {s : State} {m : MethodId} {args : Array Value} {below : List Frame} {meth : Method} {c : Code} {H : Heap} {locs : List Loc} {cells slots : Nat} {Q : State → Prop}
variable {lvs : List (Nat × Value)} {cc : ByteArray} {pc nL : Nat} {ls : Array Slot} {rest : List Value} {D : va_G} {tys : List (ClassId × FieldType)} {A : Nat → Prop} {a : Nat} {w : va_W} {Ts : List Cond} {own : String}
theorem Cx.x (C : Cx D tys p s m args c cc nL Ts own A) : p.tables.exec = Jvm.exec := C.1
theorem Cx.b (C : Cx D tys p s m args c cc nL Ts own A) : c.code = cc := C.2.1
theorem g_get (C : Cx D tys p s m args c cc nL Ts own A) (hh : HS D A s.heap w H locs) {CN : String} {T : u_T} {N ci index : Nat} (hin : ∀ x ∈ u_ws CN T N, x ∈ Ts) (q0 : Nat) {fs : List Value} (he : w[q0]? = some (a, .inr (ci, fs))) (hc : vwCl[ci]? = some (CN, T, N)) (k : Nat) (hk : k < N) {v : Value} (hv : fs[k]? = some v) (hl : Cond.fieldLink own index (T k).1 (T k).2.1 (T k).2.2.1 ∈ Ts) (hdg : decode cc pc = .ok (.getfield index, 3))
    (kk : W p l e R s m args below meth c H locs cells slots Q (F0 m (pc + 3) ls (v :: rest))) : W p l e R s m args below meth c H locs cells slots Q (F0 m pc ls (.ref a :: rest)) :=
  va_get C.1 C.2.1 C.2.2.2.2.1 hin C.2.2.2.1 C.2.2.2.2.2.1 hh.1 q0 he hc k hk (C.2.2.2.2.1 _ hl) (fun _ h => h) hv hdg kk
theorem g_put (C : Cx D tys p s m args c cc nL Ts own A) (hh : HS D A s.heap w H locs) {CN : String} {T : u_T} {N ci index : Nat} (hin : ∀ x ∈ u_ws CN T N, x ∈ Ts) (ty0 : Nat → FieldType) (hty : ∀ k, k < N → parseFieldDescriptor (T k).2.2.1 = some (ty0 k)) (hnm : ∀ a, a < N → ∀ b, b < N → a ≠ b → (T a).2.1 ≠ (T b).2.1) (q0 : Nat) {fs fs' : List Value} (he : w[q0]? = some (a, .inr (ci, fs))) (hc : vwCl[ci]? = some (CN, T, N)) (k : Nat) (hk : k < N) {v : Value} (hfin : (T k).2.2.2 = false) (hn : narrow (ty0 k) v = v) (hfit : fits (ty0 k) v = true) (hlen : k < fs.length) (hl : Cond.fieldLink own index (T k).1 (T k).2.1 (T k).2.2.1 ∈ Ts) {w' : va_W} (hs : fs.set k v = fs') (hw : w.set q0 (a, .inr (ci, fs')) = w') (hdg : decode cc pc = .ok (.putfield index, 3))
    (kk : ∀ (H1 : Heap) (locs1 : List Loc), HS D A s.heap w' H1 locs1 → W p l e R s m args below meth c H1 locs1 cells slots Q (F0 m (pc + 3) ls rest)) : W p l e R s m args below meth c H locs cells slots Q (F0 m pc ls (v :: .ref a :: rest)) := by
  subst hs; subst hw
  exact va_put C.1 C.2.1 C.2.2.2.2.1 hin ty0 hty hnm C.2.2.2.1 C.2.2.2.2.2.1 hh.1 hh.2.1 hh.2.2 q0 he hc k hk (C.2.2.2.2.1 _ hl) (fun _ h => h) hfin (hty k hk) hn hfit hlen hdg (fun H1 locs1 g1 g2 g3 => kk H1 locs1 ⟨g1, g2, g3⟩)
theorem g_iald (C : Cx D tys p s m args c cc nL Ts own A) (hh : HS D A s.heap w H locs) (q0 t0 : Nat) {cA : ClassId} {n : Nat} {f : Nat → Int32} (ha : w[q0]? = some (a, .inl (cA, n, .inl f))) (ht : tys[t0]? = some (cA, .int)) {i : Int32} (hin : vp_in i n) (hdg : decode cc pc = .ok (.iaload, 1))
    (kk : W p l e R s m args below meth c H locs cells slots Q (F0 m (pc + 1) ls (.int (f i.toNatClampNeg) :: rest))) : W p l e R s m args below meth c H locs cells slots Q (F0 m pc ls (.int i :: .ref a :: rest)) :=
  va_iald C.1 C.2.1 C.2.2.2.2.2.1 hh.1 q0 t0 ha ht hin hdg kk
theorem g_zald (C : Cx D tys p s m args c cc nL Ts own A) (hh : HS D A s.heap w H locs) (q0 t0 : Nat) {cA : ClassId} {n : Nat} {f : Nat → Int32} (ha : w[q0]? = some (a, .inl (cA, n, .inl f))) (ht : tys[t0]? = some (cA, .boolean)) {i : Int32} (hin : vp_in i n) (hdg : decode cc pc = .ok (.baload, 1))
    (kk : W p l e R s m args below meth c H locs cells slots Q (F0 m (pc + 1) ls (.int (f i.toNatClampNeg) :: rest))) : W p l e R s m args below meth c H locs cells slots Q (F0 m pc ls (.int i :: .ref a :: rest)) :=
  va_zald C.1 C.2.1 C.2.2.2.2.2.1 hh.1 q0 t0 ha ht hin hdg kk
theorem g_aald (C : Cx D tys p s m args c cc nL Ts own A) (hh : HS D A s.heap w H locs) (q0 t0 : Nat) {cA : ClassId} {CN : String} {n : Nat} {f : Nat → Option Nat} (ha : w[q0]? = some (a, .inl (cA, n, .inr (.inr (.inr (.inr f)))))) (ht : tys[t0]? = some (cA, .object CN)) {i : Int32} (hin : vp_in i n) {v : Value} (hv : va_rf (f i.toNatClampNeg) = v) (hdg : decode cc pc = .ok (.aaload, 1))
    (kk : W p l e R s m args below meth c H locs cells slots Q (F0 m (pc + 1) ls (v :: rest))) : W p l e R s m args below meth c H locs cells slots Q (F0 m pc ls (.int i :: .ref a :: rest)) := by
  subst hv
  exact va_aldq C.1 C.2.1 C.2.2.2.2.2.1 hh.1 q0 t0 ha ht hin hdg kk
theorem g_alen (C : Cx D tys p s m args c cc nL Ts own A) (hh : HS D A s.heap w H locs) (q0 t0 : Nat) {cA : ClassId} {x : vp_A} (ha : w[q0]? = some (a, .inl (cA, x))) {ty : FieldType} (ht : tys[t0]? = some (cA, ty)) {v : Int32} (hv : Int32.ofNat x.1 = v) (hdg : decode cc pc = .ok (.arraylength, 1))
    (kk : W p l e R s m args below meth c H locs cells slots Q (F0 m (pc + 1) ls (.int v :: rest))) : W p l e R s m args below meth c H locs cells slots Q (F0 m pc ls (.ref a :: rest)) :=
  va_alen C.1 C.2.1 C.2.2.2.2.2.1 hh.1 q0 t0 ha ht hv hdg kk
theorem g_iast (C : Cx D tys p s m args c cc nL Ts own A) (hh : HS D A s.heap w H locs) (q0 t0 : Nat) {cA : ClassId} {n : Nat} {f : Nat → Int32} (ha : w[q0]? = some (a, .inl (cA, n, .inl f))) (ht : tys[t0]? = some (cA, .int)) {i x : Int32} (hin : vp_in i n) {w' : va_W} (hw : w.set q0 (a, .inl (cA, n, .inl (upd f i.toNatClampNeg x))) = w') (hdg : decode cc pc = .ok (.iastore, 1))
    (kk : ∀ (H1 : Heap) (locs1 : List Loc), HS D A s.heap w' H1 locs1 → W p l e R s m args below meth c H1 locs1 cells slots Q (F0 m (pc + 1) ls rest)) : W p l e R s m args below meth c H locs cells slots Q (F0 m pc ls (.int x :: .int i :: .ref a :: rest)) := by
  subst hw
  exact va_iast C.1 C.2.1 C.2.2.2.2.2.1 hh.1 hh.2.1 hh.2.2 q0 t0 ha ht hin hdg (fun H1 locs1 g1 g2 g3 => kk H1 locs1 ⟨g1, g2, g3⟩)
/-- a call that has run: the world behind it -/
theorem g_fin {wc w1 ws1 : va_W} {st0 : List Value} {v : Option Value} {av : Array Value} (C : Cx D tys p s m args c cc nL Ts own A) (hh : HS D A s.heap w H locs) (J : JN w wc w1 ws1) (hr : va_Run p l e R s m args below meth c H locs cells slots 0 0 (F0 m pc ls st0) rest (GQ D v w1 (va_A wc H.size) av) (va_A wc H.size))
    (kk : ∀ (H1 : Heap) (locs1 : List Loc), HS D A s.heap ws1 H1 locs1 → W p l e R s m args below meth c H1 locs1 cells slots Q (F0 m (pc + 3) ls (v.toList ++ rest))) : W p l e R s m args below meth c H locs cells slots Q (F0 m pc ls st0) := by
  intro T hT X
  obtain ⟨v', st₀, t, T', L, h0, X', hL, e1, e2, ⟨hv, hP1, hD1, hz, hk⟩, st⟩ := hr T hT X
  have hv' : v' = v := by injection hv
  subst hv'
  rw [h0] at hz hk
  obtain ⟨hP, hD, hS⟩ := hh
  have hA := C.2.2.2.2.2.2.2
  have hsub : ∀ q, va_A wc H.size q → A q := fun q hq => by
    rcases hq with ⟨k, x, hq⟩ | hq
    · exact (J.2.1 A hD).2 k (q, x) hq
    · exact hA q (Nat.le_trans hS.1 hq)
  obtain ⟨g1, g2⟩ := J.2.2 D A H t.heap hP hD hk (fun q hq => hA q (Nat.le_trans hS.1 hq)) hP1 hD1
  obtain ⟨t2, a1, b1⟩ := kk T'.heap (locs ++ L) ⟨by rw [e1]; exact g1, g2, Nat.le_trans hS.1 (by rw [e1]; exact hz), fun q h1 h2 => by rw [e1, hk q (Nat.lt_of_lt_of_le h1 hS.1) (fun z => h2 (hsub q z))]; exact hS.2.1 q h1 h2, fun q hq => by
      rcases List.mem_append.mp hq with h | h
      · exact hS.2.2 q h
      · exact hsub _ (hL q h)⟩ T' rfl X'
  exact ⟨t2, st t2 a1, b1⟩
theorem g_preP {wc w1 ws1 : va_W} {av : List Value} (C : Cx D tys p s m args c cc nL Ts own A) (hh : HS D A s.heap w H locs) (J : JN w wc w1 ws1) : ∀ U : State, U.heap = H → s.WarmedH U.vm → GP D tys H.size av wc av.toArray U := fun U hU hW =>
  ⟨rfl, by rw [hU], by rw [hU]; exact J.1 D H hh.1, va_K.moved hW.alike C.2.2.2.2.2.1, (J.2.1 A hh.2.1).weaken (fun _ _ _ _ => trivial), NW.warm hW C.2.2.2.2.2.2.1⟩
theorem g_fix (C : Cx D tys p s m args c cc nL Ts own A) : CallFix p m c cc nL s args Ts own := ⟨C.1, C.2.1, C.2.2.1, C.2.2.2.1, C.2.2.2.2.1⟩
/-- invokevirtual -/
theorem g_callV {wc w1 ws1 : va_W} {As : List Value} {v : Option Value} {y : MethodName} {wsy ws' : List Cond} {fr lo fr2 lo2 maxL index b : Nat} {bytes : ByteArray} {ret : Option FieldType} {CN : String} (C : Cx D tys p s m args c cc nL Ts own A) (hR : R = { frames := fr2, cells := R.cells, slots := R.slots, locals := lo2 }) (hcs : cells ≤ R.cells ∧ slots ≤ R.slots) (hh : HS D A s.heap w H locs) (hl : lv_has ls nL lvs) (hM : MC l D tys y wsy fr lo (.ref b :: As) wc v w1) (J : JN w wc w1 ws1)
    (n : Nat) (hG : GoodIn Ts (wsV own index CN y wsy)) (hw : wsy = Cond.code y bytes maxL ret :: ws') (hd : y.cls = CN ∧ y.cls ≠ "java/lang/invoke/MethodHandle" ∧ y.cls ≠ "java/lang/invoke/VarHandle" ∧ (parseMethodDescriptor y.desc).map (fun d => d.parameters.length) = some n) (hRR : fr + 1 ≤ fr2 ∧ 8 + (maxL + 11) + lo ≤ lo2)
    (q0 ci : Nat) {q : vw_C} {fs : List Value} (hc : vwCl[ci]? = some q) (hq : q.1 = CN) (he : w[q0]? = some (b, .inr (ci, fs))) (hn : As.length = n) {st0 : List Value} (hst : st0 = As.reverse ++ .ref b :: rest) (hcat : (rest.map fun v => v.category).sum ≤ 8) (hdg : decode cc pc = .ok (.invokevirtual index, 3))
    (kk : ∀ (H1 : Heap) (locs1 : List Loc), HS D A s.heap ws1 H1 locs1 → W p l e R s m args below meth c H1 locs1 cells slots Q (F0 m (pc + 3) ls (v.toList ++ rest))) : W p l e R s m args below meth c H locs cells slots Q (F0 m pc ls st0) := by
  subst hq
  have hR2 : fr2 = R.frames ∧ lo2 = R.locals := by rw [hR]; exact ⟨rfl, rfl⟩
  obtain ⟨rfl, rfl⟩ := hR2
  exact g_fin C hh J (va_runV (As := As) (rest := rest) (g_fix C) (hM H.size) (cwV n C.2.2.2.2.1 hG hw rfl rfl hd hRR) ⟨GP.blind, va_recv C.2.2.2.2.2.1 hh.1 hc he, g_preP C hh J⟩ rfl hn hl.1 hst (lv_room hcat) hdg hcs) kk
/-- invokestatic, of any class -/
theorem g_callS {wc w1 ws1 : va_W} {As : List Value} {v : Option Value} {y : MethodName} {wsy ws' : List Cond} {fr lo fr2 lo2 maxL index : Nat} {bytes : ByteArray} {ret : Option FieldType} (C : Cx D tys p s m args c cc nL Ts own A) (hR : R = { frames := fr2, cells := R.cells, slots := R.slots, locals := lo2 }) (hcs : cells ≤ R.cells ∧ slots ≤ R.slots) (hh : HS D A s.heap w H locs) (hl : lv_has ls nL lvs) (hM : MC l D tys y wsy fr lo As wc v w1) (J : JN w wc w1 ws1)
    (n : Nat) (hG : GoodIn Ts (va_wsS own index y wsy)) (hw : wsy = Cond.code y bytes maxL ret :: ws') (hd : y.cls ≠ "java/lang/invoke/MethodHandle" ∧ y.cls ≠ "java/lang/invoke/VarHandle" ∧ (parseMethodDescriptor y.desc).map (fun d => d.parameters.length) = some n) (hRR : fr + 1 ≤ fr2 ∧ 8 + (maxL + 11) + lo ≤ lo2)
    (hn : As.length = n) {st0 : List Value} (hst : st0 = As.reverse ++ rest) (hcat : (rest.map fun v => v.category).sum ≤ 8) (hdg : decode cc pc = .ok (.invokestatic index, 3))
    (kk : ∀ (H1 : Heap) (locs1 : List Loc), HS D A s.heap ws1 H1 locs1 → W p l e R s m args below meth c H1 locs1 cells slots Q (F0 m (pc + 3) ls (v.toList ++ rest))) : W p l e R s m args below meth c H locs cells slots Q (F0 m pc ls st0) := by
  have hR2 : fr2 = R.frames ∧ lo2 = R.locals := by rw [hR]; exact ⟨rfl, rfl⟩
  obtain ⟨rfl, rfl⟩ := hR2
  have ok : ∀ w ∈ va_wsS own index y wsy, w.before args s = true := fun w h => C.2.2.2.2.1 w (hG w h).1
  exact g_fin C hh J (va_runS (As := As) (rest := rest) (g_fix C) (hM H.size) ⟨callB_of n C.2.2.2.2.1 (fun w h => hG w (by unfold va_wsS; exact List.mem_append_right _ h)) hw rfl rfl (ok _ (by simp [va_wsS])) (ok _ (by simp [va_wsS])) hd hRR, ok _ (by simp [va_wsS])⟩ ⟨GP.blind, g_preP C hh J⟩ rfl hn hl.1 hst (lv_room hcat) hdg hcs) kk
/-- invokestatic of a nest mate's private method -/
theorem g_callN {wc w1 ws1 : va_W} {As : List Value} {v : Option Value} {y : MethodName} {host : String} {wsy ws' : List Cond} {fr lo fr2 lo2 maxL index : Nat} {bytes : ByteArray} {ret : Option FieldType} (C : Cx D tys p s m args c cc nL Ts own A) (hR : R = { frames := fr2, cells := R.cells, slots := R.slots, locals := lo2 }) (hcs : cells ≤ R.cells ∧ slots ≤ R.slots) (hh : HS D A s.heap w H locs) (hl : lv_has ls nL lvs) (hM : MC l D tys y wsy fr lo As wc v w1) (J : JN w wc w1 ws1)
    (n : Nat) (hG : GoodIn Ts wsy) (hw : wsy = Cond.code y bytes maxL ret :: ws') (hnw : (own, index, y, host) ∈ nw_l) (hini : Cond.initialized y.cls ∈ Ts) (hsta : Cond.static y ∈ Ts) (hd : y.cls ≠ "java/lang/invoke/MethodHandle" ∧ y.cls ≠ "java/lang/invoke/VarHandle" ∧ (parseMethodDescriptor y.desc).map (fun d => d.parameters.length) = some n) (hRR : fr + 1 ≤ fr2 ∧ 8 + (maxL + 11) + lo ≤ lo2)
    (hn : As.length = n) {st0 : List Value} (hst : st0 = As.reverse ++ rest) (hcat : (rest.map fun v => v.category).sum ≤ 8) (hdg : decode cc pc = .ok (.invokestatic index, 3))
    (kk : ∀ (H1 : Heap) (locs1 : List Loc), HS D A s.heap ws1 H1 locs1 → W p l e R s m args below meth c H1 locs1 cells slots Q (F0 m (pc + 3) ls (v.toList ++ rest))) : W p l e R s m args below meth c H locs cells slots Q (F0 m pc ls st0) := by
  have hR2 : fr2 = R.frames ∧ lo2 = R.locals := by rw [hR]; exact ⟨rfl, rfl⟩
  obtain ⟨rfl, rfl⟩ := hR2
  exact g_fin C hh J (va_runSN (As := As) (rest := rest) (g_fix C) (hM H.size) ⟨va_cnB n C.2.2.2.2.1 hG hw rfl rfl (C.2.2.2.2.2.2.1 _ hnw) (C.2.2.2.2.1 _ hini) hd hRR, C.2.2.2.2.1 _ hsta, trivial⟩ ⟨GP.blind, g_preP C hh J⟩ rfl hn hl.1 hst (lv_room hcat) hdg hcs) kk
end G1
/-- a body that ends in GQ: proved for any goal Q that its returns reach -/
theorem MC.of {l : Launch} {D : va_G} {tys : List (ClassId × FieldType)} {y : MethodName} {wsy ws' : List Cond} {fr lo : Nat} {av : List Value} {ws : va_W} {v : Option Value} {w1 : va_W} {cc : ByteArray} {maxL : Nat} {ret : Option FieldType} (own : String) (hown : y.cls = own) (hy : plainName y.cls = true) (hw : wsy = Cond.code y cc maxL ret :: ws') (hn : (lg_sl av).length ≤ maxL)
    (body : ∀ (p : Program) (e : Env) (s : State) (m : MethodId) (args : Array Value) (below : List Frame) (meth : Method) (c : Code) (A : Nat → Prop) (Q : State → Prop),
      Cx D tys p s m args c cc maxL wsy own A →
      (∀ (H : Heap) (locs : List Loc) (w : va_W) (pc : Nat) (ls : Array Slot) (st : List Value), HS D A s.heap w H locs → w = w1 → ((∃ x, st = [.int x] ∧ v = some (.int x) ∧ decode cc pc = .ok (.ireturn, 1) ∧ ((ret = some .int) ∨ (ret = some .boolean ∧ (x = 0 ∨ x = 1)) ∨ (∃ ty, ret = some ty ∧ narrow ty (.int x) = .int x))) ∨ (∃ x, st = [.long x] ∧ v = some (.long x) ∧ decode cc pc = .ok (.lreturn, 1) ∧ ret = some .long) ∨ (st = [] ∧ v = none ∧ decode cc pc = .ok (.return_, 1) ∧ ret = none) ∨ (∃ x rt, st = [x] ∧ v = some x ∧ decode cc pc = .ok (.areturn, 1) ∧ ret = some rt ∧ ((∃ n, rt = .object n) ∨ ∃ t, rt = .array t) ∧ (x = .null ∨ ∃ a, x = .ref a))) →
        W p l e { frames := fr, cells := 0, slots := 0, locals := lo } s m args below meth c H locs 0 0 Q (F0 m pc ls st)) →
      HS D A s.heap ws s.heap [] → ∀ ls : Array Slot, lv_has ls maxL (lv_args 0 av) → W p l e { frames := fr, cells := 0, slots := 0, locals := lo } s m args below meth c s.heap [] 0 0 Q (F0 m 0 ls [])) : MC l D tys y wsy fr lo av ws v w1 := by
  subst hown
  intro sz
  refine Met.ofW (cc := cc) (maxL := maxL) (ret := ret) hy hw ?_
  intro p e s m args below meth c s₁ B hml hv
  obtain ⟨rfl, hsz, hP, hK, hD0, hN⟩ := hv
  have hr := B.returns
  have hlocks := B.notSynchronized
  subst hsz
  have hD := hD0.self (sz := s.heap.size)
  have hl := lv_entry av (n := maxL) hn
  rw [lg_entry_eq]
  refine body p e s m av.toArray below meth c (va_A ws s.heap.size) (MQ below (GQ D v w1 (va_A ws s.heap.size)) av.toArray s 0 0 (va_A ws s.heap.size)) ⟨B.exec, B.bytes, hml, findClass_of_methodNamed B.named, atoms_spec (ws := wsy) B.pre, hK, hN, fun q h => Or.inr h⟩ ?_ ⟨hP, hD, va_S.rf⟩ _ hl
  intro H locs w pc ls st hh ew hcase
  subst ew
  have fin : ∀ t : State, t.heap = H → va_P D vwCl w t.heap ∧ va_D (va_A ws s.heap.size) w ∧ va_F (va_A ws s.heap.size) s t := fun t ht => ⟨by rw [ht]; exact hh.1, hh.2.1, hh.2.2.F ht⟩
  rcases hcase with ⟨x, rfl, hv, hdg, hx⟩ | ⟨x, rfl, hv, hdg, hx⟩ | ⟨rfl, hv, hdg, hx⟩ | ⟨x, rt, rfl, hv, hdg, hx, h1, h2⟩
  · rcases hx with hx | ⟨hx, hz⟩ | ⟨ty, hx, hz⟩
    · exact W.iret (v := x) B.exec B.bytes (hr.trans hx) (fun t ht _ => ⟨by rw [hv], fin t ht⟩) hh.2.2.2.2 hdg hlocks
    · refine W.zret (v := x) (ty := .boolean) B.exec B.bytes (hr.trans hx) ?_ (fun t ht _ => ⟨by rw [hv], fin t ht⟩) hh.2.2.2.2 hdg hlocks
      rcases hz with rfl | rfl <;> rfl
    · exact W.zret (v := x) (ty := ty) B.exec B.bytes (hr.trans hx) hz (fun t ht _ => ⟨by rw [hv], fin t ht⟩) hh.2.2.2.2 hdg hlocks
  · exact W.lret (v := x) B.exec B.bytes (hr.trans hx) (fun t ht _ => ⟨by rw [hv], fin t ht⟩) hh.2.2.2.2 hdg hlocks
  · exact W.vret B.exec B.bytes (hr.trans hx) (fun t ht _ => ⟨by rw [hv], fin t ht⟩) hh.2.2.2.2 hdg hlocks
  · exact W.aret (v := x) (rt := rt) B.exec B.bytes (hr.trans hx) h1 h2 (fun t ht _ => ⟨by rw [hv], fin t ht⟩) hh.2.2.2.2 hdg hlocks
abbrev TY (cI cZ cC cH : ClassId) : List (ClassId × FieldType) := [(cI, .int), (cZ, .boolean), (cC, .object "WrongClocks$Clock"), (cH, .object "WrongClocks$House")]
-- numbers
theorem ti_lt {a b : Int32} : a < b ↔ a.toInt < b.toInt := Int32.lt_iff_toInt_lt
theorem ti_le {a b : Int32} : a ≤ b ↔ a.toInt ≤ b.toInt := Int32.le_iff_toInt_le
theorem ti_add {a b : Int32} (h1 : -2147483648 ≤ a.toInt + b.toInt) (h2 : a.toInt + b.toInt < 2147483648) : (a + b).toInt = a.toInt + b.toInt := by
  rw [Int32.toInt_add]; exact Int.bmod_eq_of_le (by omega) (by omega)
theorem ti_sub {a b : Int32} (h1 : -2147483648 ≤ a.toInt - b.toInt) (h2 : a.toInt - b.toInt < 2147483648) : (a - b).toInt = a.toInt - b.toInt := by
  rw [Int32.toInt_sub]; exact Int.bmod_eq_of_le (by omega) (by omega)
theorem ti_mul {a b : Int32} (h1 : -2147483648 ≤ a.toInt * b.toInt) (h2 : a.toInt * b.toInt < 2147483648) : (a * b).toInt = a.toInt * b.toInt := by
  rw [Int32.toInt_mul]; exact Int.bmod_eq_of_le (by omega) (by omega)
theorem ti_inc {a : Int32} (h2 : a.toInt < 2147483647) : (a + 1).toInt = a.toInt + 1 := by
  have h := Int32.le_toInt a
  have e : (1 : Int32).toInt = 1 := rfl
  rw [ti_add (by rw [e]; omega) (by rw [e]; omega), e]
theorem ti_dec {a : Int32} (h2 : -2147483648 < a.toInt) : (a + (-1)).toInt = a.toInt - 1 := by
  have h := Int32.toInt_lt a
  have e : (-1 : Int32).toInt = -1 := rfl
  rw [ti_add (by rw [e]; omega) (by rw [e]; omega), e]; omega
theorem ix6 {k : Int32} (c : Nat) (h0 : 0 ≤ k.toInt) (h1 : k.toInt < 8) (hc : c < 6) : vp_in (6 * k + nI c) 48 := by
  have e6 : (6 : Int32).toInt = 6 := rfl
  have ec : (nI c).toInt = (c : Int) := nI_toInt (by omega)
  have e1 : (6 * k).toInt = 6 * k.toInt := by rw [ti_mul (by rw [e6]; omega) (by rw [e6]; omega), e6]
  refine vp_in_iff.mpr ?_
  rw [ti_add (by omega) (by omega), e1, ec]
  omega
theorem ix60 {k : Int32} (h0 : 0 ≤ k.toInt) (h1 : k.toInt < 8) : vp_in (6 * k) 48 := by
  have e6 : (6 : Int32).toInt = 6 := rfl
  refine vp_in_iff.mpr ?_
  rw [ti_mul (by rw [e6]; omega) (by rw [e6]; omega), e6]
  omega
theorem sw_ne {x : Int32} {k : Int} {y : Int32} (h : ¬ x = y) (hy : y.toInt = k) : x.toInt ≠ k := fun e => h (Int32.toInt_inj.mp (e.trans hy.symm))
theorem ti_nlt {a b : Int32} (h : ¬ a < b) : b.toInt ≤ a.toInt := Int.not_lt.mp (mt ti_lt.mpr h)
theorem ti_nle {a b : Int32} (h : ¬ a ≤ b) : b.toInt < a.toInt := Int.not_le.mp (mt ti_le.mpr h)
theorem ti_ne {a b : Int32} (h : ¬ a = b) : ¬ a.toInt = b.toInt := mt Int32.toInt_inj.mp h
end
section
theorem dX7_in_0 : decode cX7_in 0 = .ok (.iload_n 0, 1) := by decide +kernel
theorem dX7_in_1 : decode cX7_in 1 = .ok (.iload_n 1, 1) := by decide +kernel
theorem dX7_in_2 : decode cX7_in 2 = .ok (.if_icmp .lt 12, 3) := by decide +kernel
theorem dX7_in_5 : decode cX7_in 5 = .ok (.iload_n 0, 1) := by decide +kernel
theorem dX7_in_6 : decode cX7_in 6 = .ok (.iload_n 2, 1) := by decide +kernel
theorem dX7_in_7 : decode cX7_in 7 = .ok (.if_icmp .gt 7, 3) := by decide +kernel
theorem dX7_in_10 : decode cX7_in 10 = .ok (.iconst 1, 1) := by decide +kernel
theorem dX7_in_11 : decode cX7_in 11 = .ok (.goto 4, 3) := by decide +kernel
theorem dX7_in_14 : decode cX7_in 14 = .ok (.iconst 0, 1) := by decide +kernel
theorem dX7_in_15 : decode cX7_in 15 = .ok (.ireturn, 1) := by decide +kernel
theorem dX7_has_0 : decode cX7_has 0 = .ok (.iload_n 0, 1) := by decide +kernel
theorem dX7_has_1 : decode cX7_has 1 = .ok (.iload_n 1, 1) := by decide +kernel
theorem dX7_has_2 : decode cX7_has 2 = .ok (.ishr, 1) := by decide +kernel
theorem dX7_has_3 : decode cX7_has 3 = .ok (.iconst 1, 1) := by decide +kernel
theorem dX7_has_4 : decode cX7_has 4 = .ok (.iand, 1) := by decide +kernel
theorem dX7_has_5 : decode cX7_has 5 = .ok (.iconst 1, 1) := by decide +kernel
theorem dX7_has_6 : decode cX7_has 6 = .ok (.if_icmp .ne 7, 3) := by decide +kernel
theorem dX7_has_9 : decode cX7_has 9 = .ok (.iconst 1, 1) := by decide +kernel
theorem dX7_has_10 : decode cX7_has 10 = .ok (.goto 4, 3) := by decide +kernel
theorem dX7_has_13 : decode cX7_has 13 = .ok (.iconst 0, 1) := by decide +kernel
theorem dX7_has_14 : decode cX7_has 14 = .ok (.ireturn, 1) := by decide +kernel
theorem dX7_bits_0 : decode cX7_bits 0 = .ok (.iconst 0, 1) := by decide +kernel
theorem dX7_bits_1 : decode cX7_bits 1 = .ok (.istore_n 1, 1) := by decide +kernel
theorem dX7_bits_2 : decode cX7_bits 2 = .ok (.iconst 0, 1) := by decide +kernel
theorem dX7_bits_3 : decode cX7_bits 3 = .ok (.istore_n 2, 1) := by decide +kernel
theorem dX7_bits_4 : decode cX7_bits 4 = .ok (.iload_n 2, 1) := by decide +kernel
theorem dX7_bits_5 : decode cX7_bits 5 = .ok (.bipush 8, 2) := by decide +kernel
theorem dX7_bits_7 : decode cX7_bits 7 = .ok (.if_icmp .ge 17, 3) := by decide +kernel
theorem dX7_bits_10 : decode cX7_bits 10 = .ok (.iload_n 1, 1) := by decide +kernel
theorem dX7_bits_11 : decode cX7_bits 11 = .ok (.iload_n 0, 1) := by decide +kernel
theorem dX7_bits_12 : decode cX7_bits 12 = .ok (.iload_n 2, 1) := by decide +kernel
theorem dX7_bits_13 : decode cX7_bits 13 = .ok (.ishr, 1) := by decide +kernel
theorem dX7_bits_14 : decode cX7_bits 14 = .ok (.iconst 1, 1) := by decide +kernel
theorem dX7_bits_15 : decode cX7_bits 15 = .ok (.iand, 1) := by decide +kernel
theorem dX7_bits_16 : decode cX7_bits 16 = .ok (.iadd, 1) := by decide +kernel
theorem dX7_bits_17 : decode cX7_bits 17 = .ok (.istore_n 1, 1) := by decide +kernel
theorem dX7_bits_18 : decode cX7_bits 18 = .ok (.iinc 2 1, 3) := by decide +kernel
theorem dX7_bits_21 : decode cX7_bits 21 = .ok (.goto (-17), 3) := by decide +kernel
theorem dX7_bits_24 : decode cX7_bits 24 = .ok (.iload_n 1, 1) := by decide +kernel
theorem dX7_bits_25 : decode cX7_bits 25 = .ok (.ireturn, 1) := by decide +kernel
set_option maxRecDepth 20000 in
theorem ggX7_isClock_X7_in : GoodIn wsX7_isClock wsX7_in := goodIn_r _ [5] (by decide +kernel) (by decide +kernel)
set_option maxRecDepth 20000 in
theorem gX7_isClock_X7_in : GoodIn wsX7_isClock (va_wsS RX7 41 yX7_in wsX7_in) := goodIn_app (goodIn_of _ (by decide +kernel)) ggX7_isClock_X7_in
set_option maxRecDepth 20000 in
theorem ggX7_isClock_X7_has : GoodIn wsX7_isClock wsX7_has := goodIn_r _ [8] (by decide +kernel) (by decide +kernel)
set_option maxRecDepth 20000 in
theorem gX7_isClock_X7_has : GoodIn wsX7_isClock (va_wsS RX7 49 yX7_has wsX7_has) := goodIn_app (goodIn_of _ (by decide +kernel)) ggX7_isClock_X7_has
theorem dX7_isClock_0 : decode cX7_isClock 0 = .ok (.iload_n 1, 1) := by decide +kernel
theorem dX7_isClock_1 : decode cX7_isClock 1 = .ok (.iconst 0, 1) := by decide +kernel
theorem dX7_isClock_2 : decode cX7_isClock 2 = .ok (.bipush 7, 2) := by decide +kernel
theorem dX7_isClock_4 : decode cX7_isClock 4 = .ok (.invokestatic 41, 3) := by decide +kernel
theorem dX7_isClock_7 : decode cX7_isClock 7 = .ok (.ifCond .eq 18, 3) := by decide +kernel
theorem dX7_isClock_10 : decode cX7_isClock 10 = .ok (.aload_n 0, 1) := by decide +kernel
theorem dX7_isClock_11 : decode cX7_isClock 11 = .ok (.getfield 45, 3) := by decide +kernel
theorem dX7_isClock_14 : decode cX7_isClock 14 = .ok (.iload_n 1, 1) := by decide +kernel
theorem dX7_isClock_15 : decode cX7_isClock 15 = .ok (.invokestatic 49, 3) := by decide +kernel
theorem dX7_isClock_18 : decode cX7_isClock 18 = .ok (.ifCond .eq 7, 3) := by decide +kernel
theorem dX7_isClock_21 : decode cX7_isClock 21 = .ok (.iconst 1, 1) := by decide +kernel
theorem dX7_isClock_22 : decode cX7_isClock 22 = .ok (.goto 4, 3) := by decide +kernel
theorem dX7_isClock_25 : decode cX7_isClock 25 = .ok (.iconst 0, 1) := by decide +kernel
theorem dX7_isClock_26 : decode cX7_isClock 26 = .ok (.ireturn, 1) := by decide +kernel
theorem dX7_erase_0 : decode cX7_erase 0 = .ok (.aload_n 0, 1) := by decide +kernel
theorem dX7_erase_1 : decode cX7_erase 1 = .ok (.getfield 53, 3) := by decide +kernel
theorem dX7_erase_4 : decode cX7_erase 4 = .ok (.istore_n 1, 1) := by decide +kernel
theorem dX7_erase_5 : decode cX7_erase 5 = .ok (.aload_n 0, 1) := by decide +kernel
theorem dX7_erase_6 : decode cX7_erase 6 = .ok (.iconst 0, 1) := by decide +kernel
theorem dX7_erase_7 : decode cX7_erase 7 = .ok (.putfield 53, 3) := by decide +kernel
theorem dX7_erase_10 : decode cX7_erase 10 = .ok (.iload_n 1, 1) := by decide +kernel
theorem dX7_erase_11 : decode cX7_erase 11 = .ok (.ireturn, 1) := by decide +kernel
set_option maxRecDepth 20000 in
theorem ggX7_clock_X7_isClock : GoodIn wsX7_clock wsX7_isClock := goodIn_r _ [7, 8, 9, 10, 6, 11, 12, 13, 14, 15, 16, 17, 18, 19, 20, 21, 22, 23, 24, 25, 26, 27, 28, 29, 30, 31, 32, 33, 34, 35, 36, 37, 38, 39, 40] (by decide +kernel) (by decide +kernel)
set_option maxRecDepth 20000 in
theorem gX7_clock_X7_isClock : GoodIn wsX7_clock (wsV RX7 143 RX7 yX7_isClock wsX7_isClock) := goodIn_app (goodIn_of _ (by decide +kernel)) ggX7_clock_X7_isClock
set_option maxRecDepth 20000 in
theorem ggX7_clock_X7_has : GoodIn wsX7_clock wsX7_has := goodIn_r _ [14] (by decide +kernel) (by decide +kernel)
set_option maxRecDepth 20000 in
theorem gX7_clock_X7_has : GoodIn wsX7_clock (va_wsS RX7 49 yX7_has wsX7_has) := goodIn_app (goodIn_of _ (by decide +kernel)) ggX7_clock_X7_has
theorem dX7_clock_0 : decode cX7_clock 0 = .ok (.aload_n 0, 1) := by decide +kernel
theorem dX7_clock_1 : decode cX7_clock 1 = .ok (.iload_n 1, 1) := by decide +kernel
theorem dX7_clock_2 : decode cX7_clock 2 = .ok (.invokevirtual 143, 3) := by decide +kernel
theorem dX7_clock_5 : decode cX7_clock 5 = .ok (.ifCond .ne 6, 3) := by decide +kernel
theorem dX7_clock_8 : decode cX7_clock 8 = .ok (.bipush (-2), 2) := by decide +kernel
theorem dX7_clock_10 : decode cX7_clock 10 = .ok (.ireturn, 1) := by decide +kernel
theorem dX7_clock_11 : decode cX7_clock 11 = .ok (.aload_n 0, 1) := by decide +kernel
theorem dX7_clock_12 : decode cX7_clock 12 = .ok (.getfield 7, 3) := by decide +kernel
theorem dX7_clock_15 : decode cX7_clock 15 = .ok (.bipush 6, 2) := by decide +kernel
theorem dX7_clock_17 : decode cX7_clock 17 = .ok (.iload_n 1, 1) := by decide +kernel
theorem dX7_clock_18 : decode cX7_clock 18 = .ok (.imul, 1) := by decide +kernel
theorem dX7_clock_19 : decode cX7_clock 19 = .ok (.iaload, 1) := by decide +kernel
theorem dX7_clock_20 : decode cX7_clock 20 = .ok (.iconst 2, 1) := by decide +kernel
theorem dX7_clock_21 : decode cX7_clock 21 = .ok (.if_icmp .ne 7, 3) := by decide +kernel
theorem dX7_clock_24 : decode cX7_clock 24 = .ok (.iconst 1, 1) := by decide +kernel
theorem dX7_clock_25 : decode cX7_clock 25 = .ok (.goto 4, 3) := by decide +kernel
theorem dX7_clock_28 : decode cX7_clock 28 = .ok (.iconst 0, 1) := by decide +kernel
theorem dX7_clock_29 : decode cX7_clock 29 = .ok (.istore_n 3, 1) := by decide +kernel
theorem dX7_clock_30 : decode cX7_clock 30 = .ok (.iload_n 2, 1) := by decide +kernel
theorem dX7_clock_31 : decode cX7_clock 31 = .ok (.tableswitch 119 0 5 #[37, 49, 37, 69, 69, 92], 37) := by decide +kernel
theorem dX7_clock_68 : decode cX7_clock 68 = .ok (.aload_n 0, 1) := by decide +kernel
theorem dX7_clock_69 : decode cX7_clock 69 = .ok (.getfield 7, 3) := by decide +kernel
theorem dX7_clock_72 : decode cX7_clock 72 = .ok (.bipush 6, 2) := by decide +kernel
theorem dX7_clock_74 : decode cX7_clock 74 = .ok (.iload_n 1, 1) := by decide +kernel
theorem dX7_clock_75 : decode cX7_clock 75 = .ok (.imul, 1) := by decide +kernel
theorem dX7_clock_76 : decode cX7_clock 76 = .ok (.iload_n 2, 1) := by decide +kernel
theorem dX7_clock_77 : decode cX7_clock 77 = .ok (.iadd, 1) := by decide +kernel
theorem dX7_clock_78 : decode cX7_clock 78 = .ok (.iaload, 1) := by decide +kernel
theorem dX7_clock_79 : decode cX7_clock 79 = .ok (.ireturn, 1) := by decide +kernel
theorem dX7_clock_80 : decode cX7_clock 80 = .ok (.iload_n 3, 1) := by decide +kernel
theorem dX7_clock_81 : decode cX7_clock 81 = .ok (.ifCond .eq 7, 3) := by decide +kernel
theorem dX7_clock_84 : decode cX7_clock 84 = .ok (.iconst (-1), 1) := by decide +kernel
theorem dX7_clock_85 : decode cX7_clock 85 = .ok (.goto 14, 3) := by decide +kernel
theorem dX7_clock_88 : decode cX7_clock 88 = .ok (.aload_n 0, 1) := by decide +kernel
theorem dX7_clock_89 : decode cX7_clock 89 = .ok (.getfield 7, 3) := by decide +kernel
theorem dX7_clock_92 : decode cX7_clock 92 = .ok (.bipush 6, 2) := by decide +kernel
theorem dX7_clock_94 : decode cX7_clock 94 = .ok (.iload_n 1, 1) := by decide +kernel
theorem dX7_clock_95 : decode cX7_clock 95 = .ok (.imul, 1) := by decide +kernel
theorem dX7_clock_96 : decode cX7_clock 96 = .ok (.iconst 1, 1) := by decide +kernel
theorem dX7_clock_97 : decode cX7_clock 97 = .ok (.iadd, 1) := by decide +kernel
theorem dX7_clock_98 : decode cX7_clock 98 = .ok (.iaload, 1) := by decide +kernel
theorem dX7_clock_99 : decode cX7_clock 99 = .ok (.ireturn, 1) := by decide +kernel
theorem dX7_clock_100 : decode cX7_clock 100 = .ok (.iload_n 3, 1) := by decide +kernel
theorem dX7_clock_101 : decode cX7_clock 101 = .ok (.ifCond .eq 7, 3) := by decide +kernel
theorem dX7_clock_104 : decode cX7_clock 104 = .ok (.iconst (-1), 1) := by decide +kernel
theorem dX7_clock_105 : decode cX7_clock 105 = .ok (.goto 17, 3) := by decide +kernel
theorem dX7_clock_108 : decode cX7_clock 108 = .ok (.aload_n 0, 1) := by decide +kernel
theorem dX7_clock_109 : decode cX7_clock 109 = .ok (.getfield 7, 3) := by decide +kernel
theorem dX7_clock_112 : decode cX7_clock 112 = .ok (.bipush 6, 2) := by decide +kernel
theorem dX7_clock_114 : decode cX7_clock 114 = .ok (.iload_n 1, 1) := by decide +kernel
theorem dX7_clock_115 : decode cX7_clock 115 = .ok (.imul, 1) := by decide +kernel
theorem dX7_clock_116 : decode cX7_clock 116 = .ok (.iload_n 2, 1) := by decide +kernel
theorem dX7_clock_117 : decode cX7_clock 117 = .ok (.iadd, 1) := by decide +kernel
theorem dX7_clock_118 : decode cX7_clock 118 = .ok (.iaload, 1) := by decide +kernel
theorem dX7_clock_119 : decode cX7_clock 119 = .ok (.bipush 120, 2) := by decide +kernel
theorem dX7_clock_121 : decode cX7_clock 121 = .ok (.iadd, 1) := by decide +kernel
theorem dX7_clock_122 : decode cX7_clock 122 = .ok (.ireturn, 1) := by decide +kernel
theorem dX7_clock_123 : decode cX7_clock 123 = .ok (.aload_n 0, 1) := by decide +kernel
theorem dX7_clock_124 : decode cX7_clock 124 = .ok (.getfield 136, 3) := by decide +kernel
theorem dX7_clock_127 : decode cX7_clock 127 = .ok (.iload_n 1, 1) := by decide +kernel
theorem dX7_clock_128 : decode cX7_clock 128 = .ok (.invokestatic 49, 3) := by decide +kernel
theorem dX7_clock_131 : decode cX7_clock 131 = .ok (.ifCond .eq 17, 3) := by decide +kernel
theorem dX7_clock_134 : decode cX7_clock 134 = .ok (.aload_n 0, 1) := by decide +kernel
theorem dX7_clock_135 : decode cX7_clock 135 = .ok (.getfield 7, 3) := by decide +kernel
theorem dX7_clock_138 : decode cX7_clock 138 = .ok (.bipush 6, 2) := by decide +kernel
theorem dX7_clock_140 : decode cX7_clock 140 = .ok (.iload_n 1, 1) := by decide +kernel
theorem dX7_clock_141 : decode cX7_clock 141 = .ok (.imul, 1) := by decide +kernel
theorem dX7_clock_142 : decode cX7_clock 142 = .ok (.iconst 5, 1) := by decide +kernel
theorem dX7_clock_143 : decode cX7_clock 143 = .ok (.iadd, 1) := by decide +kernel
theorem dX7_clock_144 : decode cX7_clock 144 = .ok (.iaload, 1) := by decide +kernel
theorem dX7_clock_145 : decode cX7_clock 145 = .ok (.goto 4, 3) := by decide +kernel
theorem dX7_clock_148 : decode cX7_clock 148 = .ok (.iconst (-1), 1) := by decide +kernel
theorem dX7_clock_149 : decode cX7_clock 149 = .ok (.ireturn, 1) := by decide +kernel
theorem dX7_clock_150 : decode cX7_clock 150 = .ok (.bipush (-3), 2) := by decide +kernel
theorem dX7_clock_152 : decode cX7_clock 152 = .ok (.ireturn, 1) := by decide +kernel
theorem dX7_hand_0 : decode cX7_hand 0 = .ok (.iload_n 2, 1) := by decide +kernel
theorem dX7_hand_1 : decode cX7_hand 1 = .ok (.aload_n 0, 1) := by decide +kernel
theorem dX7_hand_2 : decode cX7_hand 2 = .ok (.getfield 7, 3) := by decide +kernel
theorem dX7_hand_5 : decode cX7_hand 5 = .ok (.bipush 6, 2) := by decide +kernel
theorem dX7_hand_7 : decode cX7_hand 7 = .ok (.iload_n 1, 1) := by decide +kernel
theorem dX7_hand_8 : decode cX7_hand 8 = .ok (.imul, 1) := by decide +kernel
theorem dX7_hand_9 : decode cX7_hand 9 = .ok (.iconst 1, 1) := by decide +kernel
theorem dX7_hand_10 : decode cX7_hand 10 = .ok (.iadd, 1) := by decide +kernel
theorem dX7_hand_11 : decode cX7_hand 11 = .ok (.iaload, 1) := by decide +kernel
theorem dX7_hand_12 : decode cX7_hand 12 = .ok (.isub, 1) := by decide +kernel
theorem dX7_hand_13 : decode cX7_hand 13 = .ok (.sipush 1440, 3) := by decide +kernel
theorem dX7_hand_16 : decode cX7_hand 16 = .ok (.iload_n 3, 1) := by decide +kernel
theorem dX7_hand_17 : decode cX7_hand 17 = .ok (.iadd, 1) := by decide +kernel
theorem dX7_hand_18 : decode cX7_hand 18 = .ok (.imul, 1) := by decide +kernel
theorem dX7_hand_19 : decode cX7_hand 19 = .ok (.istore 4, 2) := by decide +kernel
theorem dX7_hand_21 : decode cX7_hand 21 = .ok (.sipush 1440, 3) := by decide +kernel
theorem dX7_hand_24 : decode cX7_hand 24 = .ok (.aload_n 0, 1) := by decide +kernel
theorem dX7_hand_25 : decode cX7_hand 25 = .ok (.getfield 7, 3) := by decide +kernel
theorem dX7_hand_28 : decode cX7_hand 28 = .ok (.bipush 6, 2) := by decide +kernel
theorem dX7_hand_30 : decode cX7_hand 30 = .ok (.iload_n 1, 1) := by decide +kernel
theorem dX7_hand_31 : decode cX7_hand 31 = .ok (.imul, 1) := by decide +kernel
theorem dX7_hand_32 : decode cX7_hand 32 = .ok (.iconst 2, 1) := by decide +kernel
theorem dX7_hand_33 : decode cX7_hand 33 = .ok (.iadd, 1) := by decide +kernel
theorem dX7_hand_34 : decode cX7_hand 34 = .ok (.iaload, 1) := by decide +kernel
theorem dX7_hand_35 : decode cX7_hand 35 = .ok (.imul, 1) := by decide +kernel
theorem dX7_hand_36 : decode cX7_hand 36 = .ok (.aload_n 0, 1) := by decide +kernel
theorem dX7_hand_37 : decode cX7_hand 37 = .ok (.getfield 7, 3) := by decide +kernel
theorem dX7_hand_40 : decode cX7_hand 40 = .ok (.bipush 6, 2) := by decide +kernel
theorem dX7_hand_42 : decode cX7_hand 42 = .ok (.iload_n 1, 1) := by decide +kernel
theorem dX7_hand_43 : decode cX7_hand 43 = .ok (.imul, 1) := by decide +kernel
theorem dX7_hand_44 : decode cX7_hand 44 = .ok (.iaload, 1) := by decide +kernel
theorem dX7_hand_45 : decode cX7_hand 45 = .ok (.iconst 1, 1) := by decide +kernel
theorem dX7_hand_46 : decode cX7_hand 46 = .ok (.if_icmp .ne 9, 3) := by decide +kernel
theorem dX7_hand_49 : decode cX7_hand 49 = .ok (.iload 4, 2) := by decide +kernel
theorem dX7_hand_51 : decode cX7_hand 51 = .ok (.ineg, 1) := by decide +kernel
theorem dX7_hand_52 : decode cX7_hand 52 = .ok (.goto 5, 3) := by decide +kernel
theorem dX7_hand_55 : decode cX7_hand 55 = .ok (.iload 4, 2) := by decide +kernel
theorem dX7_hand_57 : decode cX7_hand 57 = .ok (.iadd, 1) := by decide +kernel
theorem dX7_hand_58 : decode cX7_hand 58 = .ok (.ireturn, 1) := by decide +kernel
theorem dX7_burn_0 : decode cX7_burn 0 = .ok (.aload_n 0, 1) := by decide +kernel
theorem dX7_burn_1 : decode cX7_burn 1 = .ok (.getfield 179, 3) := by decide +kernel
theorem dX7_burn_4 : decode cX7_burn 4 = .ok (.istore_n 1, 1) := by decide +kernel
theorem dX7_burn_5 : decode cX7_burn 5 = .ok (.aload_n 0, 1) := by decide +kernel
theorem dX7_burn_6 : decode cX7_burn 6 = .ok (.iconst 0, 1) := by decide +kernel
theorem dX7_burn_7 : decode cX7_burn 7 = .ok (.putfield 179, 3) := by decide +kernel
theorem dX7_burn_10 : decode cX7_burn 10 = .ok (.iload_n 1, 1) := by decide +kernel
theorem dX7_burn_11 : decode cX7_burn 11 = .ok (.ireturn, 1) := by decide +kernel
theorem dX7_count_0 : decode cX7_count 0 = .ok (.iload_n 1, 1) := by decide +kernel
theorem dX7_count_1 : decode cX7_count 1 = .ok (.tableswitch 51 0 3 #[31, 36, 41, 46], 31) := by decide +kernel
theorem dX7_count_32 : decode cX7_count 32 = .ok (.aload_n 0, 1) := by decide +kernel
theorem dX7_count_33 : decode cX7_count 33 = .ok (.getfield 45, 3) := by decide +kernel
theorem dX7_count_36 : decode cX7_count 36 = .ok (.ireturn, 1) := by decide +kernel
theorem dX7_count_37 : decode cX7_count 37 = .ok (.aload_n 0, 1) := by decide +kernel
theorem dX7_count_38 : decode cX7_count 38 = .ok (.getfield 136, 3) := by decide +kernel
theorem dX7_count_41 : decode cX7_count 41 = .ok (.ireturn, 1) := by decide +kernel
theorem dX7_count_42 : decode cX7_count 42 = .ok (.aload_n 0, 1) := by decide +kernel
theorem dX7_count_43 : decode cX7_count 43 = .ok (.getfield 179, 3) := by decide +kernel
theorem dX7_count_46 : decode cX7_count 46 = .ok (.ireturn, 1) := by decide +kernel
theorem dX7_count_47 : decode cX7_count 47 = .ok (.aload_n 0, 1) := by decide +kernel
theorem dX7_count_48 : decode cX7_count 48 = .ok (.getfield 53, 3) := by decide +kernel
theorem dX7_count_51 : decode cX7_count 51 = .ok (.ireturn, 1) := by decide +kernel
theorem dX7_count_52 : decode cX7_count 52 = .ok (.bipush (-3), 2) := by decide +kernel
theorem dX7_count_54 : decode cX7_count 54 = .ok (.ireturn, 1) := by decide +kernel
abbrev WM (cI cZ cC cH : ClassId) (o a_clock a_note a_text a_read a_fit a_shown a_image a_isKept a_row a_best : Nat) (m_told : Int32) (m_isRead1 : Int32) (m_clock : Nat → Int32) (m_note : Nat → Int32) (m_noted : Int32) (m_bytes : Int32) (m_text : Nat → Int32) (m_position : Int32) (m_tokenAt : Int32) (m_token : Int64) (m_digits : Int32) (m_number : Int32) (m_faultAt : Int32) (m_readMany : Int32) (m_readTold : Int32) (m_read : Nat → Int32) (m_fit : Nat → Int32) (m_shown : Nat → Int32) (m_image : Nat → Int32) (m_isKept : Nat → Int32) (m_row : Nat → Int32) (m_best : Nat → Int32) (m_againAt : Int32) (m_againStep : Int32) (m_orderMany : Int32) (m_orderLeast : Int32) : va_W := [(o, .inr (7, [.int m_told, .int m_isRead1, .ref a_clock, .ref a_note, .int m_noted, .int m_bytes, .ref a_text, .int m_position, .int m_tokenAt, .long m_token, .int m_digits, .int m_number, .int m_faultAt, .int m_readMany, .int m_readTold, .ref a_read, .ref a_fit, .ref a_shown, .ref a_image, .ref a_isKept, .ref a_row, .ref a_best, .int m_againAt, .int m_againStep, .int m_orderMany, .int m_orderLeast])), (a_clock, .inl (cI, 48, .inl m_clock)), (a_note, .inl (cI, 36, .inl m_note)), (a_text, .inl (cI, 200, .inl m_text)), (a_read, .inl (cI, 48, .inl m_read)), (a_fit, .inl (cI, 4320, .inl m_fit)), (a_shown, .inl (cI, 720, .inl m_shown)), (a_image, .inl (cI, 180, .inl m_image)), (a_isKept, .inl (cZ, 2, .inl m_isKept)), (a_row, .inl (cI, 6, .inl m_row)), (a_best, .inl (cI, 6, .inl m_best))]
def F_X7_in (x0 : Int32) (x1 : Int32) (x2 : Int32) : Int32 := (if x0 < x1 then 0 else (if x2 < x0 then 0 else 1))
set_option maxHeartbeats 8000000 in
set_option maxRecDepth 100000 in
theorem c_X7_in (l : Launch) (D : va_G) (cI cZ cC cH : ClassId)  (x0 : Int32) (x1 : Int32) (x2 : Int32)  : MC l D (TY cI cZ cC cH) yX7_in wsX7_in 0 0 [.int x0, .int x1, .int x2] [] (some (.int (F_X7_in x0 x1 x2))) [] := by
  obtain ⟨R, hF⟩ : ∃ R, R = F_X7_in x0 x1 x2 := ⟨_, rfl⟩
  rw [← hF]
  refine MC.of (cc := cX7_in) (maxL := 3) (ret := (some .boolean)) RX7 rfl (by decide +kernel) rfl (Nat.le_of_ble_eq_true rfl) ?_
  intro p e s m args below meth c A Q KX RT hh ls hl
  have hx := KX.1
  have hb := KX.2.1
  have hl : lv_has ls 3 [(0, .int x0), (1, .int x1), (2, .int x2)] := hl
  unfold F_X7_in at hF
  refine lv_iload_n hx hb dX7_in_0 rfl (lv_at hl 0 rfl) ?_
  refine lv_iload_n hx hb dX7_in_1 rfl (lv_at hl 1 rfl) ?_
  refine lv_icmp_lt (tgt := 14) hx hb dX7_in_2 (by decide) (fun c_2 => ?_) (fun c_2 => ?_)
  · replace hF := hF.trans (if_pos c_2)
    have i_2 : x0.toInt < x1.toInt := ti_lt.mp c_2
    refine lv_iconst (v := 0) hx hb dX7_in_14 (by decide) ?_
    exact RT _ _ _ _ _ _ hh (rfl) (Or.inl ⟨_, rfl, by rw [hF], dX7_in_15, Or.inr (Or.inl ⟨rfl, Or.inl rfl⟩)⟩)
  · replace hF := hF.trans (if_neg c_2)
    have i_2 : x1.toInt ≤ x0.toInt := ti_nlt c_2
    refine lv_iload_n hx hb dX7_in_5 rfl (lv_at hl 0 rfl) ?_
    refine lv_iload_n hx hb dX7_in_6 rfl (lv_at hl 2 rfl) ?_
    refine lv_icmp_gt (tgt := 14) hx hb dX7_in_7 (by decide) (fun c_7 => ?_) (fun c_7 => ?_)
    · replace hF := hF.trans (if_pos c_7)
      have i_7 : x2.toInt < x0.toInt := ti_lt.mp c_7
      refine lv_iconst (v := 0) hx hb dX7_in_14 (by decide) ?_
      exact RT _ _ _ _ _ _ hh (rfl) (Or.inl ⟨_, rfl, by rw [hF], dX7_in_15, Or.inr (Or.inl ⟨rfl, Or.inl rfl⟩)⟩)
    · replace hF := hF.trans (if_neg c_7)
      have i_7 : x0.toInt ≤ x2.toInt := ti_nlt c_7
      refine lv_iconst (v := 1) hx hb dX7_in_10 (by decide) ?_
      refine lv_goto (tgt := 15) hx hb dX7_in_11 (by decide) ?_
      exact RT _ _ _ _ _ _ hh (rfl) (Or.inl ⟨_, rfl, by rw [hF], dX7_in_15, Or.inr (Or.inl ⟨rfl, Or.inr rfl⟩)⟩)
theorem z_X7_in (x0 : Int32) (x1 : Int32) (x2 : Int32) : (F_X7_in x0 x1 x2) = 0 ∨ (F_X7_in x0 x1 x2) = 1 := by
  unfold F_X7_in; repeat' split
  all_goals first | exact Or.inl rfl | exact Or.inr rfl | simp
def F_X7_has (x0 : Int32) (x1 : Int32) : Int32 := (if ((x0 >>> (x1 &&& 31)) &&& 1) = 1 then 1 else 0)
set_option maxHeartbeats 8000000 in
set_option maxRecDepth 100000 in
theorem c_X7_has (l : Launch) (D : va_G) (cI cZ cC cH : ClassId)  (x0 : Int32) (x1 : Int32)  : MC l D (TY cI cZ cC cH) yX7_has wsX7_has 0 0 [.int x0, .int x1] [] (some (.int (F_X7_has x0 x1))) [] := by
  obtain ⟨R, hF⟩ : ∃ R, R = F_X7_has x0 x1 := ⟨_, rfl⟩
  rw [← hF]
  refine MC.of (cc := cX7_has) (maxL := 2) (ret := (some .boolean)) RX7 rfl (by decide +kernel) rfl (Nat.le_of_ble_eq_true rfl) ?_
  intro p e s m args below meth c A Q KX RT hh ls hl
  have hx := KX.1
  have hb := KX.2.1
  have hl : lv_has ls 2 [(0, .int x0), (1, .int x1)] := hl
  unfold F_X7_has at hF
  refine lv_iload_n hx hb dX7_has_0 rfl (lv_at hl 0 rfl) ?_
  refine lv_iload_n hx hb dX7_has_1 rfl (lv_at hl 1 rfl) ?_
  refine lv_ishr hx hb dX7_has_2 ?_
  refine lv_iconst (v := 1) hx hb dX7_has_3 (by decide) ?_
  refine lv_iand hx hb dX7_has_4 ?_
  refine lv_iconst (v := 1) hx hb dX7_has_5 (by decide) ?_
  refine lv_icmp_ne (tgt := 13) hx hb dX7_has_6 (by decide) (fun c_6 => ?_) (fun c_6 => ?_)
  · replace hF := hF.trans (if_neg c_6)
    refine lv_iconst (v := 0) hx hb dX7_has_13 (by decide) ?_
    exact RT _ _ _ _ _ _ hh (rfl) (Or.inl ⟨_, rfl, by rw [hF], dX7_has_14, Or.inr (Or.inl ⟨rfl, Or.inl rfl⟩)⟩)
  · replace hF := hF.trans (if_pos c_6)
    have i_6 : ((x0 >>> (x1 &&& 31)) &&& 1).toInt = 1 := congrArg Int32.toInt c_6
    refine lv_iconst (v := 1) hx hb dX7_has_9 (by decide) ?_
    refine lv_goto (tgt := 14) hx hb dX7_has_10 (by decide) ?_
    exact RT _ _ _ _ _ _ hh (rfl) (Or.inl ⟨_, rfl, by rw [hF], dX7_has_14, Or.inr (Or.inl ⟨rfl, Or.inr rfl⟩)⟩)
theorem z_X7_has (x0 : Int32) (x1 : Int32) : (F_X7_has x0 x1) = 0 ∨ (F_X7_has x0 x1) = 1 := by
  unfold F_X7_has; repeat' split
  all_goals first | exact Or.inl rfl | exact Or.inr rfl | simp
def F_X7_bits_4 (x0 : Int32) : Nat → Int32 → Int32 → Int32
  | 0, _, _ => default
  | n + 1, x2_1, x1_2 => (if 8 ≤ x2_1 then x1_2 else ((F_X7_bits_4 x0 n) (x2_1 + 1) (x1_2 + ((x0 >>> (x2_1 &&& 31)) &&& 1))))
def F_X7_bits (x0 : Int32) : Int32 := (F_X7_bits_4 x0 9 0 0)
set_option maxHeartbeats 8000000 in
set_option maxRecDepth 100000 in
theorem c_X7_bits (l : Launch) (D : va_G) (cI cZ cC cH : ClassId)  (x0 : Int32)  : MC l D (TY cI cZ cC cH) yX7_bits wsX7_bits 0 0 [.int x0] [] (some (.int (F_X7_bits x0))) [] := by
  obtain ⟨R, hF⟩ : ∃ R, R = F_X7_bits x0 := ⟨_, rfl⟩
  rw [← hF]
  refine MC.of (cc := cX7_bits) (maxL := 3) (ret := (some .int)) RX7 rfl (by decide +kernel) rfl (Nat.le_of_ble_eq_true rfl) ?_
  intro p e s m args below meth c A Q KX RT hh ls hl
  have hx := KX.1
  have hb := KX.2.1
  have hl : lv_has ls 3 [(0, .int x0)] := hl
  unfold F_X7_bits at hF
  refine lv_iconst (v := 0) hx hb dX7_bits_0 (by decide) ?_
  refine lv_istore_n (lv' := [(1, .int 0), (0, .int x0)]) hx hb dX7_bits_1 rfl hl (Nat.le_of_ble_eq_true rfl) rfl (fun ls hl => ?_)
  refine lv_iconst (v := 0) hx hb dX7_bits_2 (by decide) ?_
  refine lv_istore_n (lv' := [(2, .int 0), (1, .int 0), (0, .int x0)]) hx hb dX7_bits_3 rfl hl (Nat.le_of_ble_eq_true rfl) rfl (fun ls hl => ?_)
  have L_4 : ∀ (n_4 : Nat) (x2_1 : Int32) (x1_2 : Int32) (i0_4 : 0 ≤ x2_1.toInt) (i1_4 : x2_1.toInt ≤ 8) (_ : (8 - x2_1.toInt).toNat < n_4) (_ : R = (F_X7_bits_4 x0) n_4 x2_1 x1_2) (ls : Array Slot) (H : Heap) (locs : List Loc) (_ : HS D A s.heap [] H locs) (_ : lv_has ls 3 [(2, .int x2_1), (1, .int x1_2), (0, .int x0)]), W p l e { frames := 0, cells := 0, slots := 0, locals := 0 } s m args below meth c H locs 0 0 Q (F0 m 4 ls []) := by
    intro n_4
    induction n_4 with
    | zero => intro x2_1 x1_2 i0_4 i1_4 hm; exact absurd hm (Nat.not_lt_zero _)
    | succ n_4 ih_4 =>
      intro x2_1 x1_2 i0_4 i1_4 hm_4 hF ls H locs hh hl
      rw [F_X7_bits_4.eq_2] at hF
      refine lv_iload_n hx hb dX7_bits_4 rfl (lv_at hl 0 rfl) ?_
      refine lv_bipush (v := 8) hx hb dX7_bits_5 (by decide) ?_
      refine lv_icmp_ge (tgt := 24) hx hb dX7_bits_7 (by decide) (fun c_7 => ?_) (fun c_7 => ?_)
      · replace hF := hF.trans (if_pos c_7)
        have i_7 : 8 ≤ x2_1.toInt := ti_le.mp c_7
        refine lv_iload_n hx hb dX7_bits_24 rfl (lv_at hl 1 rfl) ?_
        exact RT _ _ _ _ _ _ hh (rfl) (Or.inl ⟨_, rfl, by rw [hF], dX7_bits_25, Or.inl rfl⟩)
      · replace hF := hF.trans (if_neg c_7)
        have i_7 : x2_1.toInt < 8 := ti_nle c_7
        refine lv_iload_n hx hb dX7_bits_10 rfl (lv_at hl 1 rfl) ?_
        refine lv_iload_n hx hb dX7_bits_11 rfl (lv_at hl 2 rfl) ?_
        refine lv_iload_n hx hb dX7_bits_12 rfl (lv_at hl 0 rfl) ?_
        refine lv_ishr hx hb dX7_bits_13 ?_
        refine lv_iconst (v := 1) hx hb dX7_bits_14 (by decide) ?_
        refine lv_iand hx hb dX7_bits_15 ?_
        refine lv_iadd hx hb dX7_bits_16 ?_
        refine lv_istore_n (lv' := [(1, .int (x1_2 + ((x0 >>> (x2_1 &&& 31)) &&& 1))), (2, .int x2_1), (0, .int x0)]) hx hb dX7_bits_17 rfl hl (Nat.le_of_ble_eq_true rfl) rfl (fun ls hl => ?_)
        refine lv_iinc (v := x2_1 + 1) (lv' := [(2, .int (x2_1 + 1)), (1, .int (x1_2 + ((x0 >>> (x2_1 &&& 31)) &&& 1))), (0, .int x0)]) hx hb dX7_bits_18 hl (k := 1) rfl rfl (Nat.le_of_ble_eq_true rfl) rfl (fun ls hl => ?_)
        refine lv_goto (tgt := 4) hx hb dX7_bits_21 (by decide) ?_
        have e_inc : (x2_1 + 1).toInt = x2_1.toInt + 1 := ti_inc (by omega)
        exact ih_4 (x2_1 + 1) (x1_2 + ((x0 >>> (x2_1 &&& 31)) &&& 1)) (by first | assumption | omega | decide) (by first | assumption | omega | decide) (by first | omega | simp_all) hF _ _ _ hh (lv_sub hl [0, 1, 2] rfl)
  exact L_4 9 0 0 (by first | assumption | omega | decide) (by first | assumption | omega | decide) (by first | omega | decide | (simp; done)) hF _ _ _ hh (lv_sub hl [0, 1, 2] rfl)
def F_X7_isClock (m_told : Int32) (x1 : Int32) : Int32 := (if (F_X7_in x1 0 7) = 0 then 0 else (if (F_X7_has m_told x1) = 0 then 0 else 1))
theorem in_X7_isClock_X7 : ∀ x ∈ u_ws RX7 TX7 26, x ∈ wsX7_isClock := by decide +kernel
set_option maxHeartbeats 8000000 in
set_option maxRecDepth 100000 in
theorem c_X7_isClock (l : Launch) (D : va_G) (cI cZ cC cH : ClassId) (o a_clock a_note a_text a_read a_fit a_shown a_image a_isKept a_row a_best : Nat) (m_told : Int32) (m_isRead1 : Int32) (m_clock : Nat → Int32) (m_note : Nat → Int32) (m_noted : Int32) (m_bytes : Int32) (m_text : Nat → Int32) (m_position : Int32) (m_tokenAt : Int32) (m_token : Int64) (m_digits : Int32) (m_number : Int32) (m_faultAt : Int32) (m_readMany : Int32) (m_readTold : Int32) (m_read : Nat → Int32) (m_fit : Nat → Int32) (m_shown : Nat → Int32) (m_image : Nat → Int32) (m_isKept : Nat → Int32) (m_row : Nat → Int32) (m_best : Nat → Int32) (m_againAt : Int32) (m_againStep : Int32) (m_orderMany : Int32) (m_orderLeast : Int32) (x1 : Int32)  : MC l D (TY cI cZ cC cH) yX7_isClock wsX7_isClock 1 22 [.ref o, .int x1] (WM cI cZ cC cH o a_clock a_note a_text a_read a_fit a_shown a_image a_isKept a_row a_best m_told m_isRead1 m_clock m_note m_noted m_bytes m_text m_position m_tokenAt m_token m_digits m_number m_faultAt m_readMany m_readTold m_read m_fit m_shown m_image m_isKept m_row m_best m_againAt m_againStep m_orderMany m_orderLeast) (some (.int (F_X7_isClock m_told x1))) (WM cI cZ cC cH o a_clock a_note a_text a_read a_fit a_shown a_image a_isKept a_row a_best m_told m_isRead1 m_clock m_note m_noted m_bytes m_text m_position m_tokenAt m_token m_digits m_number m_faultAt m_readMany m_readTold m_read m_fit m_shown m_image m_isKept m_row m_best m_againAt m_againStep m_orderMany m_orderLeast) := by
  obtain ⟨R, hF⟩ : ∃ R, R = F_X7_isClock m_told x1 := ⟨_, rfl⟩
  rw [← hF]
  refine MC.of (cc := cX7_isClock) (maxL := 2) (ret := (some .boolean)) RX7 rfl (by decide +kernel) rfl (Nat.le_of_ble_eq_true rfl) ?_
  intro p e s m args below meth c A Q KX RT hh ls hl
  have hx := KX.1
  have hb := KX.2.1
  have hl : lv_has ls 2 [(0, .ref o), (1, .int x1)] := hl
  unfold F_X7_isClock at hF
  refine lv_iload_n hx hb dX7_isClock_0 rfl (lv_at hl 1 rfl) ?_
  refine lv_iconst (v := 0) hx hb dX7_isClock_1 (by decide) ?_
  refine lv_bipush (v := 7) hx hb dX7_isClock_2 (by decide) ?_
  refine g_callS (As := [.int x1, .int 0, .int 7]) (rest := []) KX rfl ⟨Nat.le_of_ble_eq_true rfl, Nat.le_of_ble_eq_true rfl⟩ hh hl (c_X7_in l D cI cZ cC cH  x1 0 7 ) JN.no 3 gX7_isClock_X7_in rfl (by decide +kernel) ⟨Nat.le_of_ble_eq_true rfl, Nat.le_of_ble_eq_true rfl⟩ rfl rfl (Nat.le_of_ble_eq_true rfl) dX7_isClock_4 (fun H locs hh => ?_)
  refine W.eq (g2 := F0 m 7 ls [.int (F_X7_in x1 0 7)]) rfl ?_
  refine lv_if_eq (tgt := 25) hx hb dX7_isClock_7 (by decide) (fun c_7 => ?_) (fun c_7 => ?_)
  · replace hF := hF.trans (if_pos c_7)
    have i_7 : (F_X7_in x1 0 7).toInt = 0 := congrArg Int32.toInt c_7
    refine lv_iconst (v := 0) hx hb dX7_isClock_25 (by decide) ?_
    exact RT _ _ _ _ _ _ hh (rfl) (Or.inl ⟨_, rfl, by rw [hF], dX7_isClock_26, Or.inr (Or.inl ⟨rfl, Or.inl rfl⟩)⟩)
  · replace hF := hF.trans (if_neg c_7)
    refine lv_aload_n hx hb dX7_isClock_10 rfl (lv_at hl 0 rfl) ?_
    refine g_get KX hh in_X7_isClock_X7 0 rfl rfl 0 (by decide) rfl (List.mem_of_getElem? (i := 1) rfl) dX7_isClock_11 ?_
    refine lv_iload_n hx hb dX7_isClock_14 rfl (lv_at hl 1 rfl) ?_
    refine g_callS (As := [.int m_told, .int x1]) (rest := []) KX rfl ⟨Nat.le_of_ble_eq_true rfl, Nat.le_of_ble_eq_true rfl⟩ hh hl (c_X7_has l D cI cZ cC cH  m_told x1 ) JN.no 2 gX7_isClock_X7_has rfl (by decide +kernel) ⟨Nat.le_of_ble_eq_true rfl, Nat.le_of_ble_eq_true rfl⟩ rfl rfl (Nat.le_of_ble_eq_true rfl) dX7_isClock_15 (fun H locs hh => ?_)
    refine W.eq (g2 := F0 m 18 ls [.int (F_X7_has m_told x1)]) rfl ?_
    refine lv_if_eq (tgt := 25) hx hb dX7_isClock_18 (by decide) (fun c_18 => ?_) (fun c_18 => ?_)
    · replace hF := hF.trans (if_pos c_18)
      have i_18 : (F_X7_has m_told x1).toInt = 0 := congrArg Int32.toInt c_18
      refine lv_iconst (v := 0) hx hb dX7_isClock_25 (by decide) ?_
      exact RT _ _ _ _ _ _ hh (rfl) (Or.inl ⟨_, rfl, by rw [hF], dX7_isClock_26, Or.inr (Or.inl ⟨rfl, Or.inl rfl⟩)⟩)
    · replace hF := hF.trans (if_neg c_18)
      refine lv_iconst (v := 1) hx hb dX7_isClock_21 (by decide) ?_
      refine lv_goto (tgt := 26) hx hb dX7_isClock_22 (by decide) ?_
      exact RT _ _ _ _ _ _ hh (rfl) (Or.inl ⟨_, rfl, by rw [hF], dX7_isClock_26, Or.inr (Or.inl ⟨rfl, Or.inr rfl⟩)⟩)
theorem z_X7_isClock (m_told : Int32) (x1 : Int32) : (F_X7_isClock m_told x1) = 0 ∨ (F_X7_isClock m_told x1) = 1 := by
  unfold F_X7_isClock; repeat' split
  all_goals first | exact Or.inl rfl | exact Or.inr rfl | simp
def F_X7_erase (m_bytes : Int32) : Int32 × Int32 := (m_bytes, 0)
theorem in_X7_erase_X7 : ∀ x ∈ u_ws RX7 TX7 26, x ∈ wsX7_erase := by decide +kernel
set_option maxHeartbeats 8000000 in
set_option maxRecDepth 100000 in
theorem c_X7_erase (l : Launch) (D : va_G) (cI cZ cC cH : ClassId) (o a_clock a_note a_text a_read a_fit a_shown a_image a_isKept a_row a_best : Nat) (m_told : Int32) (m_isRead1 : Int32) (m_clock : Nat → Int32) (m_note : Nat → Int32) (m_noted : Int32) (m_bytes : Int32) (m_text : Nat → Int32) (m_position : Int32) (m_tokenAt : Int32) (m_token : Int64) (m_digits : Int32) (m_number : Int32) (m_faultAt : Int32) (m_readMany : Int32) (m_readTold : Int32) (m_read : Nat → Int32) (m_fit : Nat → Int32) (m_shown : Nat → Int32) (m_image : Nat → Int32) (m_isKept : Nat → Int32) (m_row : Nat → Int32) (m_best : Nat → Int32) (m_againAt : Int32) (m_againStep : Int32) (m_orderMany : Int32) (m_orderLeast : Int32)   : MC l D (TY cI cZ cC cH) yX7_erase wsX7_erase 0 0 [.ref o] (WM cI cZ cC cH o a_clock a_note a_text a_read a_fit a_shown a_image a_isKept a_row a_best m_told m_isRead1 m_clock m_note m_noted m_bytes m_text m_position m_tokenAt m_token m_digits m_number m_faultAt m_readMany m_readTold m_read m_fit m_shown m_image m_isKept m_row m_best m_againAt m_againStep m_orderMany m_orderLeast) (some (.int ((F_X7_erase m_bytes).1))) (WM cI cZ cC cH o a_clock a_note a_text a_read a_fit a_shown a_image a_isKept a_row a_best m_told m_isRead1 m_clock m_note m_noted (F_X7_erase m_bytes).2 m_text m_position m_tokenAt m_token m_digits m_number m_faultAt m_readMany m_readTold m_read m_fit m_shown m_image m_isKept m_row m_best m_againAt m_againStep m_orderMany m_orderLeast) := by
  obtain ⟨R, hF⟩ : ∃ R, R = F_X7_erase m_bytes := ⟨_, rfl⟩
  rw [← hF]
  refine MC.of (cc := cX7_erase) (maxL := 2) (ret := (some .int)) RX7 rfl (by decide +kernel) rfl (Nat.le_of_ble_eq_true rfl) ?_
  intro p e s m args below meth c A Q KX RT hh ls hl
  have hx := KX.1
  have hb := KX.2.1
  have hl : lv_has ls 2 [(0, .ref o)] := hl
  unfold F_X7_erase at hF
  refine lv_aload_n hx hb dX7_erase_0 rfl (lv_at hl 0 rfl) ?_
  refine g_get KX hh in_X7_erase_X7 0 rfl rfl 5 (by decide) rfl (List.mem_of_getElem? (i := 1) rfl) dX7_erase_1 ?_
  refine lv_istore_n (lv' := [(1, .int m_bytes), (0, .ref o)]) hx hb dX7_erase_4 rfl hl (Nat.le_of_ble_eq_true rfl) rfl (fun ls hl => ?_)
  refine lv_aload_n hx hb dX7_erase_5 rfl (lv_at hl 1 rfl) ?_
  refine lv_iconst (v := 0) hx hb dX7_erase_6 (by decide) ?_
  refine g_put KX hh in_X7_erase_X7 tyX7 tyX7_ok nmX7 0 rfl rfl 5 (by decide) rfl rfl rfl (Nat.le_of_ble_eq_true rfl) (List.mem_of_getElem? (i := 1) rfl) (w' := (WM cI cZ cC cH o a_clock a_note a_text a_read a_fit a_shown a_image a_isKept a_row a_best m_told m_isRead1 m_clock m_note m_noted 0 m_text m_position m_tokenAt m_token m_digits m_number m_faultAt m_readMany m_readTold m_read m_fit m_shown m_image m_isKept m_row m_best m_againAt m_againStep m_orderMany m_orderLeast)) rfl rfl dX7_erase_7 (fun H locs hh => ?_)
  refine lv_iload_n hx hb dX7_erase_10 rfl (lv_at hl 0 rfl) ?_
  exact RT _ _ _ _ _ _ hh (by rw [hF]) (Or.inl ⟨_, rfl, by rw [hF], dX7_erase_11, Or.inl rfl⟩)
def F_X7_burn (m_noted : Int32) : Int32 × Int32 := (m_noted, 0)
theorem in_X7_burn_X7 : ∀ x ∈ u_ws RX7 TX7 26, x ∈ wsX7_burn := by decide +kernel
set_option maxHeartbeats 8000000 in
set_option maxRecDepth 100000 in
theorem c_X7_burn (l : Launch) (D : va_G) (cI cZ cC cH : ClassId) (o a_clock a_note a_text a_read a_fit a_shown a_image a_isKept a_row a_best : Nat) (m_told : Int32) (m_isRead1 : Int32) (m_clock : Nat → Int32) (m_note : Nat → Int32) (m_noted : Int32) (m_bytes : Int32) (m_text : Nat → Int32) (m_position : Int32) (m_tokenAt : Int32) (m_token : Int64) (m_digits : Int32) (m_number : Int32) (m_faultAt : Int32) (m_readMany : Int32) (m_readTold : Int32) (m_read : Nat → Int32) (m_fit : Nat → Int32) (m_shown : Nat → Int32) (m_image : Nat → Int32) (m_isKept : Nat → Int32) (m_row : Nat → Int32) (m_best : Nat → Int32) (m_againAt : Int32) (m_againStep : Int32) (m_orderMany : Int32) (m_orderLeast : Int32)   : MC l D (TY cI cZ cC cH) yX7_burn wsX7_burn 0 0 [.ref o] (WM cI cZ cC cH o a_clock a_note a_text a_read a_fit a_shown a_image a_isKept a_row a_best m_told m_isRead1 m_clock m_note m_noted m_bytes m_text m_position m_tokenAt m_token m_digits m_number m_faultAt m_readMany m_readTold m_read m_fit m_shown m_image m_isKept m_row m_best m_againAt m_againStep m_orderMany m_orderLeast) (some (.int ((F_X7_burn m_noted).1))) (WM cI cZ cC cH o a_clock a_note a_text a_read a_fit a_shown a_image a_isKept a_row a_best m_told m_isRead1 m_clock m_note (F_X7_burn m_noted).2 m_bytes m_text m_position m_tokenAt m_token m_digits m_number m_faultAt m_readMany m_readTold m_read m_fit m_shown m_image m_isKept m_row m_best m_againAt m_againStep m_orderMany m_orderLeast) := by
  obtain ⟨R, hF⟩ : ∃ R, R = F_X7_burn m_noted := ⟨_, rfl⟩
  rw [← hF]
  refine MC.of (cc := cX7_burn) (maxL := 2) (ret := (some .int)) RX7 rfl (by decide +kernel) rfl (Nat.le_of_ble_eq_true rfl) ?_
  intro p e s m args below meth c A Q KX RT hh ls hl
  have hx := KX.1
  have hb := KX.2.1
  have hl : lv_has ls 2 [(0, .ref o)] := hl
  unfold F_X7_burn at hF
  refine lv_aload_n hx hb dX7_burn_0 rfl (lv_at hl 0 rfl) ?_
  refine g_get KX hh in_X7_burn_X7 0 rfl rfl 4 (by decide) rfl (List.mem_of_getElem? (i := 1) rfl) dX7_burn_1 ?_
  refine lv_istore_n (lv' := [(1, .int m_noted), (0, .ref o)]) hx hb dX7_burn_4 rfl hl (Nat.le_of_ble_eq_true rfl) rfl (fun ls hl => ?_)
  refine lv_aload_n hx hb dX7_burn_5 rfl (lv_at hl 1 rfl) ?_
  refine lv_iconst (v := 0) hx hb dX7_burn_6 (by decide) ?_
  refine g_put KX hh in_X7_burn_X7 tyX7 tyX7_ok nmX7 0 rfl rfl 4 (by decide) rfl rfl rfl (Nat.le_of_ble_eq_true rfl) (List.mem_of_getElem? (i := 1) rfl) (w' := (WM cI cZ cC cH o a_clock a_note a_text a_read a_fit a_shown a_image a_isKept a_row a_best m_told m_isRead1 m_clock m_note 0 m_bytes m_text m_position m_tokenAt m_token m_digits m_number m_faultAt m_readMany m_readTold m_read m_fit m_shown m_image m_isKept m_row m_best m_againAt m_againStep m_orderMany m_orderLeast)) rfl rfl dX7_burn_7 (fun H locs hh => ?_)
  refine lv_iload_n hx hb dX7_burn_10 rfl (lv_at hl 0 rfl) ?_
  exact RT _ _ _ _ _ _ hh (by rw [hF]) (Or.inl ⟨_, rfl, by rw [hF], dX7_burn_11, Or.inl rfl⟩)
def F_X7_hand (m_clock : Nat → Int32) (x1 : Int32) (x2 : Int32) (x3 : Int32) : Int32 := (if (m_clock (6 * x1).toNatClampNeg) = 1 then (1440 * (m_clock ((6 * x1) + 2).toNatClampNeg)) + (-((x2 - (m_clock ((6 * x1) + 1).toNatClampNeg)) * (1440 + x3))) else (1440 * (m_clock ((6 * x1) + 2).toNatClampNeg)) + ((x2 - (m_clock ((6 * x1) + 1).toNatClampNeg)) * (1440 + x3)))
theorem in_X7_hand_X7 : ∀ x ∈ u_ws RX7 TX7 26, x ∈ wsX7_hand := by decide +kernel
set_option maxHeartbeats 8000000 in
set_option maxRecDepth 100000 in
theorem c_X7_hand (l : Launch) (D : va_G) (cI cZ cC cH : ClassId) (o a_clock a_note a_text a_read a_fit a_shown a_image a_isKept a_row a_best : Nat) (m_told : Int32) (m_isRead1 : Int32) (m_clock : Nat → Int32) (m_note : Nat → Int32) (m_noted : Int32) (m_bytes : Int32) (m_text : Nat → Int32) (m_position : Int32) (m_tokenAt : Int32) (m_token : Int64) (m_digits : Int32) (m_number : Int32) (m_faultAt : Int32) (m_readMany : Int32) (m_readTold : Int32) (m_read : Nat → Int32) (m_fit : Nat → Int32) (m_shown : Nat → Int32) (m_image : Nat → Int32) (m_isKept : Nat → Int32) (m_row : Nat → Int32) (m_best : Nat → Int32) (m_againAt : Int32) (m_againStep : Int32) (m_orderMany : Int32) (m_orderLeast : Int32) (x1 : Int32) (x2 : Int32) (x3 : Int32) (hk0 : 0 ≤ x1.toInt) (hk1 : x1.toInt < 8) : MC l D (TY cI cZ cC cH) yX7_hand wsX7_hand 0 0 [.ref o, .int x1, .int x2, .int x3] (WM cI cZ cC cH o a_clock a_note a_text a_read a_fit a_shown a_image a_isKept a_row a_best m_told m_isRead1 m_clock m_note m_noted m_bytes m_text m_position m_tokenAt m_token m_digits m_number m_faultAt m_readMany m_readTold m_read m_fit m_shown m_image m_isKept m_row m_best m_againAt m_againStep m_orderMany m_orderLeast) (some (.int (F_X7_hand m_clock x1 x2 x3))) (WM cI cZ cC cH o a_clock a_note a_text a_read a_fit a_shown a_image a_isKept a_row a_best m_told m_isRead1 m_clock m_note m_noted m_bytes m_text m_position m_tokenAt m_token m_digits m_number m_faultAt m_readMany m_readTold m_read m_fit m_shown m_image m_isKept m_row m_best m_againAt m_againStep m_orderMany m_orderLeast) := by
  obtain ⟨R, hF⟩ : ∃ R, R = F_X7_hand m_clock x1 x2 x3 := ⟨_, rfl⟩
  rw [← hF]
  refine MC.of (cc := cX7_hand) (maxL := 5) (ret := (some .int)) RX7 rfl (by decide +kernel) rfl (Nat.le_of_ble_eq_true rfl) ?_
  intro p e s m args below meth c A Q KX RT hh ls hl
  have hx := KX.1
  have hb := KX.2.1
  have hl : lv_has ls 5 [(0, .ref o), (1, .int x1), (2, .int x2), (3, .int x3)] := hl
  unfold F_X7_hand at hF
  refine lv_iload_n hx hb dX7_hand_0 rfl (lv_at hl 2 rfl) ?_
  refine lv_aload_n hx hb dX7_hand_1 rfl (lv_at hl 0 rfl) ?_
  refine g_get KX hh in_X7_hand_X7 0 rfl rfl 2 (by decide) rfl (List.mem_of_getElem? (i := 1) rfl) dX7_hand_2 ?_
  refine lv_bipush (v := 6) hx hb dX7_hand_5 (by decide) ?_
  refine lv_iload_n hx hb dX7_hand_7 rfl (lv_at hl 1 rfl) ?_
  refine lv_imul hx hb dX7_hand_8 ?_
  refine lv_iconst (v := 1) hx hb dX7_hand_9 (by decide) ?_
  refine lv_iadd hx hb dX7_hand_10 ?_
  refine g_iald KX hh 1 0 rfl rfl (ix6 1 (by omega) (by omega) (by decide)) dX7_hand_11 ?_
  refine lv_isub hx hb dX7_hand_12 ?_
  refine lv_sipush (v := 1440) hx hb dX7_hand_13 (by decide) ?_
  refine lv_iload_n hx hb dX7_hand_16 rfl (lv_at hl 3 rfl) ?_
  refine lv_iadd hx hb dX7_hand_17 ?_
  refine lv_imul hx hb dX7_hand_18 ?_
  refine lv_istore (lv' := [(4, .int ((x2 - (m_clock ((6 * x1) + 1).toNatClampNeg)) * (1440 + x3))), (0, .ref o), (1, .int x1), (2, .int x2), (3, .int x3)]) hx hb dX7_hand_19 hl (Nat.le_of_ble_eq_true rfl) rfl (fun ls hl => ?_)
  refine lv_sipush (v := 1440) hx hb dX7_hand_21 (by decide) ?_
  refine lv_aload_n hx hb dX7_hand_24 rfl (lv_at hl 1 rfl) ?_
  refine g_get KX hh in_X7_hand_X7 0 rfl rfl 2 (by decide) rfl (List.mem_of_getElem? (i := 1) rfl) dX7_hand_25 ?_
  refine lv_bipush (v := 6) hx hb dX7_hand_28 (by decide) ?_
  refine lv_iload_n hx hb dX7_hand_30 rfl (lv_at hl 2 rfl) ?_
  refine lv_imul hx hb dX7_hand_31 ?_
  refine lv_iconst (v := 2) hx hb dX7_hand_32 (by decide) ?_
  refine lv_iadd hx hb dX7_hand_33 ?_
  refine g_iald KX hh 1 0 rfl rfl (ix6 2 (by omega) (by omega) (by decide)) dX7_hand_34 ?_
  refine lv_imul hx hb dX7_hand_35 ?_
  refine lv_aload_n hx hb dX7_hand_36 rfl (lv_at hl 1 rfl) ?_
  refine g_get KX hh in_X7_hand_X7 0 rfl rfl 2 (by decide) rfl (List.mem_of_getElem? (i := 1) rfl) dX7_hand_37 ?_
  refine lv_bipush (v := 6) hx hb dX7_hand_40 (by decide) ?_
  refine lv_iload_n hx hb dX7_hand_42 rfl (lv_at hl 2 rfl) ?_
  refine lv_imul hx hb dX7_hand_43 ?_
  refine g_iald KX hh 1 0 rfl rfl (ix60 (by omega) (by omega)) dX7_hand_44 ?_
  refine lv_iconst (v := 1) hx hb dX7_hand_45 (by decide) ?_
  refine lv_icmp_ne (tgt := 55) hx hb dX7_hand_46 (by decide) (fun c_46 => ?_) (fun c_46 => ?_)
  · replace hF := hF.trans (if_neg c_46)
    refine lv_iload hx hb dX7_hand_55 (lv_at hl 0 rfl) ?_
    refine lv_iadd hx hb dX7_hand_57 ?_
    exact RT _ _ _ _ _ _ hh (rfl) (Or.inl ⟨_, rfl, by rw [hF], dX7_hand_58, Or.inl rfl⟩)
  · replace hF := hF.trans (if_pos c_46)
    have i_46 : (m_clock (6 * x1).toNatClampNeg).toInt = 1 := congrArg Int32.toInt c_46
    refine lv_iload hx hb dX7_hand_49 (lv_at hl 0 rfl) ?_
    refine lv_ineg hx hb dX7_hand_51 ?_
    refine lv_goto (tgt := 57) hx hb dX7_hand_52 (by decide) ?_
    refine lv_iadd hx hb dX7_hand_57 ?_
    exact RT _ _ _ _ _ _ hh (rfl) (Or.inl ⟨_, rfl, by rw [hF], dX7_hand_58, Or.inl rfl⟩)
def F_X7_count (m_told : Int32) (m_isRead1 : Int32) (m_noted : Int32) (m_bytes : Int32) (x1 : Int32) : Int32 := (if x1 = 0 then m_told else if x1 = 1 then m_isRead1 else if x1 = 2 then m_noted else if x1 = 3 then m_bytes else (-3))
theorem in_X7_count_X7 : ∀ x ∈ u_ws RX7 TX7 26, x ∈ wsX7_count := by decide +kernel
set_option maxHeartbeats 8000000 in
set_option maxRecDepth 100000 in
theorem c_X7_count (l : Launch) (D : va_G) (cI cZ cC cH : ClassId) (o a_clock a_note a_text a_read a_fit a_shown a_image a_isKept a_row a_best : Nat) (m_told : Int32) (m_isRead1 : Int32) (m_clock : Nat → Int32) (m_note : Nat → Int32) (m_noted : Int32) (m_bytes : Int32) (m_text : Nat → Int32) (m_position : Int32) (m_tokenAt : Int32) (m_token : Int64) (m_digits : Int32) (m_number : Int32) (m_faultAt : Int32) (m_readMany : Int32) (m_readTold : Int32) (m_read : Nat → Int32) (m_fit : Nat → Int32) (m_shown : Nat → Int32) (m_image : Nat → Int32) (m_isKept : Nat → Int32) (m_row : Nat → Int32) (m_best : Nat → Int32) (m_againAt : Int32) (m_againStep : Int32) (m_orderMany : Int32) (m_orderLeast : Int32) (x1 : Int32)  : MC l D (TY cI cZ cC cH) yX7_count wsX7_count 0 0 [.ref o, .int x1] (WM cI cZ cC cH o a_clock a_note a_text a_read a_fit a_shown a_image a_isKept a_row a_best m_told m_isRead1 m_clock m_note m_noted m_bytes m_text m_position m_tokenAt m_token m_digits m_number m_faultAt m_readMany m_readTold m_read m_fit m_shown m_image m_isKept m_row m_best m_againAt m_againStep m_orderMany m_orderLeast) (some (.int (F_X7_count m_told m_isRead1 m_noted m_bytes x1))) (WM cI cZ cC cH o a_clock a_note a_text a_read a_fit a_shown a_image a_isKept a_row a_best m_told m_isRead1 m_clock m_note m_noted m_bytes m_text m_position m_tokenAt m_token m_digits m_number m_faultAt m_readMany m_readTold m_read m_fit m_shown m_image m_isKept m_row m_best m_againAt m_againStep m_orderMany m_orderLeast) := by
  obtain ⟨R, hF⟩ : ∃ R, R = F_X7_count m_told m_isRead1 m_noted m_bytes x1 := ⟨_, rfl⟩
  rw [← hF]
  refine MC.of (cc := cX7_count) (maxL := 2) (ret := (some .int)) RX7 rfl (by decide +kernel) rfl (Nat.le_of_ble_eq_true rfl) ?_
  intro p e s m args below meth c A Q KX RT hh ls hl
  have hx := KX.1
  have hb := KX.2.1
  have hl : lv_has ls 2 [(0, .ref o), (1, .int x1)] := hl
  unfold F_X7_count at hF
  refine lv_iload_n hx hb dX7_count_0 rfl (lv_at hl 1 rfl) ?_
  by_cases c_1_0 : x1 = 0
  · replace hF := hF.trans (if_pos c_1_0)
    refine W.eq (g2 := F0 m 1 ls (.int 0 :: [])) (by rw [c_1_0]) ?_
    refine lv_tableIn (tgt := 32) hx hb dX7_count_1 (by decide) (by decide) rfl (by decide) ?_
    refine lv_aload_n hx hb dX7_count_32 rfl (lv_at hl 0 rfl) ?_
    refine g_get KX hh in_X7_count_X7 0 rfl rfl 0 (by decide) rfl (List.mem_of_getElem? (i := 1) rfl) dX7_count_33 ?_
    exact RT _ _ _ _ _ _ hh (rfl) (Or.inl ⟨_, rfl, by rw [hF], dX7_count_36, Or.inl rfl⟩)
  replace hF := hF.trans (if_neg c_1_0)
  by_cases c_1_1 : x1 = 1
  · replace hF := hF.trans (if_pos c_1_1)
    refine W.eq (g2 := F0 m 1 ls (.int 1 :: [])) (by rw [c_1_1]) ?_
    refine lv_tableIn (tgt := 37) hx hb dX7_count_1 (by decide) (by decide) rfl (by decide) ?_
    refine lv_aload_n hx hb dX7_count_37 rfl (lv_at hl 0 rfl) ?_
    refine g_get KX hh in_X7_count_X7 0 rfl rfl 1 (by decide) rfl (List.mem_of_getElem? (i := 2) rfl) dX7_count_38 ?_
    exact RT _ _ _ _ _ _ hh (rfl) (Or.inl ⟨_, rfl, by rw [hF], dX7_count_41, Or.inl rfl⟩)
  replace hF := hF.trans (if_neg c_1_1)
  by_cases c_1_2 : x1 = 2
  · replace hF := hF.trans (if_pos c_1_2)
    refine W.eq (g2 := F0 m 1 ls (.int 2 :: [])) (by rw [c_1_2]) ?_
    refine lv_tableIn (tgt := 42) hx hb dX7_count_1 (by decide) (by decide) rfl (by decide) ?_
    refine lv_aload_n hx hb dX7_count_42 rfl (lv_at hl 0 rfl) ?_
    refine g_get KX hh in_X7_count_X7 0 rfl rfl 4 (by decide) rfl (List.mem_of_getElem? (i := 3) rfl) dX7_count_43 ?_
    exact RT _ _ _ _ _ _ hh (rfl) (Or.inl ⟨_, rfl, by rw [hF], dX7_count_46, Or.inl rfl⟩)
  replace hF := hF.trans (if_neg c_1_2)
  by_cases c_1_3 : x1 = 3
  · replace hF := hF.trans (if_pos c_1_3)
    refine W.eq (g2 := F0 m 1 ls (.int 3 :: [])) (by rw [c_1_3]) ?_
    refine lv_tableIn (tgt := 47) hx hb dX7_count_1 (by decide) (by decide) rfl (by decide) ?_
    refine lv_aload_n hx hb dX7_count_47 rfl (lv_at hl 0 rfl) ?_
    refine g_get KX hh in_X7_count_X7 0 rfl rfl 5 (by decide) rfl (List.mem_of_getElem? (i := 4) rfl) dX7_count_48 ?_
    exact RT _ _ _ _ _ _ hh (rfl) (Or.inl ⟨_, rfl, by rw [hF], dX7_count_51, Or.inl rfl⟩)
  replace hF := hF.trans (if_neg c_1_3)
  refine lv_tableOut (tgt := 52) hx hb dX7_count_1 (by have h1 := sw_ne (y := 0) (k := 0) c_1_0 rfl; have h2 := sw_ne (y := 1) (k := 1) c_1_1 rfl; have h3 := sw_ne (y := 2) (k := 2) c_1_2 rfl; have h4 := sw_ne (y := 3) (k := 3) c_1_3 rfl; omega) (by decide) ?_
  refine lv_bipush (v := (-3)) hx hb dX7_count_52 (by decide) ?_
  exact RT _ _ _ _ _ _ hh (rfl) (Or.inl ⟨_, rfl, by rw [hF], dX7_count_54, Or.inl rfl⟩)
end
