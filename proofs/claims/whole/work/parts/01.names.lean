-- ===== PART A: goes FIRST, ahead of the names: the tables' words, and 'selects' of the private methods out of them =====
/-- a private method of a class that the tables say can be made, by its rows of tables_1 -/
def lw_okq (q : MethodName × Nat) : Prop := (q.1.cls ≠ "java/lang/invoke/MethodHandle" ∧ q.1.cls ≠ "java/lang/invoke/VarHandle") ∧ Cond.instantiable q.1.cls q.2 ∈ tables_1 ∧ Cond.privateMethod q.1 ∈ tables_1 ∧ Cond.instanceMethod q.1 ∈ tables_1
theorem lw_p0 : lw_okq (⟨"ThunderAsks", "sheetOf", "(I)LThunderAsks$Sheet;"⟩, 7) := ⟨⟨by decide +kernel, by decide +kernel⟩, List.mem_of_getElem? (i := 16) (by decide +kernel), List.mem_of_getElem? (i := 200) (by decide +kernel), List.mem_of_getElem? (i := 201) (by decide +kernel)⟩
theorem lw_p1 : lw_okq (⟨"ThunderAsks", "faulty", "(I)I"⟩, 7) := ⟨⟨by decide +kernel, by decide +kernel⟩, List.mem_of_getElem? (i := 16) (by decide +kernel), List.mem_of_getElem? (i := 215) (by decide +kernel), List.mem_of_getElem? (i := 216) (by decide +kernel)⟩
theorem lw_p2 : lw_okq (⟨"ThunderAsks", "hearStorm", "(IIIIZ)I"⟩, 7) := ⟨⟨by decide +kernel, by decide +kernel⟩, List.mem_of_getElem? (i := 16) (by decide +kernel), List.mem_of_getElem? (i := 331) (by decide +kernel), List.mem_of_getElem? (i := 332) (by decide +kernel)⟩
theorem lw_p3 : lw_okq (⟨"ThunderAsks", "hearPairs", "(LThunderAsks$Sheet;II)I"⟩, 7) := ⟨⟨by decide +kernel, by decide +kernel⟩, List.mem_of_getElem? (i := 16) (by decide +kernel), List.mem_of_getElem? (i := 335) (by decide +kernel), List.mem_of_getElem? (i := 336) (by decide +kernel)⟩
theorem lw_p4 : lw_okq (⟨"ThunderAsks", "lessons", "(LThunderAsks$Man;)J"⟩, 7) := ⟨⟨by decide +kernel, by decide +kernel⟩, List.mem_of_getElem? (i := 16) (by decide +kernel), List.mem_of_getElem? (i := 393) (by decide +kernel), List.mem_of_getElem? (i := 394) (by decide +kernel)⟩
theorem lw_p5 : lw_okq (⟨"ThunderAsks", "spitefulTells", "(LThunderAsks$Man;)I"⟩, 7) := ⟨⟨by decide +kernel, by decide +kernel⟩, List.mem_of_getElem? (i := 16) (by decide +kernel), List.mem_of_getElem? (i := 552) (by decide +kernel), List.mem_of_getElem? (i := 553) (by decide +kernel)⟩
theorem lw_p6 : lw_okq (⟨"ThunderAsks", "begin", "(I)V"⟩, 7) := ⟨⟨by decide +kernel, by decide +kernel⟩, List.mem_of_getElem? (i := 16) (by decide +kernel), List.mem_of_getElem? (i := 556) (by decide +kernel), List.mem_of_getElem? (i := 557) (by decide +kernel)⟩
theorem lw_p7 : lw_okq (⟨"ThunderAsks", "boldTells", "(LThunderAsks$Man;)I"⟩, 7) := ⟨⟨by decide +kernel, by decide +kernel⟩, List.mem_of_getElem? (i := 16) (by decide +kernel), List.mem_of_getElem? (i := 560) (by decide +kernel), List.mem_of_getElem? (i := 561) (by decide +kernel)⟩
theorem lw_p8 : lw_okq (⟨"ThunderAsks", "manTells", "(LThunderAsks$Man;)I"⟩, 7) := ⟨⟨by decide +kernel, by decide +kernel⟩, List.mem_of_getElem? (i := 16) (by decide +kernel), List.mem_of_getElem? (i := 564) (by decide +kernel), List.mem_of_getElem? (i := 565) (by decide +kernel)⟩
theorem lw_p9 : lw_okq (⟨"ThunderAsksModel", "against", "(IIII)I"⟩, 28) := ⟨⟨by decide +kernel, by decide +kernel⟩, List.mem_of_getElem? (i := 588) (by decide +kernel), List.mem_of_getElem? (i := 692) (by decide +kernel), List.mem_of_getElem? (i := 693) (by decide +kernel)⟩
theorem lw_p10 : lw_okq (⟨"ThunderAsksModel", "fails", "(I)I"⟩, 28) := ⟨⟨by decide +kernel, by decide +kernel⟩, List.mem_of_getElem? (i := 588) (by decide +kernel), List.mem_of_getElem? (i := 696) (by decide +kernel), List.mem_of_getElem? (i := 697) (by decide +kernel)⟩
theorem lw_p11 : lw_okq (⟨"ThunderAsksModel", "readCounty", "(I)Z"⟩, 28) := ⟨⟨by decide +kernel, by decide +kernel⟩, List.mem_of_getElem? (i := 588) (by decide +kernel), List.mem_of_getElem? (i := 700) (by decide +kernel), List.mem_of_getElem? (i := 701) (by decide +kernel)⟩
theorem lw_p12 : lw_okq (⟨"ThunderAsksModel", "isSign", "(II)Z"⟩, 28) := ⟨⟨by decide +kernel, by decide +kernel⟩, List.mem_of_getElem? (i := 588) (by decide +kernel), List.mem_of_getElem? (i := 704) (by decide +kernel), List.mem_of_getElem? (i := 705) (by decide +kernel)⟩
theorem lw_p13 : lw_okq (⟨"ThunderAsksModel", "readSet", "(I)I"⟩, 28) := ⟨⟨by decide +kernel, by decide +kernel⟩, List.mem_of_getElem? (i := 588) (by decide +kernel), List.mem_of_getElem? (i := 708) (by decide +kernel), List.mem_of_getElem? (i := 709) (by decide +kernel)⟩
theorem lw_p14 : lw_okq (⟨"ThunderAsksModel", "digit", "(III)I"⟩, 28) := ⟨⟨by decide +kernel, by decide +kernel⟩, List.mem_of_getElem? (i := 588) (by decide +kernel), List.mem_of_getElem? (i := 712) (by decide +kernel), List.mem_of_getElem? (i := 713) (by decide +kernel)⟩
theorem lw_p15 : lw_okq (⟨"ThunderAsksModel", "readMan", "(I)Z"⟩, 28) := ⟨⟨by decide +kernel, by decide +kernel⟩, List.mem_of_getElem? (i := 588) (by decide +kernel), List.mem_of_getElem? (i := 716) (by decide +kernel), List.mem_of_getElem? (i := 717) (by decide +kernel)⟩
def lw_privs_1 : List (MethodName × Nat) := [(⟨"ThunderAsks", "sheetOf", "(I)LThunderAsks$Sheet;"⟩, 7), (⟨"ThunderAsks", "faulty", "(I)I"⟩, 7), (⟨"ThunderAsks", "hearStorm", "(IIIIZ)I"⟩, 7), (⟨"ThunderAsks", "hearPairs", "(LThunderAsks$Sheet;II)I"⟩, 7), (⟨"ThunderAsks", "lessons", "(LThunderAsks$Man;)J"⟩, 7), (⟨"ThunderAsks", "spitefulTells", "(LThunderAsks$Man;)I"⟩, 7), (⟨"ThunderAsks", "begin", "(I)V"⟩, 7), (⟨"ThunderAsks", "boldTells", "(LThunderAsks$Man;)I"⟩, 7), (⟨"ThunderAsks", "manTells", "(LThunderAsks$Man;)I"⟩, 7), (⟨"ThunderAsksModel", "against", "(IIII)I"⟩, 28), (⟨"ThunderAsksModel", "fails", "(I)I"⟩, 28), (⟨"ThunderAsksModel", "readCounty", "(I)Z"⟩, 28), (⟨"ThunderAsksModel", "isSign", "(II)Z"⟩, 28), (⟨"ThunderAsksModel", "readSet", "(I)I"⟩, 28), (⟨"ThunderAsksModel", "digit", "(III)I"⟩, 28), (⟨"ThunderAsksModel", "readMan", "(I)Z"⟩, 28)]
theorem lw_r1 : ∀ q ∈ lw_privs_1, lw_okq q := List.forall_mem_cons.mpr ⟨lw_p0, List.forall_mem_cons.mpr ⟨lw_p1, List.forall_mem_cons.mpr ⟨lw_p2, List.forall_mem_cons.mpr ⟨lw_p3, List.forall_mem_cons.mpr ⟨lw_p4, List.forall_mem_cons.mpr ⟨lw_p5, List.forall_mem_cons.mpr ⟨lw_p6, List.forall_mem_cons.mpr ⟨lw_p7, List.forall_mem_cons.mpr ⟨lw_p8, List.forall_mem_cons.mpr ⟨lw_p9, List.forall_mem_cons.mpr ⟨lw_p10, List.forall_mem_cons.mpr ⟨lw_p11, List.forall_mem_cons.mpr ⟨lw_p12, List.forall_mem_cons.mpr ⟨lw_p13, List.forall_mem_cons.mpr ⟨lw_p14, List.forall_mem_cons.mpr ⟨lw_p15, fun _ h => absurd h List.not_mem_nil⟩⟩⟩⟩⟩⟩⟩⟩⟩⟩⟩⟩⟩⟩⟩⟩
theorem lw_p16 : lw_okq (⟨"ThunderAsksModel", "isMan", "(I)Z"⟩, 28) := ⟨⟨by decide +kernel, by decide +kernel⟩, List.mem_of_getElem? (i := 588) (by decide +kernel), List.mem_of_getElem? (i := 724) (by decide +kernel), List.mem_of_getElem? (i := 725) (by decide +kernel)⟩
theorem lw_p17 : lw_okq (⟨"ThunderAsksModel", "isParish", "(I)Z"⟩, 28) := ⟨⟨by decide +kernel, by decide +kernel⟩, List.mem_of_getElem? (i := 588) (by decide +kernel), List.mem_of_getElem? (i := 739) (by decide +kernel), List.mem_of_getElem? (i := 740) (by decide +kernel)⟩
theorem lw_p18 : lw_okq (⟨"ThunderAsksModel", "answerOf", "(II)I"⟩, 28) := ⟨⟨by decide +kernel, by decide +kernel⟩, List.mem_of_getElem? (i := 588) (by decide +kernel), List.mem_of_getElem? (i := 754) (by decide +kernel), List.mem_of_getElem? (i := 755) (by decide +kernel)⟩
theorem lw_p19 : lw_okq (⟨"ThunderAsksModel", "right", "(I)I"⟩, 28) := ⟨⟨by decide +kernel, by decide +kernel⟩, List.mem_of_getElem? (i := 588) (by decide +kernel), List.mem_of_getElem? (i := 758) (by decide +kernel), List.mem_of_getElem? (i := 759) (by decide +kernel)⟩
theorem lw_p20 : lw_okq (⟨"ThunderAsksModel", "isHeld", "(II)Z"⟩, 28) := ⟨⟨by decide +kernel, by decide +kernel⟩, List.mem_of_getElem? (i := 588) (by decide +kernel), List.mem_of_getElem? (i := 766) (by decide +kernel), List.mem_of_getElem? (i := 767) (by decide +kernel)⟩
theorem lw_p21 : lw_okq (⟨"ThunderAsksModel", "dangersOf", "(I)I"⟩, 28) := ⟨⟨by decide +kernel, by decide +kernel⟩, List.mem_of_getElem? (i := 588) (by decide +kernel), List.mem_of_getElem? (i := 774) (by decide +kernel), List.mem_of_getElem? (i := 775) (by decide +kernel)⟩
theorem lw_p22 : lw_okq (⟨"ThunderAsksModel", "layStorm", "(IIII)I"⟩, 28) := ⟨⟨by decide +kernel, by decide +kernel⟩, List.mem_of_getElem? (i := 588) (by decide +kernel), List.mem_of_getElem? (i := 785) (by decide +kernel), List.mem_of_getElem? (i := 786) (by decide +kernel)⟩
theorem lw_p23 : lw_okq (⟨"ThunderAsksModel", "strikesNow", "()I"⟩, 28) := ⟨⟨by decide +kernel, by decide +kernel⟩, List.mem_of_getElem? (i := 588) (by decide +kernel), List.mem_of_getElem? (i := 789) (by decide +kernel), List.mem_of_getElem? (i := 790) (by decide +kernel)⟩
theorem lw_p24 : lw_okq (⟨"ThunderAsksModel", "findPlaces", "()I"⟩, 28) := ⟨⟨by decide +kernel, by decide +kernel⟩, List.mem_of_getElem? (i := 588) (by decide +kernel), List.mem_of_getElem? (i := 797) (by decide +kernel), List.mem_of_getElem? (i := 798) (by decide +kernel)⟩
theorem lw_p25 : lw_okq (⟨"ThunderAsksModel", "struckWith", "(II)I"⟩, 28) := ⟨⟨by decide +kernel, by decide +kernel⟩, List.mem_of_getElem? (i := 588) (by decide +kernel), List.mem_of_getElem? (i := 812) (by decide +kernel), List.mem_of_getElem? (i := 813) (by decide +kernel)⟩
theorem lw_p26 : lw_okq (⟨"ThunderAsksModel", "goOn", "()V"⟩, 28) := ⟨⟨by decide +kernel, by decide +kernel⟩, List.mem_of_getElem? (i := 588) (by decide +kernel), List.mem_of_getElem? (i := 816) (by decide +kernel), List.mem_of_getElem? (i := 817) (by decide +kernel)⟩
theorem lw_p27 : lw_okq (⟨"ThunderAsksModel", "lost", "(I)J"⟩, 28) := ⟨⟨by decide +kernel, by decide +kernel⟩, List.mem_of_getElem? (i := 588) (by decide +kernel), List.mem_of_getElem? (i := 825) (by decide +kernel), List.mem_of_getElem? (i := 826) (by decide +kernel)⟩
theorem lw_p28 : lw_okq (⟨"ThunderAsksModel", "allDangers", "()I"⟩, 28) := ⟨⟨by decide +kernel, by decide +kernel⟩, List.mem_of_getElem? (i := 588) (by decide +kernel), List.mem_of_getElem? (i := 837) (by decide +kernel), List.mem_of_getElem? (i := 838) (by decide +kernel)⟩
theorem lw_p29 : lw_okq (⟨"ThunderAsksModel", "areSo", "()Z"⟩, 28) := ⟨⟨by decide +kernel, by decide +kernel⟩, List.mem_of_getElem? (i := 588) (by decide +kernel), List.mem_of_getElem? (i := 853) (by decide +kernel), List.mem_of_getElem? (i := 854) (by decide +kernel)⟩
theorem lw_p30 : lw_okq (⟨"ThunderAsksModel", "begins", "(I)V"⟩, 28) := ⟨⟨by decide +kernel, by decide +kernel⟩, List.mem_of_getElem? (i := 588) (by decide +kernel), List.mem_of_getElem? (i := 897) (by decide +kernel), List.mem_of_getElem? (i := 898) (by decide +kernel)⟩
def lw_privs_2 : List (MethodName × Nat) := [(⟨"ThunderAsksModel", "isMan", "(I)Z"⟩, 28), (⟨"ThunderAsksModel", "isParish", "(I)Z"⟩, 28), (⟨"ThunderAsksModel", "answerOf", "(II)I"⟩, 28), (⟨"ThunderAsksModel", "right", "(I)I"⟩, 28), (⟨"ThunderAsksModel", "isHeld", "(II)Z"⟩, 28), (⟨"ThunderAsksModel", "dangersOf", "(I)I"⟩, 28), (⟨"ThunderAsksModel", "layStorm", "(IIII)I"⟩, 28), (⟨"ThunderAsksModel", "strikesNow", "()I"⟩, 28), (⟨"ThunderAsksModel", "findPlaces", "()I"⟩, 28), (⟨"ThunderAsksModel", "struckWith", "(II)I"⟩, 28), (⟨"ThunderAsksModel", "goOn", "()V"⟩, 28), (⟨"ThunderAsksModel", "lost", "(I)J"⟩, 28), (⟨"ThunderAsksModel", "allDangers", "()I"⟩, 28), (⟨"ThunderAsksModel", "areSo", "()Z"⟩, 28), (⟨"ThunderAsksModel", "begins", "(I)V"⟩, 28)]
theorem lw_r2 : ∀ q ∈ lw_privs_2, lw_okq q := List.forall_mem_cons.mpr ⟨lw_p16, List.forall_mem_cons.mpr ⟨lw_p17, List.forall_mem_cons.mpr ⟨lw_p18, List.forall_mem_cons.mpr ⟨lw_p19, List.forall_mem_cons.mpr ⟨lw_p20, List.forall_mem_cons.mpr ⟨lw_p21, List.forall_mem_cons.mpr ⟨lw_p22, List.forall_mem_cons.mpr ⟨lw_p23, List.forall_mem_cons.mpr ⟨lw_p24, List.forall_mem_cons.mpr ⟨lw_p25, List.forall_mem_cons.mpr ⟨lw_p26, List.forall_mem_cons.mpr ⟨lw_p27, List.forall_mem_cons.mpr ⟨lw_p28, List.forall_mem_cons.mpr ⟨lw_p29, List.forall_mem_cons.mpr ⟨lw_p30, fun _ h => absurd h List.not_mem_nil⟩⟩⟩⟩⟩⟩⟩⟩⟩⟩⟩⟩⟩⟩⟩
def lw_privs : List (MethodName × Nat) := lw_privs_1 ++ (lw_privs_2)
def lw_tbl : List Cond := k2_sels lw_privs ++ tables_1
theorem lw_privs_ok : ∀ q ∈ lw_privs, lw_okq q := by
  show ∀ q ∈ lw_privs_1 ++ (lw_privs_2), lw_okq q
  exact List.forall_mem_append.mpr ⟨lw_r1, lw_r2⟩
/-! ===== BEGIN words of one list among another's, by their places ===== -/
theorem goodIn_r {big : List Cond} (ws : List Cond) (ps : List Nat) (hp : ws = ps.filterMap (fun i => big[i]?)) (h : ws.all goodWord = true) : GoodIn big ws := by
  intro w hw
  have h1 := List.all_eq_true.mp h w hw
  rw [hp] at hw
  obtain ⟨i, -, hi⟩ := List.mem_filterMap.mp hw
  have hm : w ∈ big := by first | exact List.mem_of_getElem? hi | exact List.getElem?_mem hi
  exact ⟨hm, good_of_word h1⟩
theorem goodIn_app {big a b : List Cond} (ha : GoodIn big a) (hb : GoodIn big b) : GoodIn big (a ++ b) := fun w h => (List.mem_append.mp h).elim (ha w) (hb w)
theorem goodIn_ca {big a b : List Cond} {c : Cond} (ha : GoodIn big (c :: a)) (hb : GoodIn big b) : GoodIn big (c :: (a ++ b)) := fun w h => (List.mem_cons.mp h).elim (fun e => ha w (List.mem_cons.mpr (Or.inl e))) (fun h => (List.mem_append.mp h).elim (fun h => ha w (List.mem_cons.mpr (Or.inr h))) (hb w))
theorem goodIn_sub {big ws : List Cond} (hm : ∀ w ∈ ws, w ∈ big) (h : ws.all goodWord = true) : GoodIn big ws := fun w hw => ⟨hm w hw, good_of_word (List.all_eq_true.mp h w hw)⟩
/-! ===== END ===== -/

/-! ===== BEGIN printed: names, fields, word lists, decode rows ===== -/
def RX0 : String := "ThunderAsks$County"
def TX0 : u_T := fun k => match k with
  | 0 => ("ThunderAsks$County", "truth", "I", false)
  | 1 => ("ThunderAsks$County", "parishes", "I", false)
  | 2 => ("ThunderAsks$County", "manCount", "I", false)
  | _ => ("ThunderAsks$County", "men", "[LThunderAsks$Man;", true)
def tyX0 : Nat → FieldType := fun k => match k with
  | 0 => .int
  | 1 => .int
  | 2 => .int
  | _ => .array (.object "ThunderAsks$Man")
abbrev wsX00 : List Cond := u_ws RX0 TX0 4
theorem nmX0 : ∀ a, a < 4 → ∀ b, b < 4 → a ≠ b → (TX0 a).2.1 ≠ (TX0 b).2.1 := by decide +kernel
theorem tyX0_ok : ∀ k, k < 4 → parseFieldDescriptor (TX0 k).2.2.1 = some (tyX0 k) := by decide +kernel
abbrev cX0_init : ByteArray := prog_2_method_1_code
def yX0_init : MethodName := ⟨RX0, "<init>", "()V"⟩
abbrev cX0_isThere : ByteArray := prog_2_method_2_code
def yX0_isThere : MethodName := ⟨RX0, "isThere", "()Z"⟩
abbrev cX0_hasParish : ByteArray := prog_2_method_3_code
def yX0_hasParish : MethodName := ⟨RX0, "hasParish", "(I)Z"⟩
abbrev cX0_manOf : ByteArray := prog_2_method_4_code
def yX0_manOf : MethodName := ⟨RX0, "manOf", "(I)LThunderAsks$Man;"⟩
abbrev cX0_menIn : ByteArray := prog_2_method_5_code
def yX0_menIn : MethodName := ⟨RX0, "menIn", "(I)I"⟩
abbrev cX0_dangersBy : ByteArray := prog_2_method_6_code
def yX0_dangersBy : MethodName := ⟨RX0, "dangersBy", "(I)I"⟩
abbrev cX0_dangersOf : ByteArray := prog_2_method_7_code
def yX0_dangersOf : MethodName := ⟨RX0, "dangersOf", "(I)I"⟩
abbrev cX0_isStruck : ByteArray := prog_2_method_8_code
def yX0_isStruck : MethodName := ⟨RX0, "isStruck", "(II)Z"⟩
abbrev cX0_dangersWithout : ByteArray := prog_2_method_9_code
def yX0_dangersWithout : MethodName := ⟨RX0, "dangersWithout", "(I)I"⟩
abbrev cX0_dangerousFrom : ByteArray := prog_2_method_10_code
def yX0_dangerousFrom : MethodName := ⟨RX0, "dangerousFrom", "(II)I"⟩
def RX1 : String := "ThunderAsks$CountyText"
def TX1 : u_T := fun k => match k with
  | _ => ("", "", "", false)
def tyX1 : Nat → FieldType := fun k => match k with
  | _ => .int
abbrev wsX10 : List Cond := u_ws RX1 TX1 0
theorem nmX1 : ∀ a, a < 0 → ∀ b, b < 0 → a ≠ b → (TX1 a).2.1 ≠ (TX1 b).2.1 := by decide +kernel
theorem tyX1_ok : ∀ k, k < 0 → parseFieldDescriptor (TX1 k).2.2.1 = some (tyX1 k) := by decide +kernel
abbrev cX1_firstFault : ByteArray := prog_3_method_2_code
def yX1_firstFault : MethodName := ⟨RX1, "firstFault", "(LThunderAsks$Sheet;II)I"⟩
abbrev cX1_goesOn : ByteArray := prog_3_method_3_code
def yX1_goesOn : MethodName := ⟨RX1, "goesOn", "(LThunderAsks$Sheet;II)Z"⟩
abbrev cX1_manGoesOn : ByteArray := prog_3_method_4_code
def yX1_manGoesOn : MethodName := ⟨RX1, "manGoesOn", "(LThunderAsks$Sheet;III)Z"⟩
abbrev cX1_isFirstDigit : ByteArray := prog_3_method_5_code
def yX1_isFirstDigit : MethodName := ⟨RX1, "isFirstDigit", "(I)Z"⟩
abbrev cX1_isSecondDigit : ByteArray := prog_3_method_6_code
def yX1_isSecondDigit : MethodName := ⟨RX1, "isSecondDigit", "(II)Z"⟩
abbrev cX1_settle : ByteArray := prog_3_method_7_code
def yX1_settle : MethodName := ⟨RX1, "settle", "(LThunderAsks$Sheet;IILThunderAsks$County;)V"⟩
abbrev cX1_setAt : ByteArray := prog_3_method_8_code
def yX1_setAt : MethodName := ⟨RX1, "setAt", "(LThunderAsks$Sheet;I)I"⟩
abbrev cX1_kindBy : ByteArray := prog_3_method_9_code
def yX1_kindBy : MethodName := ⟨RX1, "kindBy", "(I)I"⟩
def RX2 : String := "ThunderAsks$Man"
def TX2 : u_T := fun k => match k with
  | 0 => ("ThunderAsks$Man", "kind", "I", false)
  | 1 => ("ThunderAsks$Man", "parish", "I", false)
  | _ => ("ThunderAsks$Man", "list", "I", false)
def tyX2 : Nat → FieldType := fun k => match k with
  | 0 => .int
  | 1 => .int
  | _ => .int
abbrev wsX20 : List Cond := u_ws RX2 TX2 3
theorem nmX2 : ∀ a, a < 3 → ∀ b, b < 3 → a ≠ b → (TX2 a).2.1 ≠ (TX2 b).2.1 := by decide +kernel
theorem tyX2_ok : ∀ k, k < 3 → parseFieldDescriptor (TX2 k).2.2.1 = some (tyX2 k) := by decide +kernel
abbrev cX2_init : ByteArray := prog_4_method_1_code
def yX2_init : MethodName := ⟨RX2, "<init>", "()V"⟩
abbrev cX2_rightBy : ByteArray := prog_4_method_2_code
def yX2_rightBy : MethodName := ⟨RX2, "rightBy", "(I)I"⟩
abbrev cX2_wrongBy : ByteArray := prog_4_method_3_code
def yX2_wrongBy : MethodName := ⟨RX2, "wrongBy", "(I)I"⟩
def RX3 : String := "ThunderAsks$Placing"
def TX3 : u_T := fun k => match k with
  | 0 => ("ThunderAsks$Placing", "costs", "[I", true)
  | 1 => ("ThunderAsks$Placing", "crowds", "[I", true)
  | 2 => ("ThunderAsks$Placing", "tried", "[I", true)
  | 3 => ("ThunderAsks$Placing", "best", "[I", true)
  | 4 => ("ThunderAsks$Placing", "parishes", "I", false)
  | 5 => ("ThunderAsks$Placing", "men", "I", false)
  | _ => ("ThunderAsks$Placing", "fewest", "I", false)
def tyX3 : Nat → FieldType := fun k => match k with
  | 0 => .array .int
  | 1 => .array .int
  | 2 => .array .int
  | 3 => .array .int
  | 4 => .int
  | 5 => .int
  | _ => .int
abbrev wsX30 : List Cond := u_ws RX3 TX3 7
theorem nmX3 : ∀ a, a < 7 → ∀ b, b < 7 → a ≠ b → (TX3 a).2.1 ≠ (TX3 b).2.1 := by decide +kernel
theorem tyX3_ok : ∀ k, k < 7 → parseFieldDescriptor (TX3 k).2.2.1 = some (tyX3 k) := by decide +kernel
abbrev cX3_init : ByteArray := prog_5_method_1_code
def yX3_init : MethodName := ⟨RX3, "<init>", "()V"⟩
abbrev cX3_find : ByteArray := prog_5_method_2_code
def yX3_find : MethodName := ⟨RX3, "find", "(LThunderAsks$County;LThunderAsks$Storm;)V"⟩
abbrev cX3_parishOf : ByteArray := prog_5_method_3_code
def yX3_parishOf : MethodName := ⟨RX3, "parishOf", "(I)I"⟩
abbrev cX3_weigh : ByteArray := prog_5_method_4_code
def yX3_weigh : MethodName := ⟨RX3, "weigh", "(LThunderAsks$County;LThunderAsks$Storm;)V"⟩
abbrev cX3_goOn : ByteArray := prog_5_method_5_code
def yX3_goOn : MethodName := ⟨RX3, "goOn", "(LThunderAsks$Placing;II)V"⟩
abbrev cX3_keepIfFewer : ByteArray := prog_5_method_6_code
def yX3_keepIfFewer : MethodName := ⟨RX3, "keepIfFewer", "(I)V"⟩
def RX4 : String := "ThunderAsks$Readings"
def TX4 : u_T := fun k => match k with
  | 0 => ("ThunderAsks$Readings", "count", "I", false)
  | 1 => ("ThunderAsks$Readings", "parishes", "[I", true)
  | 2 => ("ThunderAsks$Readings", "questions", "[I", true)
  | _ => ("ThunderAsks$Readings", "struck", "[Z", true)
def tyX4 : Nat → FieldType := fun k => match k with
  | 0 => .int
  | 1 => .array .int
  | 2 => .array .int
  | _ => .array .boolean
abbrev wsX40 : List Cond := u_ws RX4 TX4 4
theorem nmX4 : ∀ a, a < 4 → ∀ b, b < 4 → a ≠ b → (TX4 a).2.1 ≠ (TX4 b).2.1 := by decide +kernel
theorem tyX4_ok : ∀ k, k < 4 → parseFieldDescriptor (TX4 k).2.2.1 = some (tyX4 k) := by decide +kernel
abbrev cX4_init : ByteArray := prog_6_method_1_code
def yX4_init : MethodName := ⟨RX4, "<init>", "()V"⟩
abbrev cX4_note : ByteArray := prog_6_method_2_code
def yX4_note : MethodName := ⟨RX4, "note", "(IIZ)Z"⟩
abbrev cX4_allSoIn : ByteArray := prog_6_method_3_code
def yX4_allSoIn : MethodName := ⟨RX4, "allSoIn", "(LThunderAsks$County;)Z"⟩
abbrev cX4_likelyTruths : ByteArray := prog_6_method_4_code
def yX4_likelyTruths : MethodName := ⟨RX4, "likelyTruths", "(LThunderAsks$County;)J"⟩
abbrev cX4_likelyParishes : ByteArray := prog_6_method_5_code
def yX4_likelyParishes : MethodName := ⟨RX4, "likelyParishes", "(LThunderAsks$County;LThunderAsks$Man;)I"⟩
abbrev cX4_likelyKinds : ByteArray := prog_6_method_6_code
def yX4_likelyKinds : MethodName := ⟨RX4, "likelyKinds", "(LThunderAsks$County;LThunderAsks$Man;)I"⟩
abbrev cX4_likelyLists : ByteArray := prog_6_method_7_code
def yX4_likelyLists : MethodName := ⟨RX4, "likelyLists", "(LThunderAsks$County;LThunderAsks$Man;)J"⟩
def RX5 : String := "ThunderAsks$Sheet"
def TX5 : u_T := fun k => match k with
  | 0 => ("ThunderAsks$Sheet", "there", "Z", false)
  | 1 => ("ThunderAsks$Sheet", "lane", "I", false)
  | 2 => ("ThunderAsks$Sheet", "size", "I", false)
  | _ => ("ThunderAsks$Sheet", "cells", "[I", true)
def tyX5 : Nat → FieldType := fun k => match k with
  | 0 => .boolean
  | 1 => .int
  | 2 => .int
  | _ => .array .int
abbrev wsX50 : List Cond := u_ws RX5 TX5 4
theorem nmX5 : ∀ a, a < 4 → ∀ b, b < 4 → a ≠ b → (TX5 a).2.1 ≠ (TX5 b).2.1 := by decide +kernel
theorem tyX5_ok : ∀ k, k < 4 → parseFieldDescriptor (TX5 k).2.2.1 = some (tyX5 k) := by decide +kernel
abbrev cX5_init : ByteArray := prog_7_method_1_code
def yX5_init : MethodName := ⟨RX5, "<init>", "()V"⟩
abbrev cX5_renew : ByteArray := prog_7_method_2_code
def yX5_renew : MethodName := ⟨RX5, "renew", "(II)V"⟩
abbrev cX5_hasCells : ByteArray := prog_7_method_3_code
def yX5_hasCells : MethodName := ⟨RX5, "hasCells", "(II)Z"⟩
abbrev cX5_faultOf : ByteArray := prog_7_method_4_code
def yX5_faultOf : MethodName := ⟨RX5, "faultOf", "(III)I"⟩
abbrev cX5_valueAt : ByteArray := prog_7_method_5_code
def yX5_valueAt : MethodName := ⟨RX5, "valueAt", "(I)I"⟩
abbrev cX5_write : ByteArray := prog_7_method_6_code
def yX5_write : MethodName := ⟨RX5, "write", "(II)V"⟩
def RX6 : String := "ThunderAsks$Storm"
def TX6 : u_T := fun k => match k with
  | 0 => ("ThunderAsks$Storm", "size", "I", false)
  | 1 => ("ThunderAsks$Storm", "parishes", "[I", true)
  | _ => ("ThunderAsks$Storm", "questions", "[I", true)
def tyX6 : Nat → FieldType := fun k => match k with
  | 0 => .int
  | 1 => .array .int
  | _ => .array .int
abbrev wsX60 : List Cond := u_ws RX6 TX6 3
theorem nmX6 : ∀ a, a < 3 → ∀ b, b < 3 → a ≠ b → (TX6 a).2.1 ≠ (TX6 b).2.1 := by decide +kernel
theorem tyX6_ok : ∀ k, k < 3 → parseFieldDescriptor (TX6 k).2.2.1 = some (tyX6 k) := by decide +kernel
abbrev cX6_init : ByteArray := prog_8_method_1_code
def yX6_init : MethodName := ⟨RX6, "<init>", "()V"⟩
abbrev cX6_add : ByteArray := prog_8_method_2_code
def yX6_add : MethodName := ⟨RX6, "add", "(II)V"⟩
abbrev cX6_countIn : ByteArray := prog_8_method_3_code
def yX6_countIn : MethodName := ⟨RX6, "countIn", "(LThunderAsks$County;)I"⟩
abbrev cX6_firstIn : ByteArray := prog_8_method_4_code
def yX6_firstIn : MethodName := ⟨RX6, "firstIn", "(LThunderAsks$County;)I"⟩
abbrev cX6_struckIn : ByteArray := prog_8_method_5_code
def yX6_struckIn : MethodName := ⟨RX6, "struckIn", "(LThunderAsks$County;)I"⟩
def RX7 : String := "ThunderAsks"
def TX7 : u_T := fun k => match k with
  | 0 => ("ThunderAsks", "sheets", "[LThunderAsks$Sheet;", true)
  | 1 => ("ThunderAsks", "land", "LThunderAsks$County;", true)
  | 2 => ("ThunderAsks", "readings", "LThunderAsks$Readings;", true)
  | 3 => ("ThunderAsks", "storm", "LThunderAsks$Storm;", true)
  | 4 => ("ThunderAsks", "placing", "LThunderAsks$Placing;", true)
  | 5 => ("ThunderAsks", "trace", "I", false)
  | _ => ("ThunderAsks", "fault", "I", false)
def tyX7 : Nat → FieldType := fun k => match k with
  | 0 => .array (.object "ThunderAsks$Sheet")
  | 1 => .object "ThunderAsks$County"
  | 2 => .object "ThunderAsks$Readings"
  | 3 => .object "ThunderAsks$Storm"
  | 4 => .object "ThunderAsks$Placing"
  | 5 => .int
  | _ => .int
abbrev wsX70 : List Cond := u_ws RX7 TX7 7
theorem nmX7 : ∀ a, a < 7 → ∀ b, b < 7 → a ≠ b → (TX7 a).2.1 ≠ (TX7 b).2.1 := by decide +kernel
theorem tyX7_ok : ∀ k, k < 7 → parseFieldDescriptor (TX7 k).2.2.1 = some (tyX7 k) := by decide +kernel
abbrev cX7_init : ByteArray := prog_1_method_1_code
def yX7_init : MethodName := ⟨RX7, "<init>", "()V"⟩
abbrev cX7_county : ByteArray := prog_1_method_2_code
def yX7_county : MethodName := ⟨RX7, "county", "(IIII)I"⟩
abbrev cX7_ofMan : ByteArray := prog_1_method_3_code
def yX7_ofMan : MethodName := ⟨RX7, "ofMan", "(II)I"⟩
abbrev cX7_truth : ByteArray := prog_1_method_4_code
def yX7_truth : MethodName := ⟨RX7, "truth", "(I)I"⟩
abbrev cX7_stand : ByteArray := prog_1_method_5_code
def yX7_stand : MethodName := ⟨RX7, "stand", "(II)I"⟩
abbrev cX7_learn : ByteArray := prog_1_method_6_code
def yX7_learn : MethodName := ⟨RX7, "learn", "(II)I"⟩
abbrev cX7_answer : ByteArray := prog_1_method_7_code
def yX7_answer : MethodName := ⟨RX7, "answer", "(II)I"⟩
abbrev cX7_strikes : ByteArray := prog_1_method_8_code
def yX7_strikes : MethodName := ⟨RX7, "strikes", "(II)I"⟩
abbrev cX7_dangers : ByteArray := prog_1_method_9_code
def yX7_dangers : MethodName := ⟨RX7, "dangers", "(I)I"⟩
abbrev cX7_storm : ByteArray := prog_1_method_10_code
def yX7_storm : MethodName := ⟨RX7, "storm", "(IIIII)I"⟩
abbrev cX7_place : ByteArray := prog_1_method_11_code
def yX7_place : MethodName := ⟨RX7, "place", "(IIIII)I"⟩
abbrev cX7_teach : ByteArray := prog_1_method_12_code
def yX7_teach : MethodName := ⟨RX7, "teach", "(IIIII)I"⟩
abbrev cX7_worst : ByteArray := prog_1_method_13_code
def yX7_worst : MethodName := ⟨RX7, "worst", "(II)I"⟩
abbrev cX7_fair : ByteArray := prog_1_method_14_code
def yX7_fair : MethodName := ⟨RX7, "fair", "(IIIII)J"⟩
abbrev cX7_worth : ByteArray := prog_1_method_15_code
def yX7_worth : MethodName := ⟨RX7, "worth", "(I)I"⟩
abbrev cX7_reading : ByteArray := prog_1_method_16_code
def yX7_reading : MethodName := ⟨RX7, "reading", "(IIZ)I"⟩
abbrev cX7_back : ByteArray := prog_1_method_17_code
def yX7_back : MethodName := ⟨RX7, "back", "(I)I"⟩
abbrev cX7_truths : ByteArray := prog_1_method_18_code
def yX7_truths : MethodName := ⟨RX7, "truths", "(I)I"⟩
abbrev cX7_stood : ByteArray := prog_1_method_19_code
def yX7_stood : MethodName := ⟨RX7, "stood", "(I)I"⟩
abbrev cX7_kinds : ByteArray := prog_1_method_20_code
def yX7_kinds : MethodName := ⟨RX7, "kinds", "(I)I"⟩
abbrev cX7_knew : ByteArray := prog_1_method_21_code
def yX7_knew : MethodName := ⟨RX7, "knew", "(II)I"⟩
abbrev cX7_odds : ByteArray := prog_1_method_22_code
def yX7_odds : MethodName := ⟨RX7, "odds", "(III)J"⟩
abbrev cX7_sheet : ByteArray := prog_1_method_23_code
def yX7_sheet : MethodName := ⟨RX7, "sheet", "(III)I"⟩
abbrev cX7_lose : ByteArray := prog_1_method_24_code
def yX7_lose : MethodName := ⟨RX7, "lose", "(I)I"⟩
abbrev cX7_put : ByteArray := prog_1_method_25_code
def yX7_put : MethodName := ⟨RX7, "put", "(III)I"⟩
abbrev cX7_cell : ByteArray := prog_1_method_26_code
def yX7_cell : MethodName := ⟨RX7, "cell", "(III)J"⟩
abbrev cX7_copy : ByteArray := prog_1_method_27_code
def yX7_copy : MethodName := ⟨RX7, "copy", "(IIIII)I"⟩
abbrev cX7_tell : ByteArray := prog_1_method_28_code
def yX7_tell : MethodName := ⟨RX7, "tell", "(I)I"⟩
abbrev cX7_hail : ByteArray := prog_1_method_29_code
def yX7_hail : MethodName := ⟨RX7, "hail", "(I)I"⟩
abbrev cX7_as : ByteArray := prog_1_method_30_code
def yX7_as : MethodName := ⟨RX7, "as", "(II)I"⟩
abbrev cX7_trace : ByteArray := prog_1_method_31_code
def yX7_trace : MethodName := ⟨RX7, "trace", "()I"⟩
abbrev cX7_fault : ByteArray := prog_1_method_32_code
def yX7_fault : MethodName := ⟨RX7, "fault", "()I"⟩
abbrev cX7_many : ByteArray := prog_1_method_33_code
def yX7_many : MethodName := ⟨RX7, "many", "(I)I"⟩
abbrev cX7_sheetOf : ByteArray := prog_1_method_34_code
def yX7_sheetOf : MethodName := ⟨RX7, "sheetOf", "(I)LThunderAsks$Sheet;"⟩
abbrev cX7_faulty : ByteArray := prog_1_method_35_code
def yX7_faulty : MethodName := ⟨RX7, "faulty", "(I)I"⟩
abbrev cX7_hearStorm : ByteArray := prog_1_method_36_code
def yX7_hearStorm : MethodName := ⟨RX7, "hearStorm", "(IIIIZ)I"⟩
abbrev cX7_hearPairs : ByteArray := prog_1_method_37_code
def yX7_hearPairs : MethodName := ⟨RX7, "hearPairs", "(LThunderAsks$Sheet;II)I"⟩
abbrev cX7_lessons : ByteArray := prog_1_method_38_code
def yX7_lessons : MethodName := ⟨RX7, "lessons", "(LThunderAsks$Man;)J"⟩
abbrev cX7_stepsOver : ByteArray := prog_1_method_39_code
def yX7_stepsOver : MethodName := ⟨RX7, "stepsOver", "(III)I"⟩
abbrev cX7_manTells : ByteArray := prog_1_method_40_code
def yX7_manTells : MethodName := ⟨RX7, "manTells", "(LThunderAsks$Man;)I"⟩
abbrev cX7_boldTells : ByteArray := prog_1_method_41_code
def yX7_boldTells : MethodName := ⟨RX7, "boldTells", "(LThunderAsks$Man;)I"⟩
abbrev cX7_spitefulTells : ByteArray := prog_1_method_42_code
def yX7_spitefulTells : MethodName := ⟨RX7, "spitefulTells", "(LThunderAsks$Man;)I"⟩
abbrev cX7_begin : ByteArray := prog_1_method_43_code
def yX7_begin : MethodName := ⟨RX7, "begin", "(I)V"⟩
abbrev cX7_isLane : ByteArray := prog_1_method_44_code
def yX7_isLane : MethodName := ⟨RX7, "isLane", "(I)Z"⟩
abbrev cX7_isSet : ByteArray := prog_1_method_45_code
def yX7_isSet : MethodName := ⟨RX7, "isSet", "(I)Z"⟩
abbrev cX7_isQuestion : ByteArray := prog_1_method_46_code
def yX7_isQuestion : MethodName := ⟨RX7, "isQuestion", "(I)Z"⟩
abbrev cX7_isWhich : ByteArray := prog_1_method_47_code
def yX7_isWhich : MethodName := ⟨RX7, "isWhich", "(I)Z"⟩
abbrev cX7_holds : ByteArray := prog_1_method_48_code
def yX7_holds : MethodName := ⟨RX7, "holds", "(II)Z"⟩
abbrev cX7_holdsSet : ByteArray := prog_1_method_49_code
def yX7_holdsSet : MethodName := ⟨RX7, "holdsSet", "(JI)Z"⟩
abbrev cX7_leastOf : ByteArray := prog_1_method_50_code
def yX7_leastOf : MethodName := ⟨RX7, "leastOf", "(J)I"⟩
abbrev cX7_countHolding : ByteArray := prog_1_method_51_code
def yX7_countHolding : MethodName := ⟨RX7, "countHolding", "(JI)I"⟩
abbrev cX7_fewestQuestions : ByteArray := prog_1_method_52_code
def yX7_fewestQuestions : MethodName := ⟨RX7, "fewestQuestions", "(J)I"⟩
abbrev cX7_inLeastTerms : ByteArray := prog_1_method_53_code
def yX7_inLeastTerms : MethodName := ⟨RX7, "inLeastTerms", "(JJI)J"⟩
abbrev cX7_commonDivisor : ByteArray := prog_1_method_54_code
def yX7_commonDivisor : MethodName := ⟨RX7, "commonDivisor", "(JJ)J"⟩
def RX8 : String := "ThunderAsksModel"
def TX8 : u_T := fun k => match k with
  | 0 => ("ThunderAsksModel", "fault", "I", false)
  | 1 => ("ThunderAsksModel", "trace", "I", false)
  | 2 => ("ThunderAsksModel", "sorts", "[I", true)
  | 3 => ("ThunderAsksModel", "sheetLong", "[I", true)
  | 4 => ("ThunderAsksModel", "cells", "[I", true)
  | 5 => ("ThunderAsksModel", "truth", "I", false)
  | 6 => ("ThunderAsksModel", "parishes", "I", false)
  | 7 => ("ThunderAsksModel", "men", "I", false)
  | 8 => ("ThunderAsksModel", "kind", "[I", true)
  | 9 => ("ThunderAsksModel", "place", "[I", true)
  | 10 => ("ThunderAsksModel", "list", "[I", true)
  | 11 => ("ThunderAsksModel", "silent", "I", false)
  | 12 => ("ThunderAsksModel", "at", "I", false)
  | 13 => ("ThunderAsksModel", "readTruth", "I", false)
  | 14 => ("ThunderAsksModel", "readParishes", "I", false)
  | 15 => ("ThunderAsksModel", "readMany", "I", false)
  | 16 => ("ThunderAsksModel", "read", "[I", true)
  | 17 => ("ThunderAsksModel", "storm", "I", false)
  | 18 => ("ThunderAsksModel", "stormIn", "[I", true)
  | 19 => ("ThunderAsksModel", "stormBy", "[I", true)
  | 20 => ("ThunderAsksModel", "kept", "[I", true)
  | 21 => ("ThunderAsksModel", "found", "[I", true)
  | 22 => ("ThunderAsksModel", "canBe", "[Z", true)
  | 23 => ("ThunderAsksModel", "then", "[Z", true)
  | 24 => ("ThunderAsksModel", "readings", "I", false)
  | 25 => ("ThunderAsksModel", "readParish", "[I", true)
  | 26 => ("ThunderAsksModel", "readQuestion", "[I", true)
  | _ => ("ThunderAsksModel", "readStruck", "[Z", true)
def tyX8 : Nat → FieldType := fun k => match k with
  | 0 => .int
  | 1 => .int
  | 2 => .array .int
  | 3 => .array .int
  | 4 => .array .int
  | 5 => .int
  | 6 => .int
  | 7 => .int
  | 8 => .array .int
  | 9 => .array .int
  | 10 => .array .int
  | 11 => .int
  | 12 => .int
  | 13 => .int
  | 14 => .int
  | 15 => .int
  | 16 => .array .int
  | 17 => .int
  | 18 => .array .int
  | 19 => .array .int
  | 20 => .array .int
  | 21 => .array .int
  | 22 => .array .boolean
  | 23 => .array .boolean
  | 24 => .int
  | 25 => .array .int
  | 26 => .array .int
  | _ => .array .boolean
abbrev wsX80 : List Cond := u_ws RX8 TX8 28
theorem nmX8 : ∀ a, a < 28 → ∀ b, b < 28 → a ≠ b → (TX8 a).2.1 ≠ (TX8 b).2.1 := by decide +kernel
theorem tyX8_ok : ∀ k, k < 28 → parseFieldDescriptor (TX8 k).2.2.1 = some (tyX8 k) := by decide +kernel
abbrev cX8_init : ByteArray := prog_10_method_1_code
def yX8_init : MethodName := ⟨RX8, "<init>", "()V"⟩
abbrev cX8_fails : ByteArray := prog_10_method_3_code
def yX8_fails : MethodName := ⟨RX8, "fails", "(I)I"⟩
abbrev cX8_lost : ByteArray := prog_10_method_4_code
def yX8_lost : MethodName := ⟨RX8, "lost", "(I)J"⟩
abbrev cX8_within : ByteArray := prog_10_method_5_code
def yX8_within : MethodName := ⟨RX8, "within", "(III)Z"⟩
abbrev cX8_isSheet : ByteArray := prog_10_method_6_code
def yX8_isSheet : MethodName := ⟨RX8, "isSheet", "(I)Z"⟩
abbrev cX8_isSort : ByteArray := prog_10_method_7_code
def yX8_isSort : MethodName := ⟨RX8, "isSort", "(I)Z"⟩
abbrev cX8_against : ByteArray := prog_10_method_8_code
def yX8_against : MethodName := ⟨RX8, "against", "(IIII)I"⟩
abbrev cX8_isMan : ByteArray := prog_10_method_9_code
def yX8_isMan : MethodName := ⟨RX8, "isMan", "(I)Z"⟩
abbrev cX8_isParish : ByteArray := prog_10_method_10_code
def yX8_isParish : MethodName := ⟨RX8, "isParish", "(I)Z"⟩
abbrev cX8_isQuestion : ByteArray := prog_10_method_11_code
def yX8_isQuestion : MethodName := ⟨RX8, "isQuestion", "(I)Z"⟩
abbrev cX8_isSet : ByteArray := prog_10_method_12_code
def yX8_isSet : MethodName := ⟨RX8, "isSet", "(I)Z"⟩
abbrev cX8_digit : ByteArray := prog_10_method_13_code
def yX8_digit : MethodName := ⟨RX8, "digit", "(III)I"⟩
abbrev cX8_isSign : ByteArray := prog_10_method_14_code
def yX8_isSign : MethodName := ⟨RX8, "isSign", "(II)Z"⟩
abbrev cX8_readSet : ByteArray := prog_10_method_15_code
def yX8_readSet : MethodName := ⟨RX8, "readSet", "(I)I"⟩
abbrev cX8_county : ByteArray := prog_10_method_16_code
def yX8_county : MethodName := ⟨RX8, "county", "(IIII)I"⟩
abbrev cX8_readCounty : ByteArray := prog_10_method_17_code
def yX8_readCounty : MethodName := ⟨RX8, "readCounty", "(I)Z"⟩
abbrev cX8_readMan : ByteArray := prog_10_method_18_code
def yX8_readMan : MethodName := ⟨RX8, "readMan", "(I)Z"⟩
abbrev cX8_ofMan : ByteArray := prog_10_method_19_code
def yX8_ofMan : MethodName := ⟨RX8, "ofMan", "(II)I"⟩
abbrev cX8_truth : ByteArray := prog_10_method_20_code
def yX8_truth : MethodName := ⟨RX8, "truth", "(I)I"⟩
abbrev cX8_stand : ByteArray := prog_10_method_21_code
def yX8_stand : MethodName := ⟨RX8, "stand", "(II)I"⟩
abbrev cX8_learn : ByteArray := prog_10_method_22_code
def yX8_learn : MethodName := ⟨RX8, "learn", "(II)I"⟩
abbrev cX8_right : ByteArray := prog_10_method_23_code
def yX8_right : MethodName := ⟨RX8, "right", "(I)I"⟩
abbrev cX8_answerOf : ByteArray := prog_10_method_24_code
def yX8_answerOf : MethodName := ⟨RX8, "answerOf", "(II)I"⟩
abbrev cX8_answer : ByteArray := prog_10_method_25_code
def yX8_answer : MethodName := ⟨RX8, "answer", "(II)I"⟩
abbrev cX8_isHeld : ByteArray := prog_10_method_26_code
def yX8_isHeld : MethodName := ⟨RX8, "isHeld", "(II)Z"⟩
abbrev cX8_strikes : ByteArray := prog_10_method_27_code
def yX8_strikes : MethodName := ⟨RX8, "strikes", "(II)I"⟩
abbrev cX8_dangersOf : ByteArray := prog_10_method_28_code
def yX8_dangersOf : MethodName := ⟨RX8, "dangersOf", "(I)I"⟩
abbrev cX8_dangers : ByteArray := prog_10_method_29_code
def yX8_dangers : MethodName := ⟨RX8, "dangers", "(I)I"⟩
abbrev cX8_layStorm : ByteArray := prog_10_method_30_code
def yX8_layStorm : MethodName := ⟨RX8, "layStorm", "(IIII)I"⟩
abbrev cX8_isRow : ByteArray := prog_10_method_31_code
def yX8_isRow : MethodName := ⟨RX8, "isRow", "(II)Z"⟩
abbrev cX8_strikesNow : ByteArray := prog_10_method_32_code
def yX8_strikesNow : MethodName := ⟨RX8, "strikesNow", "()I"⟩
abbrev cX8_storm : ByteArray := prog_10_method_33_code
def yX8_storm : MethodName := ⟨RX8, "storm", "(IIIII)I"⟩
abbrev cX8_findPlaces : ByteArray := prog_10_method_34_code
def yX8_findPlaces : MethodName := ⟨RX8, "findPlaces", "()I"⟩
abbrev cX8_place : ByteArray := prog_10_method_35_code
def yX8_place : MethodName := ⟨RX8, "place", "(IIIII)I"⟩
abbrev cX8_size : ByteArray := prog_10_method_36_code
def yX8_size : MethodName := ⟨RX8, "size", "(I)I"⟩
abbrev cX8_teach : ByteArray := prog_10_method_37_code
def yX8_teach : MethodName := ⟨RX8, "teach", "(IIIII)I"⟩
abbrev cX8_struckWith : ByteArray := prog_10_method_38_code
def yX8_struckWith : MethodName := ⟨RX8, "struckWith", "(II)I"⟩
abbrev cX8_goOn : ByteArray := prog_10_method_39_code
def yX8_goOn : MethodName := ⟨RX8, "goOn", "()V"⟩
abbrev cX8_worst : ByteArray := prog_10_method_40_code
def yX8_worst : MethodName := ⟨RX8, "worst", "(II)I"⟩
abbrev cX8_inLeastTerms : ByteArray := prog_10_method_41_code
def yX8_inLeastTerms : MethodName := ⟨RX8, "inLeastTerms", "(JJI)J"⟩
abbrev cX8_fair : ByteArray := prog_10_method_42_code
def yX8_fair : MethodName := ⟨RX8, "fair", "(IIIII)J"⟩
abbrev cX8_allDangers : ByteArray := prog_10_method_43_code
def yX8_allDangers : MethodName := ⟨RX8, "allDangers", "()I"⟩
abbrev cX8_worth : ByteArray := prog_10_method_44_code
def yX8_worth : MethodName := ⟨RX8, "worth", "(I)I"⟩
abbrev cX8_reading : ByteArray := prog_10_method_45_code
def yX8_reading : MethodName := ⟨RX8, "reading", "(IIZ)I"⟩
abbrev cX8_back : ByteArray := prog_10_method_46_code
def yX8_back : MethodName := ⟨RX8, "back", "(I)I"⟩
abbrev cX8_areSo : ByteArray := prog_10_method_47_code
def yX8_areSo : MethodName := ⟨RX8, "areSo", "()Z"⟩
abbrev cX8_truths : ByteArray := prog_10_method_48_code
def yX8_truths : MethodName := ⟨RX8, "truths", "(I)I"⟩
abbrev cX8_stood : ByteArray := prog_10_method_49_code
def yX8_stood : MethodName := ⟨RX8, "stood", "(I)I"⟩
abbrev cX8_kinds : ByteArray := prog_10_method_50_code
def yX8_kinds : MethodName := ⟨RX8, "kinds", "(I)I"⟩
abbrev cX8_knew : ByteArray := prog_10_method_51_code
def yX8_knew : MethodName := ⟨RX8, "knew", "(II)I"⟩
abbrev cX8_odds : ByteArray := prog_10_method_52_code
def yX8_odds : MethodName := ⟨RX8, "odds", "(III)J"⟩
abbrev cX8_sheet : ByteArray := prog_10_method_53_code
def yX8_sheet : MethodName := ⟨RX8, "sheet", "(III)I"⟩
abbrev cX8_lose : ByteArray := prog_10_method_54_code
def yX8_lose : MethodName := ⟨RX8, "lose", "(I)I"⟩
abbrev cX8_put : ByteArray := prog_10_method_55_code
def yX8_put : MethodName := ⟨RX8, "put", "(III)I"⟩
abbrev cX8_cell : ByteArray := prog_10_method_56_code
def yX8_cell : MethodName := ⟨RX8, "cell", "(III)J"⟩
abbrev cX8_copy : ByteArray := prog_10_method_57_code
def yX8_copy : MethodName := ⟨RX8, "copy", "(IIIII)I"⟩
abbrev cX8_begins : ByteArray := prog_10_method_58_code
def yX8_begins : MethodName := ⟨RX8, "begins", "(I)V"⟩
abbrev cX8_tell : ByteArray := prog_10_method_59_code
def yX8_tell : MethodName := ⟨RX8, "tell", "(I)I"⟩
abbrev cX8_hail : ByteArray := prog_10_method_60_code
def yX8_hail : MethodName := ⟨RX8, "hail", "(I)I"⟩
abbrev cX8_as : ByteArray := prog_10_method_61_code
def yX8_as : MethodName := ⟨RX8, "as", "(II)I"⟩
abbrev cX8_trace : ByteArray := prog_10_method_62_code
def yX8_trace : MethodName := ⟨RX8, "trace", "()I"⟩
abbrev cX8_fault : ByteArray := prog_10_method_63_code
def yX8_fault : MethodName := ⟨RX8, "fault", "()I"⟩
abbrev cX8_many : ByteArray := prog_10_method_64_code
def yX8_many : MethodName := ⟨RX8, "many", "(I)I"⟩
def RJ6 : String := "java/lang/Integer"
def TJ6 : u_T := fun k => match k with
  | _ => ("", "", "", false)
def tyJ6 : Nat → FieldType := fun k => match k with
  | _ => .int
abbrev wsJ60 : List Cond := u_ws RJ6 TJ6 0
theorem nmJ6 : ∀ a, a < 0 → ∀ b, b < 0 → a ≠ b → (TJ6 a).2.1 ≠ (TJ6 b).2.1 := by decide +kernel
theorem tyJ6_ok : ∀ k, k < 0 → parseFieldDescriptor (TJ6 k).2.2.1 = some (tyJ6 k) := by decide +kernel
abbrev cJ6_bitCount_0f7a4 : ByteArray := prog_11_method_49_code
def yJ6_bitCount_0f7a4 : MethodName := ⟨RJ6, "bitCount", "(I)I"⟩
def RJ13 : String := "java/lang/Long"
def TJ13 : u_T := fun k => match k with
  | _ => ("", "", "", false)
def tyJ13 : Nat → FieldType := fun k => match k with
  | _ => .int
abbrev wsJ130 : List Cond := u_ws RJ13 TJ13 0
theorem nmJ13 : ∀ a, a < 0 → ∀ b, b < 0 → a ≠ b → (TJ13 a).2.1 ≠ (TJ13 b).2.1 := by decide +kernel
theorem tyJ13_ok : ∀ k, k < 0 → parseFieldDescriptor (TJ13 k).2.2.1 = some (tyJ13 k) := by decide +kernel
abbrev cJ13_bitCount_95d88 : ByteArray := prog_12_method_50_code
def yJ13_bitCount_95d88 : MethodName := ⟨RJ13, "bitCount", "(J)I"⟩
def RJ9 : String := "java/lang/Math"
def TJ9 : u_T := fun k => match k with
  | _ => ("", "", "", false)
def tyJ9 : Nat → FieldType := fun k => match k with
  | _ => .int
abbrev wsJ90 : List Cond := u_ws RJ9 TJ9 0
theorem nmJ9 : ∀ a, a < 0 → ∀ b, b < 0 → a ≠ b → (TJ9 a).2.1 ≠ (TJ9 b).2.1 := by decide +kernel
theorem tyJ9_ok : ∀ k, k < 0 → parseFieldDescriptor (TJ9 k).2.2.1 = some (tyJ9 k) := by decide +kernel
abbrev cJ9_max_7cf53 : ByteArray := prog_13_method_65_code
def yJ9_max_7cf53 : MethodName := ⟨RJ9, "max", "(II)I"⟩
abbrev cJ9_min_7cf53 : ByteArray := prog_13_method_69_code
def yJ9_min_7cf53 : MethodName := ⟨RJ9, "min", "(II)I"⟩
def RJ10 : String := "java/lang/System"
def TJ10 : u_T := fun k => match k with
  | _ => ("", "", "", false)
def tyJ10 : Nat → FieldType := fun k => match k with
  | _ => .int
abbrev wsJ100 : List Cond := u_ws RJ10 TJ10 0
theorem nmJ10 : ∀ a, a < 0 → ∀ b, b < 0 → a ≠ b → (TJ10 a).2.1 ≠ (TJ10 b).2.1 := by decide +kernel
theorem tyJ10_ok : ∀ k, k < 0 → parseFieldDescriptor (TJ10 k).2.2.1 = some (tyJ10 k) := by decide +kernel
def RJ7 : String := "java/util/Arrays"
def TJ7 : u_T := fun k => match k with
  | _ => ("", "", "", false)
def tyJ7 : Nat → FieldType := fun k => match k with
  | _ => .int
abbrev wsJ70 : List Cond := u_ws RJ7 TJ7 0
theorem nmJ7 : ∀ a, a < 0 → ∀ b, b < 0 → a ≠ b → (TJ7 a).2.1 ≠ (TJ7 b).2.1 := by decide +kernel
theorem tyJ7_ok : ∀ k, k < 0 → parseFieldDescriptor (TJ7 k).2.2.1 = some (tyJ7 k) := by decide +kernel
abbrev cJ7_fill_53178 : ByteArray := prog_15_method_103_code
def yJ7_fill_53178 : MethodName := ⟨RJ7, "fill", "([II)V"⟩
def RL : String := "ThunderAsksLaw"
abbrev cL_law : ByteArray := code
def yL_law : MethodName := ⟨RL, "law", "([I)Z"⟩
abbrev vwCl : List vw_C := [(RX0, TX0, 4), (RX2, TX2, 3), (RX3, TX3, 7), (RX4, TX4, 4), (RX5, TX5, 4), (RX6, TX6, 3), (RX7, TX7, 7), (RX8, TX8, 28)]
/-! ===== END printed: names ===== -/
