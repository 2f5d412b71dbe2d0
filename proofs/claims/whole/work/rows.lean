section
-- ===== PART A: goes FIRST, ahead of the names: the tables' words, and 'selects' of the private methods out of them =====
/-- a private method of a class that the tables say can be made, by its rows of tables_1 -/
def lw_okq (q : MethodName × Nat) : Prop := (q.1.cls ≠ "java/lang/invoke/MethodHandle" ∧ q.1.cls ≠ "java/lang/invoke/VarHandle") ∧ Cond.instantiable q.1.cls q.2 ∈ tables_1 ∧ Cond.privateMethod q.1 ∈ tables_1 ∧ Cond.instanceMethod q.1 ∈ tables_1
theorem lw_p0 : lw_okq (⟨"ThunderAsks", "sheetOf", "(I)LThunderAsks$Sheet;"⟩, 7) := ⟨⟨by decide +kernel, by decide +kernel⟩, List.mem_of_getElem? (i := 16) (by decide +kernel), List.mem_of_getElem? (i := 200) (by decide +kernel), List.mem_of_getElem? (i := 201) (by decide +kernel)⟩
theorem lw_p1 : lw_okq (⟨"ThunderAsks", "faulty", "(I)I"⟩, 7) := ⟨⟨by decide +kernel, by decide +kernel⟩, List.mem_of_getElem? (i := 16) (by decide +kernel), List.mem_of_getElem? (i := 215) (by decide +kernel), List.mem_of_getElem? (i := 216) (by decide +kernel)⟩
theorem lw_p2 : lw_okq (⟨"ThunderAsks", "hearStorm", "(IIIIZ)I"⟩, 7) := ⟨⟨by decide +kernel, by decide +kernel⟩, List.mem_of_getElem? (i := 16) (by decide +kernel), List.mem_of_getElem? (i := 331) (by decide +kernel), List.mem_of_getElem? (i := 332) (by decide +kernel)⟩
theorem lw_p3 : lw_okq (⟨"ThunderAsks", "hearPairs", "(LThunderAsks$Sheet;II)I"⟩, 7) := ⟨⟨by decide +kernel, by decide +kernel⟩, List.mem_of_getElem? (i := 16) (by decide +kernel), List.mem_of_getElem? (i := 335) (by decide +kernel), List.mem_of_getElem? (i := 336) (by decide +kernel)⟩
theorem lw_p4 : lw_okq (⟨"ThunderAsks", "lessons", "(LThunderAsks$Man;)J"⟩, 7) := ⟨⟨by decide +kernel, by decide +kernel⟩, List.mem_of_getElem? (i := 16) (by decide +kernel), List.mem_of_getElem? (i := 393) (by decide +kernel), List.mem_of_getElem? (i := 394) (by decide +kernel)⟩
theorem lw_p5 : lw_okq (⟨"ThunderAsks", "spitefulTells", "(LThunderAsks$Man;)I"⟩, 7) := ⟨⟨by decide +kernel, by decide +kernel⟩, List.mem_of_getElem? (i := 16) (by decide +kernel), List.mem_of_getElem? (i := 552) (by decide +kernel), List.mem_of_getElem? (i := 553) (by decide +kernel)⟩
theorem lw_p6 : lw_okq (⟨"ThunderAsks", "begin", "(I)V"⟩, 7) := ⟨⟨by decide +kernel, by decide +kernel⟩, List.mem_of_getElem? (i := 16) (by decide +kernel), List.mem_of_getElem? (i := 556) (by decide +kernel), List.mem_of_getElem? (i := 557) (by decide +kernel)⟩
theorem lw_p7 : lw_okq (⟨"ThunderAsks", "boldTells", "(LThunderAsks$Man;)I"⟩, 7) := ⟨⟨by decide +kernel, by decide +kernel⟩, List.mem_of_getElem? (i := 16) (by decide +kernel), List.mem_of_getElem? (i := 560) (by decide +kernel), List.mem_of_getElem? (i := 561) (by decide +kernel)⟩
theorem lw_p8 : lw_okq (⟨"ThunderAsks", "manTells", "(LThunderAsks$Man;)I"⟩, 7) := ⟨⟨by decide +kernel, by decide +kernel⟩, List.mem_of_getElem? (i := 16) (by decide +kernel), List.mem_of_getElem? (i := 564) (by decide +kernel), List.mem_of_getElem? (i := 565) (by decide +kernel)⟩
theorem lw_p9 : lw_okq (⟨"ThunderAsksModel", "against", "(IIII)I"⟩, 28) := ⟨⟨by decide +kernel, by decide +kernel⟩, List.mem_of_getElem? (i := 588) (by decide +kernel), List.mem_of_getElem? (i := 692) (by decide +kernel), List.mem_of_getElem? (i := 693) (by decide +kernel)⟩
theorem lw_p10 : lw_okq (⟨"ThunderAsksModel", "fails", "(I)I"⟩, 28) := ⟨⟨by decide +kernel, by decide +kernel⟩, List.mem_of_getElem? (i := 588) (by decide +kernel), List.mem_of_getElem? (i := 696) (by decide +kernel), List.mem_of_getElem? (i := 697) (by decide +kernel)⟩
theorem lw_p11 : lw_okq (⟨"ThunderAsksModel", "readCounty", "(I)Z"⟩, 28) := ⟨⟨by decide +kernel, by decide +kernel⟩, List.mem_of_getElem? (i := 588) (by decide +kernel), List.mem_of_getElem? (i := 700) (by decide +kernel), List.mem_of_getElem? (i := 701) (by decide +kernel)⟩
theorem lw_p12 : lw_okq (⟨"ThunderAsksModel", "isSign", "(II)Z"⟩, 28) := ⟨⟨by decide +kernel, by decide +kernel⟩, List.mem_of_getElem? (i := 588) (by decide +kernel), List.mem_of_getElem? (i := 704) (by decide +kernel), List.mem_of_getElem? (i := 705) (by decide +kernel)⟩
theorem lw_p13 : lw_okq (⟨"ThunderAsksModel", "readSet", "(I)I"⟩, 28) := ⟨⟨by decide +kernel, by decide +kernel⟩, List.mem_of_getElem? (i := 588) (by decide +kernel), List.mem_of_getElem? (i := 708) (by decide +kernel), List.mem_of_getElem? (i := 709) (by decide +kernel)⟩
theorem lw_p14 : lw_okq (⟨"ThunderAsksModel", "digit", "(III)I"⟩, 28) := ⟨⟨by decide +kernel, by decide +kernel⟩, List.mem_of_getElem? (i := 588) (by decide +kernel), List.mem_of_getElem? (i := 712) (by decide +kernel), List.mem_of_getElem? (i := 713) (by decide +kernel)⟩
theorem lw_p15 : lw_okq (⟨"ThunderAsksModel", "readMan", "(I)Z"⟩, 28) := ⟨⟨by decide +kernel, by decide +kernel⟩, List.mem_of_getElem? (i := 588) (by decide +kernel), List.mem_of_getElem? (i := 716) (by decide +kernel), List.mem_of_getElem? (i := 717) (by decide +kernel)⟩
def lw_privs_1 : List (MethodName × Nat) := [(⟨"ThunderAsks", "sheetOf", "(I)LThunderAsks$Sheet;"⟩, 7), (⟨"ThunderAsks", "faulty", "(I)I"⟩, 7), (⟨"ThunderAsks", "hearStorm", "(IIIIZ)I"⟩, 7), (⟨"ThunderAsks", "hearPairs", "(LThunderAsks$Sheet;II)I"⟩, 7), (⟨"ThunderAsks", "lessons", "(LThunderAsks$Man;)J"⟩, 7), (⟨"ThunderAsks", "spitefulTells", "(LThunderAsks$Man;)I"⟩, 7), (⟨"ThunderAsks", "begin", "(I)V"⟩, 7), (⟨"ThunderAsks", "boldTells", "(LThunderAsks$Man;)I"⟩, 7), (⟨"ThunderAsks", "manTells", "(LThunderAsks$Man;)I"⟩, 7), (⟨"ThunderAsksModel", "against", "(IIII)I"⟩, 28), (⟨"ThunderAsksModel", "fails", "(I)I"⟩, 28), (⟨"ThunderAsksModel", "readCounty", "(I)Z"⟩, 28), (⟨"ThunderAsksModel", "isSign", "(II)Z"⟩, 28), (⟨"ThunderAsksModel", "readSet", "(I)I"⟩, 28), (⟨"ThunderAsksModel", "digit", "(III)I"⟩, 28), (⟨"ThunderAsksModel", "readMan", "(I)Z"⟩, 28)]
theorem lw_r1 : ∀ q ∈ lw_privs_1, lw_okq q := List.forall_mem_cons.mpr ⟨lw_p0, List.forall_mem_cons.mpr ⟨lw_p1, List.forall_mem_cons.mpr ⟨lw_p2, List.forall_mem_cons.mpr ⟨lw_p3, List.forall_mem_cons.mpr ⟨lw_p4, List.forall_mem_cons.mpr ⟨lw_p5, List.forall_mem_cons.mpr ⟨lw_p6, List.forall_mem_cons.mpr ⟨lw_p7, List.forall_mem_cons.mpr ⟨lw_p8, List.forall_mem_cons.mpr ⟨lw_p9, List.forall_mem_cons.mpr ⟨lw_p10, List.forall_mem_cons.mpr ⟨lw_p11, List.forall_mem_cons.mpr ⟨lw_p12, List.forall_mem_cons.mpr ⟨lw_p13, List.forall_mem_cons.mpr ⟨lw_p14, List.forall_mem_cons.mpr ⟨lw_p15, fun _ h => absurd h List.not_mem_nil⟩⟩⟩⟩⟩⟩⟩⟩⟩⟩⟩⟩⟩⟩⟩⟩
theorem lw_p16 : lw_okq (⟨"ThunderAsksModel", "isMan", "(I)Z"⟩, 28) := ⟨⟨by decide +kernel, by decide +kernel⟩, List.mem_of_getElem? (i := 588) (by decide +kernel), List.mem_of_getElem? (i := 724) (by decide +kernel), List.mem_of_getElem? (i := 725) (by decide +kernel)⟩
theorem lw_p17 : lw_okq (⟨"ThunderAsksModel", "isParish", "(I)Z"⟩, 28) := ⟨⟨by decide +kernel, by decide +kernel⟩, List.mem_of_getElem? (i := 588) (by decide +kernel), List.mem_of_getElem? (i := 739) (by decide +kernel), List.mem_of_getElem? (i := 740) (by decide +kernel)⟩
theorem lw_p18 : lw_okq (⟨"ThunderAsksModel", "answerOf", "(II)I"⟩, 28) := ⟨⟨by decide +kernel, by decide +kernel⟩, List.mem_of_getElem? (i := 588) (by decide +kernel), List.mem_of_getElem? (i := 754) (by decide +kernel), List.mem_of_getElem? (i := 755) (by decide +kernel)⟩
theorem lw_p19 : lw_okq (⟨"ThunderAsksModel", "right", "(I)I"⟩, 28) := ⟨⟨by decide +kernel, by decide +kernel⟩, List.mem_of_getElem? (i := 588) (by decide +kernel), List.mem_of_getElem? (i := 758) (by decide +kernel), List.mem_of_getElem? (i := 759) (by decide +kernel)⟩
theorem lw_p20 : lw_okq (⟨"ThunderAsksModel", "isHeld", "(II)Z"⟩, 28) := ⟨⟨by decide +kernel, by decide +kernel⟩, List.mem_of_getElem? (i := 588) (by decide +kernel), List.mem_of_getElem? (i := 766) (by decide +kernel), List.mem_of_getElem? (i := 767) (by decide +kernel)⟩
theorem lw_p21 : lw_okq (⟨"ThunderAsksModel", "dangersOf", "(I)I"⟩, 28) := ⟨⟨by decide +kernel, by decide +kernel⟩, List.mem_of_getElem? (i := 588) (by decide +kernel), List.mem_of_getElem? (i := 774) (by decide +kernel), List.mem_of_getElem? (i := 775) (by decide +kernel)⟩
theorem lw_p22 : lw_okq (⟨"ThunderAsksModel", "layStorm", "(IIII)I"⟩, 28) := ⟨⟨by decide +kernel, by decide +kernel⟩, List.mem_of_getElem? (i := 588) (by decide +kernel), List.mem_of_getElem? (i := 785) (by decide +kernel), List.mem_of_getElem? (i := 786) (by decide +kernel)⟩
theorem lw_p23 : lw_okq (⟨"ThunderAsksModel", "strikesNow", "()I"⟩, 28) := ⟨⟨by decide +kernel, by decide +kernel⟩, List.mem_of_getElem? (i := 588) (by decide +kernel), List.mem_of_getElem? (i := 789) (by decide +kernel), List.mem_of_getElem? (i := 790) (by decide +kernel)⟩
theorem lw_p24 : lw_okq (⟨"ThunderAsksModel", "findPlaces", "()I"⟩, 28) := ⟨⟨by decide +kernel, by decide +kernel⟩, List.mem_of_getElem? (i := 588) (by decide +kernel), List.mem_of_getElem? (i := 797) (by decide +kernel), List.mem_of_getElem? (i := 798) (by decide +kernel)⟩
theorem lw_p25 : lw_okq (⟨"ThunderAsksModel", "struckWith", "(II)I"⟩, 28) := ⟨⟨by decide +kernel, by decide +kernel⟩, List.mem_of_getElem? (i := 588) (by decide +kernel), List.mem_of_getElem? (i := 812) (by decide +kernel), List.mem_of_getElem? (i := 813) (by decide +kernel)⟩
theorem lw_p26 : lw_okq (⟨"ThunderAsksModel", "goOn", "()V"⟩, 28) := ⟨⟨by decide +kernel, by decide +kernel⟩, List.mem_of_getElem? (i := 588) (by decide +kernel), List.mem_of_getElem? (i := 816) (by decide +kernel), List.mem_of_getElem? (i := 817) (by decide +kernel)⟩
theorem lw_p27 : lw_okq (⟨"ThunderAsksModel", "lost", "(I)J"⟩, 28) := ⟨⟨by decide +kernel, by decide +kernel⟩, List.mem_of_getElem? (i := 588) (by decide +kernel), List.mem_of_getElem? (i := 825) (by decide +kernel), List.mem_of_getElem? (i := 826) (by decide +kernel)⟩
theorem lw_p28 : lw_okq (⟨"ThunderAsksModel", "allDangers", "()I"⟩, 28) := ⟨⟨by decide +kernel, by decide +kernel⟩, List.mem_of_getElem? (i := 588) (by decide +kernel), List.mem_of_getElem? (i := 837) (by decide +kernel), List.mem_of_getElem? (i := 838) (by decide +kernel)⟩
theorem lw_p29 : lw_okq (⟨"ThunderAsksModel", "areSo", "()Z"⟩, 28) := ⟨⟨by decide +kernel, by decide +kernel⟩, List.mem_of_getElem? (i := 588) (by decide +kernel), List.mem_of_getElem? (i := 853) (by decide +kernel), List.mem_of_getElem? (i := 854) (by decide +kernel)⟩
theorem lw_p30 : lw_okq (⟨"ThunderAsksModel", "begins", "(I)V"⟩, 28) := ⟨⟨by decide +kernel, by decide +kernel⟩, List.mem_of_getElem? (i := 588) (by decide +kernel), List.mem_of_getElem? (i := 897) (by decide +kernel), List.mem_of_getElem? (i := 898) (by decide +kernel)⟩
def lw_privs_2 : List (MethodName × Nat) := [(⟨"ThunderAsksModel", "isMan", "(I)Z"⟩, 28), (⟨"ThunderAsksModel", "isParish", "(I)Z"⟩, 28), (⟨"ThunderAsksModel", "answerOf", "(II)I"⟩, 28), (⟨"ThunderAsksModel", "right", "(I)I"⟩, 28), (⟨"ThunderAsksModel", "isHeld", "(II)Z"⟩, 28), (⟨"ThunderAsksModel", "dangersOf", "(I)I"⟩, 28), (⟨"ThunderAsksModel", "layStorm", "(IIII)I"⟩, 28), (⟨"ThunderAsksModel", "strikesNow", "()I"⟩, 28), (⟨"ThunderAsksModel", "findPlaces", "()I"⟩, 28), (⟨"ThunderAsksModel", "struckWith", "(II)I"⟩, 28), (⟨"ThunderAsksModel", "goOn", "()V"⟩, 28), (⟨"ThunderAsksModel", "lost", "(I)J"⟩, 28), (⟨"ThunderAsksModel", "allDangers", "()I"⟩, 28), (⟨"ThunderAsksModel", "areSo", "()Z"⟩, 28), (⟨"ThunderAsksModel", "begins", "(I)V"⟩, 28)]
theorem lw_r2 : ∀ q ∈ lw_privs_2, lw_okq q := List.forall_mem_cons.mpr ⟨lw_p16, List.forall_mem_cons.mpr ⟨lw_p17, List.forall_mem_cons.mpr ⟨lw_p18, List.forall_mem_cons.mpr ⟨lw_p19, List.forall_mem_cons.mpr ⟨lw_p20, List.forall_mem_cons.mpr ⟨lw_p21, List.forall_mem_cons.mpr ⟨lw_p22, List.forall_mem_cons.mpr ⟨lw_p23, List.forall_mem_cons.mpr ⟨lw_p24, List.forall_mem_cons.mpr ⟨lw_p25, List.forall_mem_cons.mpr ⟨lw_p26, List.forall_mem_cons.mpr ⟨lw_p27, List.forall_mem_cons.mpr ⟨lw_p28, List.forall_mem_cons.mpr ⟨lw_p29, List.forall_mem_cons.mpr ⟨lw_p30, fun _ h => absurd h List.not_mem_nil⟩⟩⟩⟩⟩⟩⟩⟩⟩⟩⟩⟩⟩⟩⟩
def lw_privs : List (MethodName × Nat) := lw_privs_1 ++ (lw_privs_2)
def lw_tbl : List Cond := k2_sels lw_privs ++ tables_1
theorem lw_privs_ok : ∀ q ∈ lw_privs, lw_okq q := by
  show ∀ q ∈ lw_privs_1 ++ (lw_privs_2), lw_okq q
  exact List.forall_mem_append.mpr ⟨lw_r1, lw_r2⟩
/-! ===== BEGIN words of one list among another's, by their places ===== -/
theorem goodIn_r {big : List Cond} (ws : List Cond) (ps : List Nat) (hp : ws = ps.filterMap (fun i => big[i]?)) (h : ws.all goodWord = true) : GoodIn big ws := by
  intro w hw
  have h1 := List.all_eq_true.mp h w hw
  rw [hp] at hw
  obtain ⟨i, -, hi⟩ := List.mem_filterMap.mp hw
  have hm : w ∈ big := by first | exact List.mem_of_getElem? hi | exact List.getElem?_mem hi
  exact ⟨hm, good_of_word h1⟩
theorem goodIn_app {big a b : List Cond} (ha : GoodIn big a) (hb : GoodIn big b) : GoodIn big (a ++ b) := fun w h => (List.mem_append.mp h).elim (ha w) (hb w)
theorem goodIn_ca {big a b : List Cond} {c : Cond} (ha : GoodIn big (c :: a)) (hb : GoodIn big b) : GoodIn big (c :: (a ++ b)) := fun w h => (List.mem_cons.mp h).elim (fun e => ha w (List.mem_cons.mpr (Or.inl e))) (fun h => (List.mem_append.mp h).elim (fun h => ha w (List.mem_cons.mpr (Or.inr h))) (hb w))
theorem goodIn_sub {big ws : List Cond} (hm : ∀ w ∈ ws, w ∈ big) (h : ws.all goodWord = true) : GoodIn big ws := fun w hw => ⟨hm w hw, good_of_word (List.all_eq_true.mp h w hw)⟩
/-! ===== END ===== -/

/-! ===== BEGIN printed: names, fields, word lists, decode rows ===== -/
def RX0 : String := "ThunderAsks$County"
def TX0 : u_T := fun k => match k with
  | 0 => ("ThunderAsks$County", "truth", "I", false)
  | 1 => ("ThunderAsks$County", "parishes", "I", false)
  | 2 => ("ThunderAsks$County", "manCount", "I", false)
  | _ => ("ThunderAsks$County", "men", "[LThunderAsks$Man;", true)
def tyX0 : Nat → FieldType := fun k => match k with
  | 0 => .int
  | 1 => .int
  | 2 => .int
  | _ => .array (.object "ThunderAsks$Man")
abbrev wsX00 : List Cond := u_ws RX0 TX0 4
theorem nmX0 : ∀ a, a < 4 → ∀ b, b < 4 → a ≠ b → (TX0 a).2.1 ≠ (TX0 b).2.1 := by decide +kernel
theorem tyX0_ok : ∀ k, k < 4 → parseFieldDescriptor (TX0 k).2.2.1 = some (tyX0 k) := by decide +kernel
abbrev cX0_init : ByteArray := prog_2_method_1_code
def yX0_init : MethodName := ⟨RX0, "<init>", "()V"⟩
abbrev cX0_isThere : ByteArray := prog_2_method_2_code
def yX0_isThere : MethodName := ⟨RX0, "isThere", "()Z"⟩
abbrev cX0_hasParish : ByteArray := prog_2_method_3_code
def yX0_hasParish : MethodName := ⟨RX0, "hasParish", "(I)Z"⟩
abbrev cX0_manOf : ByteArray := prog_2_method_4_code
def yX0_manOf : MethodName := ⟨RX0, "manOf", "(I)LThunderAsks$Man;"⟩
abbrev cX0_menIn : ByteArray := prog_2_method_5_code
def yX0_menIn : MethodName := ⟨RX0, "menIn", "(I)I"⟩
abbrev cX0_dangersBy : ByteArray := prog_2_method_6_code
def yX0_dangersBy : MethodName := ⟨RX0, "dangersBy", "(I)I"⟩
abbrev cX0_dangersOf : ByteArray := prog_2_method_7_code
def yX0_dangersOf : MethodName := ⟨RX0, "dangersOf", "(I)I"⟩
abbrev cX0_isStruck : ByteArray := prog_2_method_8_code
def yX0_isStruck : MethodName := ⟨RX0, "isStruck", "(II)Z"⟩
abbrev cX0_dangersWithout : ByteArray := prog_2_method_9_code
def yX0_dangersWithout : MethodName := ⟨RX0, "dangersWithout", "(I)I"⟩
abbrev cX0_dangerousFrom : ByteArray := prog_2_method_10_code
def yX0_dangerousFrom : MethodName := ⟨RX0, "dangerousFrom", "(II)I"⟩
def RX1 : String := "ThunderAsks$CountyText"
def TX1 : u_T := fun k => match k with
  | _ => ("", "", "", false)
def tyX1 : Nat → FieldType := fun k => match k with
  | _ => .int
abbrev wsX10 : List Cond := u_ws RX1 TX1 0
theorem nmX1 : ∀ a, a < 0 → ∀ b, b < 0 → a ≠ b → (TX1 a).2.1 ≠ (TX1 b).2.1 := by decide +kernel
theorem tyX1_ok : ∀ k, k < 0 → parseFieldDescriptor (TX1 k).2.2.1 = some (tyX1 k) := by decide +kernel
abbrev cX1_firstFault : ByteArray := prog_3_method_2_code
def yX1_firstFault : MethodName := ⟨RX1, "firstFault", "(LThunderAsks$Sheet;II)I"⟩
abbrev cX1_goesOn : ByteArray := prog_3_method_3_code
def yX1_goesOn : MethodName := ⟨RX1, "goesOn", "(LThunderAsks$Sheet;II)Z"⟩
abbrev cX1_manGoesOn : ByteArray := prog_3_method_4_code
def yX1_manGoesOn : MethodName := ⟨RX1, "manGoesOn", "(LThunderAsks$Sheet;III)Z"⟩
abbrev cX1_isFirstDigit : ByteArray := prog_3_method_5_code
def yX1_isFirstDigit : MethodName := ⟨RX1, "isFirstDigit", "(I)Z"⟩
abbrev cX1_isSecondDigit : ByteArray := prog_3_method_6_code
def yX1_isSecondDigit : MethodName := ⟨RX1, "isSecondDigit", "(II)Z"⟩
abbrev cX1_settle : ByteArray := prog_3_method_7_code
def yX1_settle : MethodName := ⟨RX1, "settle", "(LThunderAsks$Sheet;IILThunderAsks$County;)V"⟩
abbrev cX1_setAt : ByteArray := prog_3_method_8_code
def yX1_setAt : MethodName := ⟨RX1, "setAt", "(LThunderAsks$Sheet;I)I"⟩
abbrev cX1_kindBy : ByteArray := prog_3_method_9_code
def yX1_kindBy : MethodName := ⟨RX1, "kindBy", "(I)I"⟩
def RX2 : String := "ThunderAsks$Man"
def TX2 : u_T := fun k => match k with
  | 0 => ("ThunderAsks$Man", "kind", "I", false)
  | 1 => ("ThunderAsks$Man", "parish", "I", false)
  | _ => ("ThunderAsks$Man", "list", "I", false)
def tyX2 : Nat → FieldType := fun k => match k with
  | 0 => .int
  | 1 => .int
  | _ => .int
abbrev wsX20 : List Cond := u_ws RX2 TX2 3
theorem nmX2 : ∀ a, a < 3 → ∀ b, b < 3 → a ≠ b → (TX2 a).2.1 ≠ (TX2 b).2.1 := by decide +kernel
theorem tyX2_ok : ∀ k, k < 3 → parseFieldDescriptor (TX2 k).2.2.1 = some (tyX2 k) := by decide +kernel
abbrev cX2_init : ByteArray := prog_4_method_1_code
def yX2_init : MethodName := ⟨RX2, "<init>", "()V"⟩
abbrev cX2_rightBy : ByteArray := prog_4_method_2_code
def yX2_rightBy : MethodName := ⟨RX2, "rightBy", "(I)I"⟩
abbrev cX2_wrongBy : ByteArray := prog_4_method_3_code
def yX2_wrongBy : MethodName := ⟨RX2, "wrongBy", "(I)I"⟩
def RX3 : String := "ThunderAsks$Placing"
def TX3 : u_T := fun k => match k with
  | 0 => ("ThunderAsks$Placing", "costs", "[I", true)
  | 1 => ("ThunderAsks$Placing", "crowds", "[I", true)
  | 2 => ("ThunderAsks$Placing", "tried", "[I", true)
  | 3 => ("ThunderAsks$Placing", "best", "[I", true)
  | 4 => ("ThunderAsks$Placing", "parishes", "I", false)
  | 5 => ("ThunderAsks$Placing", "men", "I", false)
  | _ => ("ThunderAsks$Placing", "fewest", "I", false)
def tyX3 : Nat → FieldType := fun k => match k with
  | 0 => .array .int
  | 1 => .array .int
  | 2 => .array .int
  | 3 => .array .int
  | 4 => .int
  | 5 => .int
  | _ => .int
abbrev wsX30 : List Cond := u_ws RX3 TX3 7
theorem nmX3 : ∀ a, a < 7 → ∀ b, b < 7 → a ≠ b → (TX3 a).2.1 ≠ (TX3 b).2.1 := by decide +kernel
theorem tyX3_ok : ∀ k, k < 7 → parseFieldDescriptor (TX3 k).2.2.1 = some (tyX3 k) := by decide +kernel
abbrev cX3_init : ByteArray := prog_5_method_1_code
def yX3_init : MethodName := ⟨RX3, "<init>", "()V"⟩
abbrev cX3_find : ByteArray := prog_5_method_2_code
def yX3_find : MethodName := ⟨RX3, "find", "(LThunderAsks$County;LThunderAsks$Storm;)V"⟩
abbrev cX3_parishOf : ByteArray := prog_5_method_3_code
def yX3_parishOf : MethodName := ⟨RX3, "parishOf", "(I)I"⟩
abbrev cX3_weigh : ByteArray := prog_5_method_4_code
def yX3_weigh : MethodName := ⟨RX3, "weigh", "(LThunderAsks$County;LThunderAsks$Storm;)V"⟩
abbrev cX3_goOn : ByteArray := prog_5_method_5_code
def yX3_goOn : MethodName := ⟨RX3, "goOn", "(LThunderAsks$Placing;II)V"⟩
abbrev cX3_keepIfFewer : ByteArray := prog_5_method_6_code
def yX3_keepIfFewer : MethodName := ⟨RX3, "keepIfFewer", "(I)V"⟩
def RX4 : String := "ThunderAsks$Readings"
def TX4 : u_T := fun k => match k with
  | 0 => ("ThunderAsks$Readings", "count", "I", false)
  | 1 => ("ThunderAsks$Readings", "parishes", "[I", true)
  | 2 => ("ThunderAsks$Readings", "questions", "[I", true)
  | _ => ("ThunderAsks$Readings", "struck", "[Z", true)
def tyX4 : Nat → FieldType := fun k => match k with
  | 0 => .int
  | 1 => .array .int
  | 2 => .array .int
  | _ => .array .boolean
abbrev wsX40 : List Cond := u_ws RX4 TX4 4
theorem nmX4 : ∀ a, a < 4 → ∀ b, b < 4 → a ≠ b → (TX4 a).2.1 ≠ (TX4 b).2.1 := by decide +kernel
theorem tyX4_ok : ∀ k, k < 4 → parseFieldDescriptor (TX4 k).2.2.1 = some (tyX4 k) := by decide +kernel
abbrev cX4_init : ByteArray := prog_6_method_1_code
def yX4_init : MethodName := ⟨RX4, "<init>", "()V"⟩
abbrev cX4_note : ByteArray := prog_6_method_2_code
def yX4_note : MethodName := ⟨RX4, "note", "(IIZ)Z"⟩
abbrev cX4_allSoIn : ByteArray := prog_6_method_3_code
def yX4_allSoIn : MethodName := ⟨RX4, "allSoIn", "(LThunderAsks$County;)Z"⟩
abbrev cX4_likelyTruths : ByteArray := prog_6_method_4_code
def yX4_likelyTruths : MethodName := ⟨RX4, "likelyTruths", "(LThunderAsks$County;)J"⟩
abbrev cX4_likelyParishes : ByteArray := prog_6_method_5_code
def yX4_likelyParishes : MethodName := ⟨RX4, "likelyParishes", "(LThunderAsks$County;LThunderAsks$Man;)I"⟩
abbrev cX4_likelyKinds : ByteArray := prog_6_method_6_code
def yX4_likelyKinds : MethodName := ⟨RX4, "likelyKinds", "(LThunderAsks$County;LThunderAsks$Man;)I"⟩
abbrev cX4_likelyLists : ByteArray := prog_6_method_7_code
def yX4_likelyLists : MethodName := ⟨RX4, "likelyLists", "(LThunderAsks$County;LThunderAsks$Man;)J"⟩
def RX5 : String := "ThunderAsks$Sheet"
def TX5 : u_T := fun k => match k with
  | 0 => ("ThunderAsks$Sheet", "there", "Z", false)
  | 1 => ("ThunderAsks$Sheet", "lane", "I", false)
  | 2 => ("ThunderAsks$Sheet", "size", "I", false)
  | _ => ("ThunderAsks$Sheet", "cells", "[I", true)
def tyX5 : Nat → FieldType := fun k => match k with
  | 0 => .boolean
  | 1 => .int
  | 2 => .int
  | _ => .array .int
abbrev wsX50 : List Cond := u_ws RX5 TX5 4
theorem nmX5 : ∀ a, a < 4 → ∀ b, b < 4 → a ≠ b → (TX5 a).2.1 ≠ (TX5 b).2.1 := by decide +kernel
theorem tyX5_ok : ∀ k, k < 4 → parseFieldDescriptor (TX5 k).2.2.1 = some (tyX5 k) := by decide +kernel
abbrev cX5_init : ByteArray := prog_7_method_1_code
def yX5_init : MethodName := ⟨RX5, "<init>", "()V"⟩
abbrev cX5_renew : ByteArray := prog_7_method_2_code
def yX5_renew : MethodName := ⟨RX5, "renew", "(II)V"⟩
abbrev cX5_hasCells : ByteArray := prog_7_method_3_code
def yX5_hasCells : MethodName := ⟨RX5, "hasCells", "(II)Z"⟩
abbrev cX5_faultOf : ByteArray := prog_7_method_4_code
def yX5_faultOf : MethodName := ⟨RX5, "faultOf", "(III)I"⟩
abbrev cX5_valueAt : ByteArray := prog_7_method_5_code
def yX5_valueAt : MethodName := ⟨RX5, "valueAt", "(I)I"⟩
abbrev cX5_write : ByteArray := prog_7_method_6_code
def yX5_write : MethodName := ⟨RX5, "write", "(II)V"⟩
def RX6 : String := "ThunderAsks$Storm"
def TX6 : u_T := fun k => match k with
  | 0 => ("ThunderAsks$Storm", "size", "I", false)
  | 1 => ("ThunderAsks$Storm", "parishes", "[I", true)
  | _ => ("ThunderAsks$Storm", "questions", "[I", true)
def tyX6 : Nat → FieldType := fun k => match k with
  | 0 => .int
  | 1 => .array .int
  | _ => .array .int
abbrev wsX60 : List Cond := u_ws RX6 TX6 3
theorem nmX6 : ∀ a, a < 3 → ∀ b, b < 3 → a ≠ b → (TX6 a).2.1 ≠ (TX6 b).2.1 := by decide +kernel
theorem tyX6_ok : ∀ k, k < 3 → parseFieldDescriptor (TX6 k).2.2.1 = some (tyX6 k) := by decide +kernel
abbrev cX6_init : ByteArray := prog_8_method_1_code
def yX6_init : MethodName := ⟨RX6, "<init>", "()V"⟩
abbrev cX6_add : ByteArray := prog_8_method_2_code
def yX6_add : MethodName := ⟨RX6, "add", "(II)V"⟩
abbrev cX6_countIn : ByteArray := prog_8_method_3_code
def yX6_countIn : MethodName := ⟨RX6, "countIn", "(LThunderAsks$County;)I"⟩
abbrev cX6_firstIn : ByteArray := prog_8_method_4_code
def yX6_firstIn : MethodName := ⟨RX6, "firstIn", "(LThunderAsks$County;)I"⟩
abbrev cX6_struckIn : ByteArray := prog_8_method_5_code
def yX6_struckIn : MethodName := ⟨RX6, "struckIn", "(LThunderAsks$County;)I"⟩
def RX7 : String := "ThunderAsks"
def TX7 : u_T := fun k => match k with
  | 0 => ("ThunderAsks", "sheets", "[LThunderAsks$Sheet;", true)
  | 1 => ("ThunderAsks", "land", "LThunderAsks$County;", true)
  | 2 => ("ThunderAsks", "readings", "LThunderAsks$Readings;", true)
  | 3 => ("ThunderAsks", "storm", "LThunderAsks$Storm;", true)
  | 4 => ("ThunderAsks", "placing", "LThunderAsks$Placing;", true)
  | 5 => ("ThunderAsks", "trace", "I", false)
  | _ => ("ThunderAsks", "fault", "I", false)
def tyX7 : Nat → FieldType := fun k => match k with
  | 0 => .array (.object "ThunderAsks$Sheet")
  | 1 => .object "ThunderAsks$County"
  | 2 => .object "ThunderAsks$Readings"
  | 3 => .object "ThunderAsks$Storm"
  | 4 => .object "ThunderAsks$Placing"
  | 5 => .int
  | _ => .int
abbrev wsX70 : List Cond := u_ws RX7 TX7 7
theorem nmX7 : ∀ a, a < 7 → ∀ b, b < 7 → a ≠ b → (TX7 a).2.1 ≠ (TX7 b).2.1 := by decide +kernel
theorem tyX7_ok : ∀ k, k < 7 → parseFieldDescriptor (TX7 k).2.2.1 = some (tyX7 k) := by decide +kernel
abbrev cX7_init : ByteArray := prog_1_method_1_code
def yX7_init : MethodName := ⟨RX7, "<init>", "()V"⟩
abbrev cX7_county : ByteArray := prog_1_method_2_code
def yX7_county : MethodName := ⟨RX7, "county", "(IIII)I"⟩
abbrev cX7_ofMan : ByteArray := prog_1_method_3_code
def yX7_ofMan : MethodName := ⟨RX7, "ofMan", "(II)I"⟩
abbrev cX7_truth : ByteArray := prog_1_method_4_code
def yX7_truth : MethodName := ⟨RX7, "truth", "(I)I"⟩
abbrev cX7_stand : ByteArray := prog_1_method_5_code
def yX7_stand : MethodName := ⟨RX7, "stand", "(II)I"⟩
abbrev cX7_learn : ByteArray := prog_1_method_6_code
def yX7_learn : MethodName := ⟨RX7, "learn", "(II)I"⟩
abbrev cX7_answer : ByteArray := prog_1_method_7_code
def yX7_answer : MethodName := ⟨RX7, "answer", "(II)I"⟩
abbrev cX7_strikes : ByteArray := prog_1_method_8_code
def yX7_strikes : MethodName := ⟨RX7, "strikes", "(II)I"⟩
abbrev cX7_dangers : ByteArray := prog_1_method_9_code
def yX7_dangers : MethodName := ⟨RX7, "dangers", "(I)I"⟩
abbrev cX7_storm : ByteArray := prog_1_method_10_code
def yX7_storm : MethodName := ⟨RX7, "storm", "(IIIII)I"⟩
abbrev cX7_place : ByteArray := prog_1_method_11_code
def yX7_place : MethodName := ⟨RX7, "place", "(IIIII)I"⟩
abbrev cX7_teach : ByteArray := prog_1_method_12_code
def yX7_teach : MethodName := ⟨RX7, "teach", "(IIIII)I"⟩
abbrev cX7_worst : ByteArray := prog_1_method_13_code
def yX7_worst : MethodName := ⟨RX7, "worst", "(II)I"⟩
abbrev cX7_fair : ByteArray := prog_1_method_14_code
def yX7_fair : MethodName := ⟨RX7, "fair", "(IIIII)J"⟩
abbrev cX7_worth : ByteArray := prog_1_method_15_code
def yX7_worth : MethodName := ⟨RX7, "worth", "(I)I"⟩
abbrev cX7_reading : ByteArray := prog_1_method_16_code
def yX7_reading : MethodName := ⟨RX7, "reading", "(IIZ)I"⟩
abbrev cX7_back : ByteArray := prog_1_method_17_code
def yX7_back : MethodName := ⟨RX7, "back", "(I)I"⟩
abbrev cX7_truths : ByteArray := prog_1_method_18_code
def yX7_truths : MethodName := ⟨RX7, "truths", "(I)I"⟩
abbrev cX7_stood : ByteArray := prog_1_method_19_code
def yX7_stood : MethodName := ⟨RX7, "stood", "(I)I"⟩
abbrev cX7_kinds : ByteArray := prog_1_method_20_code
def yX7_kinds : MethodName := ⟨RX7, "kinds", "(I)I"⟩
abbrev cX7_knew : ByteArray := prog_1_method_21_code
def yX7_knew : MethodName := ⟨RX7, "knew", "(II)I"⟩
abbrev cX7_odds : ByteArray := prog_1_method_22_code
def yX7_odds : MethodName := ⟨RX7, "odds", "(III)J"⟩
abbrev cX7_sheet : ByteArray := prog_1_method_23_code
def yX7_sheet : MethodName := ⟨RX7, "sheet", "(III)I"⟩
abbrev cX7_lose : ByteArray := prog_1_method_24_code
def yX7_lose : MethodName := ⟨RX7, "lose", "(I)I"⟩
abbrev cX7_put : ByteArray := prog_1_method_25_code
def yX7_put : MethodName := ⟨RX7, "put", "(III)I"⟩
abbrev cX7_cell : ByteArray := prog_1_method_26_code
def yX7_cell : MethodName := ⟨RX7, "cell", "(III)J"⟩
abbrev cX7_copy : ByteArray := prog_1_method_27_code
def yX7_copy : MethodName := ⟨RX7, "copy", "(IIIII)I"⟩
abbrev cX7_tell : ByteArray := prog_1_method_28_code
def yX7_tell : MethodName := ⟨RX7, "tell", "(I)I"⟩
abbrev cX7_hail : ByteArray := prog_1_method_29_code
def yX7_hail : MethodName := ⟨RX7, "hail", "(I)I"⟩
abbrev cX7_as : ByteArray := prog_1_method_30_code
def yX7_as : MethodName := ⟨RX7, "as", "(II)I"⟩
abbrev cX7_trace : ByteArray := prog_1_method_31_code
def yX7_trace : MethodName := ⟨RX7, "trace", "()I"⟩
abbrev cX7_fault : ByteArray := prog_1_method_32_code
def yX7_fault : MethodName := ⟨RX7, "fault", "()I"⟩
abbrev cX7_many : ByteArray := prog_1_method_33_code
def yX7_many : MethodName := ⟨RX7, "many", "(I)I"⟩
abbrev cX7_sheetOf : ByteArray := prog_1_method_34_code
def yX7_sheetOf : MethodName := ⟨RX7, "sheetOf", "(I)LThunderAsks$Sheet;"⟩
abbrev cX7_faulty : ByteArray := prog_1_method_35_code
def yX7_faulty : MethodName := ⟨RX7, "faulty", "(I)I"⟩
abbrev cX7_hearStorm : ByteArray := prog_1_method_36_code
def yX7_hearStorm : MethodName := ⟨RX7, "hearStorm", "(IIIIZ)I"⟩
abbrev cX7_hearPairs : ByteArray := prog_1_method_37_code
def yX7_hearPairs : MethodName := ⟨RX7, "hearPairs", "(LThunderAsks$Sheet;II)I"⟩
abbrev cX7_lessons : ByteArray := prog_1_method_38_code
def yX7_lessons : MethodName := ⟨RX7, "lessons", "(LThunderAsks$Man;)J"⟩
abbrev cX7_stepsOver : ByteArray := prog_1_method_39_code
def yX7_stepsOver : MethodName := ⟨RX7, "stepsOver", "(III)I"⟩
abbrev cX7_manTells : ByteArray := prog_1_method_40_code
def yX7_manTells : MethodName := ⟨RX7, "manTells", "(LThunderAsks$Man;)I"⟩
abbrev cX7_boldTells : ByteArray := prog_1_method_41_code
def yX7_boldTells : MethodName := ⟨RX7, "boldTells", "(LThunderAsks$Man;)I"⟩
abbrev cX7_spitefulTells : ByteArray := prog_1_method_42_code
def yX7_spitefulTells : MethodName := ⟨RX7, "spitefulTells", "(LThunderAsks$Man;)I"⟩
abbrev cX7_begin : ByteArray := prog_1_method_43_code
def yX7_begin : MethodName := ⟨RX7, "begin", "(I)V"⟩
abbrev cX7_isLane : ByteArray := prog_1_method_44_code
def yX7_isLane : MethodName := ⟨RX7, "isLane", "(I)Z"⟩
abbrev cX7_isSet : ByteArray := prog_1_method_45_code
def yX7_isSet : MethodName := ⟨RX7, "isSet", "(I)Z"⟩
abbrev cX7_isQuestion : ByteArray := prog_1_method_46_code
def yX7_isQuestion : MethodName := ⟨RX7, "isQuestion", "(I)Z"⟩
abbrev cX7_isWhich : ByteArray := prog_1_method_47_code
def yX7_isWhich : MethodName := ⟨RX7, "isWhich", "(I)Z"⟩
abbrev cX7_holds : ByteArray := prog_1_method_48_code
def yX7_holds : MethodName := ⟨RX7, "holds", "(II)Z"⟩
abbrev cX7_holdsSet : ByteArray := prog_1_method_49_code
def yX7_holdsSet : MethodName := ⟨RX7, "holdsSet", "(JI)Z"⟩
abbrev cX7_leastOf : ByteArray := prog_1_method_50_code
def yX7_leastOf : MethodName := ⟨RX7, "leastOf", "(J)I"⟩
abbrev cX7_countHolding : ByteArray := prog_1_method_51_code
def yX7_countHolding : MethodName := ⟨RX7, "countHolding", "(JI)I"⟩
abbrev cX7_fewestQuestions : ByteArray := prog_1_method_52_code
def yX7_fewestQuestions : MethodName := ⟨RX7, "fewestQuestions", "(J)I"⟩
abbrev cX7_inLeastTerms : ByteArray := prog_1_method_53_code
def yX7_inLeastTerms : MethodName := ⟨RX7, "inLeastTerms", "(JJI)J"⟩
abbrev cX7_commonDivisor : ByteArray := prog_1_method_54_code
def yX7_commonDivisor : MethodName := ⟨RX7, "commonDivisor", "(JJ)J"⟩
def RX8 : String := "ThunderAsksModel"
def TX8 : u_T := fun k => match k with
  | 0 => ("ThunderAsksModel", "fault", "I", false)
  | 1 => ("ThunderAsksModel", "trace", "I", false)
  | 2 => ("ThunderAsksModel", "sorts", "[I", true)
  | 3 => ("ThunderAsksModel", "sheetLong", "[I", true)
  | 4 => ("ThunderAsksModel", "cells", "[I", true)
  | 5 => ("ThunderAsksModel", "truth", "I", false)
  | 6 => ("ThunderAsksModel", "parishes", "I", false)
  | 7 => ("ThunderAsksModel", "men", "I", false)
  | 8 => ("ThunderAsksModel", "kind", "[I", true)
  | 9 => ("ThunderAsksModel", "place", "[I", true)
  | 10 => ("ThunderAsksModel", "list", "[I", true)
  | 11 => ("ThunderAsksModel", "silent", "I", false)
  | 12 => ("ThunderAsksModel", "at", "I", false)
  | 13 => ("ThunderAsksModel", "readTruth", "I", false)
  | 14 => ("ThunderAsksModel", "readParishes", "I", false)
  | 15 => ("ThunderAsksModel", "readMany", "I", false)
  | 16 => ("ThunderAsksModel", "read", "[I", true)
  | 17 => ("ThunderAsksModel", "storm", "I", false)
  | 18 => ("ThunderAsksModel", "stormIn", "[I", true)
  | 19 => ("ThunderAsksModel", "stormBy", "[I", true)
  | 20 => ("ThunderAsksModel", "kept", "[I", true)
  | 21 => ("ThunderAsksModel", "found", "[I", true)
  | 22 => ("ThunderAsksModel", "canBe", "[Z", true)
  | 23 => ("ThunderAsksModel", "then", "[Z", true)
  | 24 => ("ThunderAsksModel", "readings", "I", false)
  | 25 => ("ThunderAsksModel", "readParish", "[I", true)
  | 26 => ("ThunderAsksModel", "readQuestion", "[I", true)
  | _ => ("ThunderAsksModel", "readStruck", "[Z", true)
def tyX8 : Nat → FieldType := fun k => match k with
  | 0 => .int
  | 1 => .int
  | 2 => .array .int
  | 3 => .array .int
  | 4 => .array .int
  | 5 => .int
  | 6 => .int
  | 7 => .int
  | 8 => .array .int
  | 9 => .array .int
  | 10 => .array .int
  | 11 => .int
  | 12 => .int
  | 13 => .int
  | 14 => .int
  | 15 => .int
  | 16 => .array .int
  | 17 => .int
  | 18 => .array .int
  | 19 => .array .int
  | 20 => .array .int
  | 21 => .array .int
  | 22 => .array .boolean
  | 23 => .array .boolean
  | 24 => .int
  | 25 => .array .int
  | 26 => .array .int
  | _ => .array .boolean
abbrev wsX80 : List Cond := u_ws RX8 TX8 28
theorem nmX8 : ∀ a, a < 28 → ∀ b, b < 28 → a ≠ b → (TX8 a).2.1 ≠ (TX8 b).2.1 := by decide +kernel
theorem tyX8_ok : ∀ k, k < 28 → parseFieldDescriptor (TX8 k).2.2.1 = some (tyX8 k) := by decide +kernel
abbrev cX8_init : ByteArray := prog_10_method_1_code
def yX8_init : MethodName := ⟨RX8, "<init>", "()V"⟩
abbrev cX8_fails : ByteArray := prog_10_method_3_code
def yX8_fails : MethodName := ⟨RX8, "fails", "(I)I"⟩
abbrev cX8_lost : ByteArray := prog_10_method_4_code
def yX8_lost : MethodName := ⟨RX8, "lost", "(I)J"⟩
abbrev cX8_within : ByteArray := prog_10_method_5_code
def yX8_within : MethodName := ⟨RX8, "within", "(III)Z"⟩
abbrev cX8_isSheet : ByteArray := prog_10_method_6_code
def yX8_isSheet : MethodName := ⟨RX8, "isSheet", "(I)Z"⟩
abbrev cX8_isSort : ByteArray := prog_10_method_7_code
def yX8_isSort : MethodName := ⟨RX8, "isSort", "(I)Z"⟩
abbrev cX8_against : ByteArray := prog_10_method_8_code
def yX8_against : MethodName := ⟨RX8, "against", "(IIII)I"⟩
abbrev cX8_isMan : ByteArray := prog_10_method_9_code
def yX8_isMan : MethodName := ⟨RX8, "isMan", "(I)Z"⟩
abbrev cX8_isParish : ByteArray := prog_10_method_10_code
def yX8_isParish : MethodName := ⟨RX8, "isParish", "(I)Z"⟩
abbrev cX8_isQuestion : ByteArray := prog_10_method_11_code
def yX8_isQuestion : MethodName := ⟨RX8, "isQuestion", "(I)Z"⟩
abbrev cX8_isSet : ByteArray := prog_10_method_12_code
def yX8_isSet : MethodName := ⟨RX8, "isSet", "(I)Z"⟩
abbrev cX8_digit : ByteArray := prog_10_method_13_code
def yX8_digit : MethodName := ⟨RX8, "digit", "(III)I"⟩
abbrev cX8_isSign : ByteArray := prog_10_method_14_code
def yX8_isSign : MethodName := ⟨RX8, "isSign", "(II)Z"⟩
abbrev cX8_readSet : ByteArray := prog_10_method_15_code
def yX8_readSet : MethodName := ⟨RX8, "readSet", "(I)I"⟩
abbrev cX8_county : ByteArray := prog_10_method_16_code
def yX8_county : MethodName := ⟨RX8, "county", "(IIII)I"⟩
abbrev cX8_readCounty : ByteArray := prog_10_method_17_code
def yX8_readCounty : MethodName := ⟨RX8, "readCounty", "(I)Z"⟩
abbrev cX8_readMan : ByteArray := prog_10_method_18_code
def yX8_readMan : MethodName := ⟨RX8, "readMan", "(I)Z"⟩
abbrev cX8_ofMan : ByteArray := prog_10_method_19_code
def yX8_ofMan : MethodName := ⟨RX8, "ofMan", "(II)I"⟩
abbrev cX8_truth : ByteArray := prog_10_method_20_code
def yX8_truth : MethodName := ⟨RX8, "truth", "(I)I"⟩
abbrev cX8_stand : ByteArray := prog_10_method_21_code
def yX8_stand : MethodName := ⟨RX8, "stand", "(II)I"⟩
abbrev cX8_learn : ByteArray := prog_10_method_22_code
def yX8_learn : MethodName := ⟨RX8, "learn", "(II)I"⟩
abbrev cX8_right : ByteArray := prog_10_method_23_code
def yX8_right : MethodName := ⟨RX8, "right", "(I)I"⟩
abbrev cX8_answerOf : ByteArray := prog_10_method_24_code
def yX8_answerOf : MethodName := ⟨RX8, "answerOf", "(II)I"⟩
abbrev cX8_answer : ByteArray := prog_10_method_25_code
def yX8_answer : MethodName := ⟨RX8, "answer", "(II)I"⟩
abbrev cX8_isHeld : ByteArray := prog_10_method_26_code
def yX8_isHeld : MethodName := ⟨RX8, "isHeld", "(II)Z"⟩
abbrev cX8_strikes : ByteArray := prog_10_method_27_code
def yX8_strikes : MethodName := ⟨RX8, "strikes", "(II)I"⟩
abbrev cX8_dangersOf : ByteArray := prog_10_method_28_code
def yX8_dangersOf : MethodName := ⟨RX8, "dangersOf", "(I)I"⟩
abbrev cX8_dangers : ByteArray := prog_10_method_29_code
def yX8_dangers : MethodName := ⟨RX8, "dangers", "(I)I"⟩
abbrev cX8_layStorm : ByteArray := prog_10_method_30_code
def yX8_layStorm : MethodName := ⟨RX8, "layStorm", "(IIII)I"⟩
abbrev cX8_isRow : ByteArray := prog_10_method_31_code
def yX8_isRow : MethodName := ⟨RX8, "isRow", "(II)Z"⟩
abbrev cX8_strikesNow : ByteArray := prog_10_method_32_code
def yX8_strikesNow : MethodName := ⟨RX8, "strikesNow", "()I"⟩
abbrev cX8_storm : ByteArray := prog_10_method_33_code
def yX8_storm : MethodName := ⟨RX8, "storm", "(IIIII)I"⟩
abbrev cX8_findPlaces : ByteArray := prog_10_method_34_code
def yX8_findPlaces : MethodName := ⟨RX8, "findPlaces", "()I"⟩
abbrev cX8_place : ByteArray := prog_10_method_35_code
def yX8_place : MethodName := ⟨RX8, "place", "(IIIII)I"⟩
abbrev cX8_size : ByteArray := prog_10_method_36_code
def yX8_size : MethodName := ⟨RX8, "size", "(I)I"⟩
abbrev cX8_teach : ByteArray := prog_10_method_37_code
def yX8_teach : MethodName := ⟨RX8, "teach", "(IIIII)I"⟩
abbrev cX8_struckWith : ByteArray := prog_10_method_38_code
def yX8_struckWith : MethodName := ⟨RX8, "struckWith", "(II)I"⟩
abbrev cX8_goOn : ByteArray := prog_10_method_39_code
def yX8_goOn : MethodName := ⟨RX8, "goOn", "()V"⟩
abbrev cX8_worst : ByteArray := prog_10_method_40_code
def yX8_worst : MethodName := ⟨RX8, "worst", "(II)I"⟩
abbrev cX8_inLeastTerms : ByteArray := prog_10_method_41_code
def yX8_inLeastTerms : MethodName := ⟨RX8, "inLeastTerms", "(JJI)J"⟩
abbrev cX8_fair : ByteArray := prog_10_method_42_code
def yX8_fair : MethodName := ⟨RX8, "fair", "(IIIII)J"⟩
abbrev cX8_allDangers : ByteArray := prog_10_method_43_code
def yX8_allDangers : MethodName := ⟨RX8, "allDangers", "()I"⟩
abbrev cX8_worth : ByteArray := prog_10_method_44_code
def yX8_worth : MethodName := ⟨RX8, "worth", "(I)I"⟩
abbrev cX8_reading : ByteArray := prog_10_method_45_code
def yX8_reading : MethodName := ⟨RX8, "reading", "(IIZ)I"⟩
abbrev cX8_back : ByteArray := prog_10_method_46_code
def yX8_back : MethodName := ⟨RX8, "back", "(I)I"⟩
abbrev cX8_areSo : ByteArray := prog_10_method_47_code
def yX8_areSo : MethodName := ⟨RX8, "areSo", "()Z"⟩
abbrev cX8_truths : ByteArray := prog_10_method_48_code
def yX8_truths : MethodName := ⟨RX8, "truths", "(I)I"⟩
abbrev cX8_stood : ByteArray := prog_10_method_49_code
def yX8_stood : MethodName := ⟨RX8, "stood", "(I)I"⟩
abbrev cX8_kinds : ByteArray := prog_10_method_50_code
def yX8_kinds : MethodName := ⟨RX8, "kinds", "(I)I"⟩
abbrev cX8_knew : ByteArray := prog_10_method_51_code
def yX8_knew : MethodName := ⟨RX8, "knew", "(II)I"⟩
abbrev cX8_odds : ByteArray := prog_10_method_52_code
def yX8_odds : MethodName := ⟨RX8, "odds", "(III)J"⟩
abbrev cX8_sheet : ByteArray := prog_10_method_53_code
def yX8_sheet : MethodName := ⟨RX8, "sheet", "(III)I"⟩
abbrev cX8_lose : ByteArray := prog_10_method_54_code
def yX8_lose : MethodName := ⟨RX8, "lose", "(I)I"⟩
abbrev cX8_put : ByteArray := prog_10_method_55_code
def yX8_put : MethodName := ⟨RX8, "put", "(III)I"⟩
abbrev cX8_cell : ByteArray := prog_10_method_56_code
def yX8_cell : MethodName := ⟨RX8, "cell", "(III)J"⟩
abbrev cX8_copy : ByteArray := prog_10_method_57_code
def yX8_copy : MethodName := ⟨RX8, "copy", "(IIIII)I"⟩
abbrev cX8_begins : ByteArray := prog_10_method_58_code
def yX8_begins : MethodName := ⟨RX8, "begins", "(I)V"⟩
abbrev cX8_tell : ByteArray := prog_10_method_59_code
def yX8_tell : MethodName := ⟨RX8, "tell", "(I)I"⟩
abbrev cX8_hail : ByteArray := prog_10_method_60_code
def yX8_hail : MethodName := ⟨RX8, "hail", "(I)I"⟩
abbrev cX8_as : ByteArray := prog_10_method_61_code
def yX8_as : MethodName := ⟨RX8, "as", "(II)I"⟩
abbrev cX8_trace : ByteArray := prog_10_method_62_code
def yX8_trace : MethodName := ⟨RX8, "trace", "()I"⟩
abbrev cX8_fault : ByteArray := prog_10_method_63_code
def yX8_fault : MethodName := ⟨RX8, "fault", "()I"⟩
abbrev cX8_many : ByteArray := prog_10_method_64_code
def yX8_many : MethodName := ⟨RX8, "many", "(I)I"⟩
def RJ6 : String := "java/lang/Integer"
def TJ6 : u_T := fun k => match k with
  | _ => ("", "", "", false)
def tyJ6 : Nat → FieldType := fun k => match k with
  | _ => .int
abbrev wsJ60 : List Cond := u_ws RJ6 TJ6 0
theorem nmJ6 : ∀ a, a < 0 → ∀ b, b < 0 → a ≠ b → (TJ6 a).2.1 ≠ (TJ6 b).2.1 := by decide +kernel
theorem tyJ6_ok : ∀ k, k < 0 → parseFieldDescriptor (TJ6 k).2.2.1 = some (tyJ6 k) := by decide +kernel
abbrev cJ6_bitCount_0f7a4 : ByteArray := prog_11_method_49_code
def yJ6_bitCount_0f7a4 : MethodName := ⟨RJ6, "bitCount", "(I)I"⟩
def RJ13 : String := "java/lang/Long"
def TJ13 : u_T := fun k => match k with
  | _ => ("", "", "", false)
def tyJ13 : Nat → FieldType := fun k => match k with
  | _ => .int
abbrev wsJ130 : List Cond := u_ws RJ13 TJ13 0
theorem nmJ13 : ∀ a, a < 0 → ∀ b, b < 0 → a ≠ b → (TJ13 a).2.1 ≠ (TJ13 b).2.1 := by decide +kernel
theorem tyJ13_ok : ∀ k, k < 0 → parseFieldDescriptor (TJ13 k).2.2.1 = some (tyJ13 k) := by decide +kernel
abbrev cJ13_bitCount_95d88 : ByteArray := prog_12_method_50_code
def yJ13_bitCount_95d88 : MethodName := ⟨RJ13, "bitCount", "(J)I"⟩
def RJ9 : String := "java/lang/Math"
def TJ9 : u_T := fun k => match k with
  | _ => ("", "", "", false)
def tyJ9 : Nat → FieldType := fun k => match k with
  | _ => .int
abbrev wsJ90 : List Cond := u_ws RJ9 TJ9 0
theorem nmJ9 : ∀ a, a < 0 → ∀ b, b < 0 → a ≠ b → (TJ9 a).2.1 ≠ (TJ9 b).2.1 := by decide +kernel
theorem tyJ9_ok : ∀ k, k < 0 → parseFieldDescriptor (TJ9 k).2.2.1 = some (tyJ9 k) := by decide +kernel
abbrev cJ9_max_7cf53 : ByteArray := prog_13_method_65_code
def yJ9_max_7cf53 : MethodName := ⟨RJ9, "max", "(II)I"⟩
abbrev cJ9_min_7cf53 : ByteArray := prog_13_method_69_code
def yJ9_min_7cf53 : MethodName := ⟨RJ9, "min", "(II)I"⟩
def RJ10 : String := "java/lang/System"
def TJ10 : u_T := fun k => match k with
  | _ => ("", "", "", false)
def tyJ10 : Nat → FieldType := fun k => match k with
  | _ => .int
abbrev wsJ100 : List Cond := u_ws RJ10 TJ10 0
theorem nmJ10 : ∀ a, a < 0 → ∀ b, b < 0 → a ≠ b → (TJ10 a).2.1 ≠ (TJ10 b).2.1 := by decide +kernel
theorem tyJ10_ok : ∀ k, k < 0 → parseFieldDescriptor (TJ10 k).2.2.1 = some (tyJ10 k) := by decide +kernel
def RJ7 : String := "java/util/Arrays"
def TJ7 : u_T := fun k => match k with
  | _ => ("", "", "", false)
def tyJ7 : Nat → FieldType := fun k => match k with
  | _ => .int
abbrev wsJ70 : List Cond := u_ws RJ7 TJ7 0
theorem nmJ7 : ∀ a, a < 0 → ∀ b, b < 0 → a ≠ b → (TJ7 a).2.1 ≠ (TJ7 b).2.1 := by decide +kernel
theorem tyJ7_ok : ∀ k, k < 0 → parseFieldDescriptor (TJ7 k).2.2.1 = some (tyJ7 k) := by decide +kernel
abbrev cJ7_fill_53178 : ByteArray := prog_15_method_103_code
def yJ7_fill_53178 : MethodName := ⟨RJ7, "fill", "([II)V"⟩
def RL : String := "ThunderAsksLaw"
abbrev cL_law : ByteArray := code
def yL_law : MethodName := ⟨RL, "law", "([I)Z"⟩
abbrev vwCl : List vw_C := [(RX0, TX0, 4), (RX2, TX2, 3), (RX3, TX3, 7), (RX4, TX4, 4), (RX5, TX5, 4), (RX6, TX6, 3), (RX7, TX7, 7), (RX8, TX8, 28)]
/-! ===== END printed: names ===== -/
end
section
/-! ===== an abstract machine over small pictures of the heap, and weakest preconditions over it ===== -/
abbrev ip_H : Type := List va_E
abbrev ip_L : Type := List (Option Value)
abbrev ip_K : Type := Option Value → ip_H → Prop
abbrev ip_C : Type := List Value → ip_H → ip_K → Prop
abbrev ip_P : Type := ip_L → List Value → ip_H → Prop
/-- an instruction: its place, itself, its length, whether a loop begins there, its number, its target -/
abbrev ip_I : Type := Nat × Instr × Nat × Bool × Int32 × Nat
/-- a field's entry: pool number, class, slot, type, whether it may be written -/
abbrev ip_F : Type := Nat × Nat × Nat × FieldType × Bool
/-- a call's entry: pool number, how many values it takes, 0 (static) or the receiver's class and 1, its contract -/
abbrev ip_G : Type := Nat × Nat × Nat × ip_C
def ip_cv (ad : Nat → Nat) : Value → Value
  | .ref k => .ref (ad k)
  | v => v
abbrev ip_A : Type := (Nat → Int32) ⊕ (Nat → Int64) ⊕ (Nat → UInt32) ⊕ (Nat → UInt64) ⊕ (Nat → Option Nat)
def ip_ca (ad : Nat → Nat) : ip_A → ip_A
  | .inr (.inr (.inr (.inr f))) => .inr (.inr (.inr (.inr (fun i => (f i).map ad))))
  | x => x
def ip_ce (ad dA : Nat → Nat) : va_E → va_E
  | .inl (t, n, x) => .inl (dA t, n, ip_ca ad x)
  | .inr (ci, fs) => .inr (ci, fs.map (ip_cv ad))
def ip_cw (ad dA : Nat → Nat) (hp : ip_H) : va_W := hp.mapIdx (fun k e => (ad k, ip_ce ad dA e))
theorem ip_cw_at {ad dA : Nat → Nat} {hp : ip_H} {q : Nat} {e : va_E} (h : hp[q]? = some e) : (ip_cw ad dA hp)[q]? = some (ad q, ip_ce ad dA e) := by
  simp [ip_cw, List.getElem?_mapIdx, h]
theorem ip_cw_set (ad dA : Nat → Nat) (hp : ip_H) (q : Nat) (e : va_E) : ip_cw ad dA (hp.set q e) = (ip_cw ad dA hp).set q (ad q, ip_ce ad dA e) := by
  apply List.ext_getElem?
  intro i
  simp only [ip_cw, List.getElem?_mapIdx, List.getElem?_set, List.length_mapIdx]
  by_cases hi : q = i
  · subst hi
    by_cases hl : q < hp.length <;> simp [hl]
  · simp [hi]
theorem ip_cv_cat (ad : Nat → Nat) (v : Value) : (ip_cv ad v).category = v.category := by cases v <;> rfl
-- locals
def ip_clr (L : ip_L) : Nat → ip_L
  | 0 => L
  | j + 1 => match L[j]? with
    | some (some v) => if v.category = 2 then L.set j none else L
    | _ => L
def ip_st1 (L : ip_L) (i : Nat) (v : Value) : ip_L := (ip_clr L i).set i (some v)
def ip_st2 (L : ip_L) (i : Nat) (v : Value) : ip_L := ((ip_clr L i).set i (some v)).set (i + 1) none
theorem ip_clr_at {L : ip_L} {i j : Nat} {w : Value} (h : (ip_clr L i)[j]? = some (some w)) : L[j]? = some (some w) ∧ ¬ (j + 1 = i ∧ w.category = 2) := by
  cases i with
  | zero => exact ⟨h, fun q => by omega⟩
  | succ k =>
    simp only [ip_clr] at h
    split at h
    · rename_i v hv
      by_cases hc : v.category = 2
      · rw [if_pos hc, List.getElem?_set] at h
        by_cases hk : k = j
        · subst hk
          rw [if_pos rfl] at h
          split at h <;> simp at h
        · rw [if_neg hk] at h
          exact ⟨h, fun q => hk (by omega)⟩
      · rw [if_neg hc] at h
        refine ⟨h, fun q => ?_⟩
        have e : j = k := by omega
        subst e
        rw [h] at hv
        cases hv
        exact hc q.2
    · rename_i hv
      refine ⟨h, fun q => ?_⟩
      have e : j = k := by omega
      subst e
      exact hv w h
theorem ip_clr_len (L : ip_L) (i : Nat) : (ip_clr L i).length = L.length := by
  cases i with
  | zero => rfl
  | succ k =>
    simp only [ip_clr]
    split
    · split <;> simp
    · rfl
def ip_Lh (ad : Nat → Nat) (nL : Nat) (ls : Array Slot) (L : ip_L) : Prop := L.length = nL ∧ ∃ l, lv_has ls nL l ∧ ∀ (j : Nat) (w : Value), L[j]? = some (some w) → (j, ip_cv ad w) ∈ l
theorem ip_Lh.at {ad : Nat → Nat} {nL : Nat} {ls : Array Slot} {L : ip_L} (h : ip_Lh ad nL ls L) {j : Nat} {w : Value} (hj : L[j]? = some (some w)) : ls[j]? = some (.val (ip_cv ad w)) := by
  obtain ⟨-, l, h1, h2⟩ := h
  exact h1.2.2 _ (h2 j w hj)
theorem ip_Lh.size {ad : Nat → Nat} {nL : Nat} {ls : Array Slot} {L : ip_L} (h : ip_Lh ad nL ls L) : ls.size = nL := by
  obtain ⟨-, l, h1, -⟩ := h
  exact h1.1
theorem ip_Lh.st1 {ad : Nat → Nat} {nL : Nat} {ls ls' : Array Slot} {L : ip_L} {l : List (Nat × Value)} {i : Nat} {v : Value} (hn : L.length = nL) (h2 : ∀ (j : Nat) (w : Value), L[j]? = some (some w) → (j, ip_cv ad w) ∈ l)
    (h : lv_has ls' nL ((i, ip_cv ad v) :: l.filter (fun q => !(q.1 == i) && !(q.1 + 1 == i && q.2.category == 2)))) : ip_Lh ad nL ls' (ip_st1 L i v) := by
  refine ⟨by simp [ip_st1, ip_clr_len, hn], _, h, fun j w hj => ?_⟩
  simp only [ip_st1, List.getElem?_set] at hj
  by_cases hi : i = j
  · subst hi
    rw [if_pos rfl] at hj
    split at hj
    · cases hj; exact List.mem_cons_self
    · cases hj
  · rw [if_neg hi] at hj
    obtain ⟨a, b⟩ := ip_clr_at hj
    refine List.mem_cons_of_mem _ (List.mem_filter.mpr ⟨h2 j w a, ?_⟩)
    have hne : (j == i) = false := by simp; omega
    simp only [ip_cv_cat, hne, Bool.not_false, Bool.true_and, Bool.not_eq_true', Bool.and_eq_false_imp, beq_iff_eq]
    intro q
    have : ¬ w.category = 2 := fun z => b ⟨q, z⟩
    simpa using this
theorem ip_Lh.st2 {ad : Nat → Nat} {nL : Nat} {ls ls' : Array Slot} {L : ip_L} {l : List (Nat × Value)} {i : Nat} {v : Value} (hn : L.length = nL) (h2 : ∀ (j : Nat) (w : Value), L[j]? = some (some w) → (j, ip_cv ad w) ∈ l)
    (h : lv_has ls' nL ((i, ip_cv ad v) :: l.filter (fun q => !(q.1 == i) && (!(q.1 == i + 1) && !(q.1 + 1 == i && q.2.category == 2))))) : ip_Lh ad nL ls' (ip_st2 L i v) := by
  refine ⟨by simp [ip_st2, ip_clr_len, hn], _, h, fun j w hj => ?_⟩
  simp only [ip_st2] at hj
  rw [List.getElem?_set] at hj
  by_cases h1 : i + 1 = j
  · rw [if_pos h1] at hj
    split at hj <;> simp at hj
  · rw [if_neg h1, List.getElem?_set] at hj
    by_cases hi : i = j
    · subst hi
      rw [if_pos rfl] at hj
      split at hj
      · cases hj; exact List.mem_cons_self
      · cases hj
    · rw [if_neg hi] at hj
      obtain ⟨a, b⟩ := ip_clr_at hj
      refine List.mem_cons_of_mem _ (List.mem_filter.mpr ⟨h2 j w a, ?_⟩)
      have hne : (j == i) = false := by simp; omega
      have hne2 : (j == i + 1) = false := by simp; omega
      simp only [ip_cv_cat, hne, hne2, Bool.not_false, Bool.true_and, Bool.not_eq_true', Bool.and_eq_false_imp, beq_iff_eq]
      intro q
      have : ¬ w.category = 2 := fun z => b ⟨q, z⟩
      simpa using this
-- what stands on the stack
def ip_i1 (st : List Value) (k : Int32 → List Value → Prop) : Prop := match st with
  | .int x :: r => k x r
  | _ => False
def ip_i2 (st : List Value) (k : Int32 → Int32 → List Value → Prop) : Prop := match st with
  | .int y :: .int x :: r => k x y r
  | _ => False
def ip_l1 (st : List Value) (k : Int64 → List Value → Prop) : Prop := match st with
  | .long x :: r => k x r
  | _ => False
def ip_l2 (st : List Value) (k : Int64 → Int64 → List Value → Prop) : Prop := match st with
  | .long y :: .long x :: r => k x y r
  | _ => False
def ip_li (st : List Value) (k : Int64 → Int32 → List Value → Prop) : Prop := match st with
  | .int y :: .long x :: r => k x y r
  | _ => False
theorem ip_i1_s {st : List Value} {k : Int32 → List Value → Prop} (h : ip_i1 st k) : ∃ x r, st = .int x :: r ∧ k x r := by
  unfold ip_i1 at h
  split at h
  · exact ⟨_, _, rfl, h⟩
  · exact h.elim
theorem ip_i2_s {st : List Value} {k : Int32 → Int32 → List Value → Prop} (h : ip_i2 st k) : ∃ x y r, st = .int y :: .int x :: r ∧ k x y r := by
  unfold ip_i2 at h
  split at h
  · exact ⟨_, _, _, rfl, h⟩
  · exact h.elim
theorem ip_l1_s {st : List Value} {k : Int64 → List Value → Prop} (h : ip_l1 st k) : ∃ x r, st = .long x :: r ∧ k x r := by
  unfold ip_l1 at h
  split at h
  · exact ⟨_, _, rfl, h⟩
  · exact h.elim
theorem ip_l2_s {st : List Value} {k : Int64 → Int64 → List Value → Prop} (h : ip_l2 st k) : ∃ x y r, st = .long y :: .long x :: r ∧ k x y r := by
  unfold ip_l2 at h
  split at h
  · exact ⟨_, _, _, rfl, h⟩
  · exact h.elim
theorem ip_li_s {st : List Value} {k : Int64 → Int32 → List Value → Prop} (h : ip_li st k) : ∃ x y r, st = .int y :: .long x :: r ∧ k x y r := by
  unfold ip_li at h
  split at h
  · exact ⟨_, _, _, rfl, h⟩
  · exact h.elim
def ip_ldi (L : ip_L) (i : Nat) (k : Int32 → Prop) : Prop := match L[i]? with
  | some (some (.int x)) => k x
  | _ => False
def ip_ldl (L : ip_L) (i : Nat) (k : Int64 → Prop) : Prop := match L[i]? with
  | some (some (.long x)) => k x
  | _ => False
def ip_lda (L : ip_L) (i : Nat) (k : Value → Prop) : Prop := match L[i]? with
  | some (some (.ref x)) => k (.ref x)
  | some (some .null) => k .null
  | _ => False
theorem ip_ldi_s {L : ip_L} {i : Nat} {k : Int32 → Prop} (h : ip_ldi L i k) : ∃ x, L[i]? = some (some (.int x)) ∧ k x := by
  unfold ip_ldi at h
  split at h
  · exact ⟨_, by assumption, h⟩
  · exact h.elim
theorem ip_ldl_s {L : ip_L} {i : Nat} {k : Int64 → Prop} (h : ip_ldl L i k) : ∃ x, L[i]? = some (some (.long x)) ∧ k x := by
  unfold ip_ldl at h
  split at h
  · exact ⟨_, by assumption, h⟩
  · exact h.elim
theorem ip_lda_s {L : ip_L} {i : Nat} {k : Value → Prop} (h : ip_lda L i k) : ∃ v, L[i]? = some (some v) ∧ k v ∧ (v = .null ∨ ∃ a, v = .ref a) := by
  unfold ip_lda at h
  split at h
  · exact ⟨_, by assumption, h, Or.inr ⟨_, rfl⟩⟩
  · exact ⟨_, by assumption, h, Or.inl rfl⟩
  · exact h.elim
def ip_a1 (st : List Value) (k : Value → List Value → Prop) : Prop := match st with
  | .ref a :: r => k (.ref a) r
  | .null :: r => k .null r
  | _ => False
theorem ip_a1_s {st : List Value} {k : Value → List Value → Prop} (h : ip_a1 st k) : ∃ v r, st = v :: r ∧ k v r ∧ (v = .null ∨ ∃ a, v = .ref a) := by
  unfold ip_a1 at h
  split at h
  · exact ⟨_, _, rfl, h, Or.inr ⟨_, rfl⟩⟩
  · exact ⟨_, _, rfl, h, Or.inl rfl⟩
  · exact h.elim
def ip_nu (st : List Value) (kn kr : List Value → Prop) : Prop := match st with
  | .ref _ :: r => kr r
  | .null :: r => kn r
  | _ => False
def ip_cmp (c : Jvm.ClassFile.Cond) (x y : Int32) (t f : Prop) : Prop := match c with
  | .eq => (x = y → t) ∧ (¬ x = y → f)
  | .ne => (¬ x = y → t) ∧ (x = y → f)
  | .lt => (x < y → t) ∧ (¬ x < y → f)
  | .ge => (y ≤ x → t) ∧ (¬ y ≤ x → f)
  | .gt => (y < x → t) ∧ (¬ y < x → f)
  | .le => (x ≤ y → t) ∧ (¬ x ≤ y → f)
/-- the tableswitch's ways, one behind another -/
def ip_ts (jp : Nat → Prop) (pc : Nat) (x : Int) (d : Prop) : Int → List Int → Prop
  | lo, [] => (x < lo ∨ lo ≤ x) → d
  | lo, o :: os => (x = lo → jp ((pc : Int) + o).toNat) ∧ (x ≠ lo → ip_ts jp pc x d (lo + 1) os)
def ip_lk (jp : Nat → Prop) (pc : Nat) (x : Int) (d : Int) : List (Int × Int) → Prop
  | [] => jp ((pc : Int) + d).toNat
  | (a, o) :: os => (a = x → jp ((pc : Int) + o).toNat) ∧ (¬ a = x → ip_lk jp pc x d os)
def ip_ok (ty : FieldType) (v : Value) (k : Prop) : Prop := match ty with
  | .int => match v with
    | .int _ => k
    | _ => False
  | .boolean => match v with
    | .int x => (x = 0 ∨ x = 1) ∧ k
    | _ => False
  | _ => False
def ip_gf (fl : List ip_F) (i : Nat) : Option ip_F := match fl with
  | [] => none
  | f :: r => match f.1 == i with
    | true => some f
    | false => ip_gf r i
def ip_gv (cn : List (Nat × Value)) (i : Nat) : Option Value := match cn with
  | [] => none
  | f :: r => match f.1 == i with
    | true => some f.2
    | false => ip_gv r i
def ip_gc (cs : List ip_G) (i : Nat) : Option ip_G := match cs with
  | [] => none
  | f :: r => match f.1 == i with
    | true => some f
    | false => ip_gc r i
/-- an object's cell -/
def ip_ob (hp : ip_H) (q : Nat) (k : Nat → List Value → Prop) : Prop := match hp[q]? with
  | some (.inr (ci, fs)) => k ci fs
  | _ => False
/-- an array of numbers: its type's number, length, contents -/
def ip_ar (hp : ip_H) (q : Nat) (k : Nat → Nat → (Nat → Int32) → Prop) : Prop := match hp[q]? with
  | some (.inl (t, n, .inl f)) => k t n f
  | _ => False
def ip_rr (hp : ip_H) (q : Nat) (k : Nat → Nat → (Nat → Option Nat) → Prop) : Prop := match hp[q]? with
  | some (.inl (t, n, .inr (.inr (.inr (.inr f))))) => k t n f
  | _ => False
theorem ip_ob_s {hp : ip_H} {q : Nat} {k : Nat → List Value → Prop} (h : ip_ob hp q k) : ∃ ci fs, hp[q]? = some (.inr (ci, fs)) ∧ k ci fs := by
  unfold ip_ob at h
  split at h
  · exact ⟨_, _, by assumption, h⟩
  · exact h.elim
theorem ip_ar_s {hp : ip_H} {q : Nat} {k : Nat → Nat → (Nat → Int32) → Prop} (h : ip_ar hp q k) : ∃ t n f, hp[q]? = some (.inl (t, n, .inl f)) ∧ k t n f := by
  unfold ip_ar at h
  split at h
  · exact ⟨_, _, _, by assumption, h⟩
  · exact h.elim
theorem ip_rr_s {hp : ip_H} {q : Nat} {k : Nat → Nat → (Nat → Option Nat) → Prop} (h : ip_rr hp q k) : ∃ t n f, hp[q]? = some (.inl (t, n, .inr (.inr (.inr (.inr f))))) ∧ k t n f := by
  unfold ip_rr at h
  split at h
  · exact ⟨_, _, _, by assumption, h⟩
  · exact h.elim
/-- stack: a reference and what is below it -/
def ip_r1 (st : List Value) (k : Nat → List Value → Prop) : Prop := match st with
  | .ref a :: r => k a r
  | _ => False
def ip_ri (st : List Value) (k : Nat → Int32 → List Value → Prop) : Prop := match st with
  | .int i :: .ref a :: r => k a i r
  | _ => False
def ip_rii (st : List Value) (k : Nat → Int32 → Int32 → List Value → Prop) : Prop := match st with
  | .int x :: .int i :: .ref a :: r => k a i x r
  | _ => False
def ip_vr (st : List Value) (k : Value → Nat → List Value → Prop) : Prop := match st with
  | v :: .ref a :: r => k v a r
  | _ => False
theorem ip_r1_s {st : List Value} {k : Nat → List Value → Prop} (h : ip_r1 st k) : ∃ a r, st = .ref a :: r ∧ k a r := by
  unfold ip_r1 at h
  split at h
  · exact ⟨_, _, rfl, h⟩
  · exact h.elim
theorem ip_ri_s {st : List Value} {k : Nat → Int32 → List Value → Prop} (h : ip_ri st k) : ∃ a i r, st = .int i :: .ref a :: r ∧ k a i r := by
  unfold ip_ri at h
  split at h
  · exact ⟨_, _, _, rfl, h⟩
  · exact h.elim
theorem ip_rii_s {st : List Value} {k : Nat → Int32 → Int32 → List Value → Prop} (h : ip_rii st k) : ∃ a i x r, st = .int x :: .int i :: .ref a :: r ∧ k a i x r := by
  unfold ip_rii at h
  split at h
  · exact ⟨_, _, _, _, rfl, h⟩
  · exact h.elim
theorem ip_vr_s {st : List Value} {k : Value → Nat → List Value → Prop} (h : ip_vr st k) : ∃ v a r, st = v :: .ref a :: r ∧ k v a r := by
  unfold ip_vr at h
  split at h
  · exact ⟨_, _, _, rfl, h⟩
  · exact h.elim
def ip_when (b : Bool) (k : Prop) : Prop := match b with
  | true => k
  | false => False
theorem ip_when_s {b : Bool} {k : Prop} (h : ip_when b k) : b = true ∧ k := by
  cases b with
  | false => exact h.elim
  | true => exact ⟨rfl, h⟩
/-- a call: its values off the stack, the receiver's class as told -/
def ip_call (g : Option ip_G) (virt : Bool) (nx : ip_P) (L : ip_L) (st : List Value) (hp : ip_H) : Prop := match g with
  | none => False
  | some (_, n, kd, C) => ip_when (Nat.ble n st.length && Nat.ble ((st.drop n).map fun v => v.category).sum 8) (match virt with
    | false => ip_when (kd == 0) (C (st.take n).reverse hp (fun r hp' => nx L (r.toList ++ st.drop n) hp'))
    | true => match (st.take n).reverse with
      | .ref q :: as => ip_ob hp q (fun ci _ => ip_when (kd == ci + 1) (C (.ref q :: as) hp (fun r hp' => nx L (r.toList ++ st.drop n) hp')))
      | _ => False)
def ip_ret (rt : Option FieldType) (ty : FieldType) (k : Prop) : Prop := match rt with
  | none => False
  | some t => match decide (t = ty) with
    | true => k
    | false => False
end
section
/-- one instruction: what must hold ahead of it, if nx must behind it, jp at a target -/
def ip_x (fl : List ip_F) (cn : List (Nat × Value)) (cs : List ip_G) (rt : Option FieldType) (K : ip_K) (ins : Instr) (ar : Int32) (tg pc : Nat) (nx : ip_P) (jp : Nat → ip_P) (L : ip_L) (st : List Value) (hp : ip_H) : Prop := match ins with
  | .iconst _ => nx L (.int ar :: st) hp
  | .bipush _ => nx L (.int ar :: st) hp
  | .sipush _ => nx L (.int ar :: st) hp
  | .lconst n => nx L (.long (Int64.ofNat n) :: st) hp
  | .ldc_w i => match ip_gv cn i with
    | some (.int v) => nx L (.int v :: st) hp
    | _ => False
  | .ldc2_w i => match ip_gv cn i with
    | some (.long v) => nx L (.long v :: st) hp
    | _ => False
  | .aconst_null => nx L (.null :: st) hp
  | .iload_n k => ip_ldi L k (fun x => nx L (.int x :: st) hp)
  | .iload k => ip_ldi L k (fun x => nx L (.int x :: st) hp)
  | .lload_n k => ip_ldl L k (fun x => nx L (.long x :: st) hp)
  | .lload k => ip_ldl L k (fun x => nx L (.long x :: st) hp)
  | .aload_n k => ip_lda L k (fun v => nx L (v :: st) hp)
  | .aload k => ip_lda L k (fun v => nx L (v :: st) hp)
  | .istore_n k => ip_i1 st (fun x r => ip_when (Nat.blt k L.length) (nx (ip_st1 L k (.int x)) r hp))
  | .istore k => ip_i1 st (fun x r => ip_when (Nat.blt k L.length) (nx (ip_st1 L k (.int x)) r hp))
  | .lstore_n k => ip_l1 st (fun x r => ip_when (Nat.blt (k + 1) L.length) (nx (ip_st2 L k (.long x)) r hp))
  | .lstore k => ip_l1 st (fun x r => ip_when (Nat.blt (k + 1) L.length) (nx (ip_st2 L k (.long x)) r hp))
  | .astore_n k => ip_a1 st (fun v r => ip_when (Nat.blt k L.length) (nx (ip_st1 L k v) r hp))
  | .astore k => ip_a1 st (fun v r => ip_when (Nat.blt k L.length) (nx (ip_st1 L k v) r hp))
  | .iinc k _ => ip_ldi L k (fun x => ip_when (Nat.blt k L.length) (nx (ip_st1 L k (.int (x + ar))) st hp))
  | .iadd => ip_i2 st (fun x y r => nx L (.int (x + y) :: r) hp)
  | .isub => ip_i2 st (fun x y r => nx L (.int (x - y) :: r) hp)
  | .imul => ip_i2 st (fun x y r => nx L (.int (x * y) :: r) hp)
  | .iand => ip_i2 st (fun x y r => nx L (.int (x &&& y) :: r) hp)
  | .ior => ip_i2 st (fun x y r => nx L (.int (x ||| y) :: r) hp)
  | .ixor => ip_i2 st (fun x y r => nx L (.int (x ^^^ y) :: r) hp)
  | .idiv => ip_i2 st (fun x y r => ¬ y = 0 ∧ nx L (.int (x / y) :: r) hp)
  | .irem => ip_i2 st (fun x y r => ¬ y = 0 ∧ nx L (.int (x - x / y * y) :: r) hp)
  | .ishl => ip_i2 st (fun x y r => nx L (.int (x <<< (y &&& 31)) :: r) hp)
  | .ishr => ip_i2 st (fun x y r => nx L (.int (x >>> (y &&& 31)) :: r) hp)
  | .iushr => ip_i2 st (fun x y r => nx L (.int (x.toUInt32 >>> (y.toUInt32 &&& Int32.toUInt32 31)).toInt32 :: r) hp)
  | .ladd => ip_l2 st (fun x y r => nx L (.long (x + y) :: r) hp)
  | .lsub => ip_l2 st (fun x y r => nx L (.long (x - y) :: r) hp)
  | .lmul => ip_l2 st (fun x y r => nx L (.long (x * y) :: r) hp)
  | .land => ip_l2 st (fun x y r => nx L (.long (x &&& y) :: r) hp)
  | .lor => ip_l2 st (fun x y r => nx L (.long (x ||| y) :: r) hp)
  | .ldiv => ip_l2 st (fun x y r => ¬ y = 0 ∧ nx L (.long (x / y) :: r) hp)
  | .lrem => ip_l2 st (fun x y r => ¬ y = 0 ∧ nx L (.long (x - x / y * y) :: r) hp)
  | .lshl => ip_li st (fun x y r => nx L (.long (x <<< (y.toInt64 &&& 63)) :: r) hp)
  | .lshr => ip_li st (fun x y r => nx L (.long (x >>> (y.toInt64 &&& 63)) :: r) hp)
  | .lushr => ip_li st (fun x y r => nx L (.long (x.toUInt64 >>> (y.toInt64.toUInt64 &&& Int64.toUInt64 63)).toInt64 :: r) hp)
  | .lcmp => ip_l2 st (fun x y r => nx L (.int (lg_cmp x y) :: r) hp)
  | .i2l => ip_i1 st (fun x r => nx L (.long x.toInt64 :: r) hp)
  | .l2i => ip_l1 st (fun x r => nx L (.int x.toInt32 :: r) hp)
  | .i2b => ip_i1 st (fun x r => nx L (.int x.toInt8.toInt32 :: r) hp)
  | .i2s => ip_i1 st (fun x r => nx L (.int x.toInt16.toInt32 :: r) hp)
  | .dup => match st with
    | v :: r => ip_when (Nat.beq v.category 1) (nx L (v :: v :: r) hp)
    | [] => False
  | .dup2 => match st with
    | v :: w :: r => ip_when (Nat.beq v.category 1 && Nat.beq w.category 1) (nx L (v :: w :: v :: w :: r) hp)
    | _ => False
  | .ifCond c _ => ip_i1 st (fun x r => ip_cmp c x 0 (jp tg L r hp) (nx L r hp))
  | .if_icmp c _ => ip_i2 st (fun x y r => ip_cmp c x y (jp tg L r hp) (nx L r hp))
  | .ifnull _ => ip_nu st (fun r => jp tg L r hp) (fun r => nx L r hp)
  | .ifnonnull _ => ip_nu st (fun r => nx L r hp) (fun r => jp tg L r hp)
  | .goto _ => jp tg L st hp
  | .tableswitch d lo _ os => ip_i1 st (fun x r => ip_ts (fun t => jp t L r hp) pc x.toInt (jp ((pc : Int) + d).toNat L r hp) lo os.toList)
  | .lookupswitch d ps => ip_i1 st (fun x r => ip_lk (fun t => jp t L r hp) pc x.toInt d ps.toList)
  | .getfield i => match ip_gf fl i with
    | some (_, ci, k, _, _) => ip_r1 st (fun a r => ip_ob hp a (fun cj fs => ip_when (Nat.beq ci cj) (match fs[k]? with
      | some v => nx L (v :: r) hp
      | none => False)))
    | none => False
  | .putfield i => match ip_gf fl i with
    | some (_, ci, k, ty, true) => ip_vr st (fun v a r => ip_ob hp a (fun cj fs => ip_when (Nat.beq ci cj && Nat.blt k fs.length) (ip_ok ty v (nx L r (hp.set a (.inr (cj, fs.set k v)))))))
    | _ => False
  | .iaload => ip_ri st (fun a i r => ip_ar hp a (fun t n f => ip_when (Nat.beq t 0) (vp_in i n ∧ nx L (.int (f i.toNatClampNeg) :: r) hp)))
  | .baload => ip_ri st (fun a i r => ip_ar hp a (fun t n f => ip_when (Nat.beq t 1) (vp_in i n ∧ nx L (.int (f i.toNatClampNeg) :: r) hp)))
  | .iastore => ip_rii st (fun a i x r => ip_ar hp a (fun t n f => ip_when (Nat.beq t 0) (vp_in i n ∧ nx L r (hp.set a (.inl (t, n, .inl (upd f i.toNatClampNeg x)))))))
  | .bastore => ip_rii st (fun a i x r => ip_ar hp a (fun t n f => ip_when (Nat.beq t 1) (vp_in i n ∧ nx L r (hp.set a (.inl (t, n, .inl (upd f i.toNatClampNeg (vp_nar .boolean x))))))))
  | .aaload => ip_ri st (fun a i r => ip_rr hp a (fun t n f => ip_when (Nat.beq t 2 || Nat.beq t 3) (vp_in i n ∧ nx L (va_rf (f i.toNatClampNeg) :: r) hp)))
  | .arraylength => ip_r1 st (fun a r => ip_ar hp a (fun t n _ => ip_when (Nat.blt t 2) (nx L (.int (Int32.ofNat n) :: r) hp)))
  | .invokestatic i => ip_call (ip_gc cs i) false nx L st hp
  | .invokevirtual i => ip_call (ip_gc cs i) true nx L st hp
  | .ireturn => match rt with
    | some .int => match st with
      | [.int v] => K (some (.int v)) hp
      | _ => False
    | some .boolean => match st with
      | [.int v] => narrow .boolean (.int v) = .int v ∧ K (some (.int v)) hp
      | _ => False
    | _ => False
  | .lreturn => match rt with
    | some .long => match st with
      | [.long v] => K (some (.long v)) hp
      | _ => False
    | _ => False
  | .areturn => match rt with
    | some (.object _) => match st with
      | [.ref a] => K (some (.ref a)) hp
      | [.null] => K (some .null) hp
      | _ => False
    | _ => False
  | .return_ => match rt with
    | none => match st with
      | [] => K none hp
      | _ => False
    | _ => False
  | _ => False
def ip_find (t : Nat) : List ip_I → List ip_I
  | [] => []
  | x :: r => match Nat.beq x.1 t with
    | true => x :: r
    | false => ip_find t r
def ip_lt (k : Nat) : Option Nat → Prop
  | none => True
  | some b => k < b
/-- from an instruction on, until a loop's head or the end -/
def ip_wp (fl : List ip_F) (cn : List (Nat × Value)) (cs : List ip_G) (rt : Option FieldType) (tb : List ip_I) (I : Nat → Nat → ip_P) (K : ip_K) : Nat → Option Nat → Bool → List ip_I → ip_P
  | 0, _, _, _ => fun _ _ _ => False
  | n + 1, b, fr, cur => fun L st hp => match cur with
    | [] => False
    | (pc, ins, _, hd, ar, tg) :: nx => match hd && !fr with
      | true => ∃ k, ip_lt k b ∧ I pc k L st hp
      | false => ip_x fl cn cs rt K ins ar tg pc (ip_wp fl cn cs rt tb I K n b false nx) (fun t => ip_wp fl cn cs rt tb I K n b false (ip_find t tb)) L st hp
/-- an instruction's numbers are those of its own row -/
def ip_nr (ins : Instr) (len : Nat) (ar : Int32) (tg pc : Nat) : Bool := match ins with
  | .iconst n => len == 1 && Int32.ofInt n == ar
  | .bipush n => len == 2 && (Int8.ofInt n).toInt32 == ar
  | .sipush n => len == 3 && (Int16.ofInt n).toInt32 == ar
  | .iinc _ n => len == 3 && Int32.ofInt n == ar
  | .ifCond _ o => len == 3 && (pc : Int) + o == (tg : Int)
  | .if_icmp _ o => len == 3 && (pc : Int) + o == (tg : Int)
  | .ifnull o => len == 3 && (pc : Int) + o == (tg : Int)
  | .ifnonnull o => len == 3 && (pc : Int) + o == (tg : Int)
  | .goto o => len == 3 && (pc : Int) + o == (tg : Int)
  | .tableswitch d lo hi os => decide (0 ≤ (pc : Int) + d) && os.toList.all (fun o => decide (0 ≤ (pc : Int) + o)) && decide (lo + os.toList.length = hi + 1)
  | .lookupswitch d ps => decide (0 ≤ (pc : Int) + d) && ps.toList.all (fun q => decide (0 ≤ (pc : Int) + q.2)) && (ps.toList.zip (ps.toList.drop 1)).all (fun (a, next) => a.1 < next.1)
  | .ldc_w _ => len == 3
  | .ldc2_w _ => len == 3
  | .iload _ => len == 2
  | .lload _ => len == 2
  | .aload _ => len == 2
  | .istore _ => len == 2
  | .lstore _ => len == 2
  | .astore _ => len == 2
  | .getfield _ => len == 3
  | .putfield _ => len == 3
  | .invokestatic _ => len == 3
  | .invokevirtual _ => len == 3
  | _ => len == 1
def ip_chk (cc : ByteArray) : List ip_I → Bool
  | [] => true
  | (pc, ins, len, _, ar, tg) :: r => decide (decode cc pc = .ok (ins, len)) && ip_nr ins len ar tg pc && (match r with
    | [] => true
    | x :: _ => x.1 == pc + len) && ip_chk cc r
end
section
/-! ===== the words that a method may count on; the classes; the fields ===== -/
def ip_ws : List Cond := lw_tbl.filter goodWord
theorem ip_in {ws : List Cond} (ps : List Nat) (h : ws = ps.filterMap (fun i => lw_tbl[i]?)) (hg : ws.all goodWord = true) : ∀ w ∈ ws, w ∈ ip_ws := by
  intro w hw
  refine List.mem_filter.mpr ⟨?_, List.all_eq_true.mp hg w hw⟩
  rw [h] at hw
  obtain ⟨i, -, hi⟩ := List.mem_filterMap.mp hw
  exact List.mem_of_getElem? hi
theorem ip_ws_good : GoodIn ip_ws ip_ws := fun w hw => ⟨hw, good_of_word (List.mem_filter.mp hw).2⟩
theorem ip_ws_tbl : ∀ w ∈ ip_ws, w ∈ lw_tbl := fun w hw => (List.mem_filter.mp hw).1
set_option maxRecDepth 20000 in
theorem ip_inX0 : ∀ w ∈ u_ws RX0 TX0 4, w ∈ ip_ws := ip_in [103, 105, 107, 109] (by decide +kernel) (by decide +kernel)
set_option maxRecDepth 20000 in
theorem ip_inX2 : ∀ w ∈ u_ws RX2 TX2 3, w ∈ ip_ws := ip_in [81, 83, 85] (by decide +kernel) (by decide +kernel)
set_option maxRecDepth 20000 in
theorem ip_inX3 : ∀ w ∈ u_ws RX3 TX3 7, w ∈ ip_ws := ip_in [168, 170, 172, 174, 176, 178, 180] (by decide +kernel) (by decide +kernel)
set_option maxRecDepth 20000 in
theorem ip_inX4 : ∀ w ∈ u_ws RX4 TX4 4, w ∈ ip_ws := ip_in [123, 125, 127, 129] (by decide +kernel) (by decide +kernel)
set_option maxRecDepth 20000 in
theorem ip_inX5 : ∀ w ∈ u_ws RX5 TX5 4, w ∈ ip_ws := ip_in [195, 197, 199, 201] (by decide +kernel) (by decide +kernel)
set_option maxRecDepth 20000 in
theorem ip_inX6 : ∀ w ∈ u_ws RX6 TX6 3, w ∈ ip_ws := ip_in [147, 149, 151] (by decide +kernel) (by decide +kernel)
set_option maxRecDepth 20000 in
theorem ip_inX7 : ∀ w ∈ u_ws RX7 TX7 7, w ∈ ip_ws := ip_in [211, 213, 215, 217, 219, 221, 223] (by decide +kernel) (by decide +kernel)
set_option maxRecDepth 20000 in
theorem ip_inX8 : ∀ w ∈ u_ws RX8 TX8 28, w ∈ ip_ws := ip_in [652, 654, 656, 658, 660, 662, 664, 666, 668, 670, 672, 674, 676, 678, 680, 682, 684, 686, 688, 690, 692, 694, 696, 698, 700, 702, 704, 706] (by decide +kernel) (by decide +kernel)
/-- of a class of the worlds: its words, its fields' types, their names -/
theorem ip_cls {ci : Nat} {q : vw_C} (h : vwCl[ci]? = some q) : (∀ w ∈ u_ws q.1 q.2.1 q.2.2, w ∈ ip_ws) ∧ ∃ ty0 : Nat → FieldType, (∀ k, k < q.2.2 → parseFieldDescriptor (q.2.1 k).2.2.1 = some (ty0 k)) ∧ (∀ a, a < q.2.2 → ∀ b, b < q.2.2 → a ≠ b → (q.2.1 a).2.1 ≠ (q.2.1 b).2.1) := by
  match ci, h with
  | 0, h => cases h; exact ⟨ip_inX0, tyX0, tyX0_ok, nmX0⟩
  | 1, h => cases h; exact ⟨ip_inX2, tyX2, tyX2_ok, nmX2⟩
  | 2, h => cases h; exact ⟨ip_inX3, tyX3, tyX3_ok, nmX3⟩
  | 3, h => cases h; exact ⟨ip_inX4, tyX4, tyX4_ok, nmX4⟩
  | 4, h => cases h; exact ⟨ip_inX5, tyX5, tyX5_ok, nmX5⟩
  | 5, h => cases h; exact ⟨ip_inX6, tyX6, tyX6_ok, nmX6⟩
  | 6, h => cases h; exact ⟨ip_inX7, tyX7, tyX7_ok, nmX7⟩
  | 7, h => cases h; exact ⟨ip_inX8, tyX8, tyX8_ok, nmX8⟩
  | _ + 8, h => simp [vwCl] at h
def ip_fw (own : String) (x : ip_F) : Cond := match vwCl[x.2.1]? with
  | some q => .fieldLink own x.1 (q.2.1 x.2.2.1).1 (q.2.1 x.2.2.1).2.1 (q.2.1 x.2.2.1).2.2.1
  | none => .fieldLink "" 0 "" "" ""
def ip_fc (x : ip_F) : Bool := match vwCl[x.2.1]? with
  | some q => Nat.blt x.2.2.1 q.2.2 && decide (parseFieldDescriptor (q.2.1 x.2.2.1).2.2.1 = some x.2.2.2.1) && (!x.2.2.2.2 || !(q.2.1 x.2.2.1).2.2.2)
  | none => false
def ip_flOk (own : String) (fl : List ip_F) : Prop := ∀ x ∈ fl, ip_fw own x ∈ ip_ws ∧ ip_fc x = true
theorem ip_flOk_of {own : String} {fl : List ip_F} (ps : List Nat) (h : fl.map (ip_fw own) = ps.filterMap (fun i => lw_tbl[i]?)) (hg : (fl.map (ip_fw own)).all goodWord = true) (hc : fl.all ip_fc = true) : ip_flOk own fl := fun x hx =>
  ⟨ip_in ps h hg _ (List.mem_map_of_mem hx), List.all_eq_true.mp hc x hx⟩
def ip_cc (own : String) (x : Nat × Value) : Cond := match x.2 with
  | .int v => .constant own x.1 v
  | .long v => .constantLong own x.1 v
  | _ => .constant "" 0 0
def ip_cnOk (own : String) (cn : List (Nat × Value)) : Prop := ∀ x ∈ cn, ip_cc own x ∈ ip_ws
theorem ip_cnOk_of {own : String} {cn : List (Nat × Value)} (ps : List Nat) (h : cn.map (ip_cc own) = ps.filterMap (fun i => lw_tbl[i]?)) (hg : (cn.map (ip_cc own)).all goodWord = true) : ip_cnOk own cn := fun _ hx => ip_in ps h hg _ (List.mem_map_of_mem hx)
def fl_X7 : List ip_F := [(13, 6, 0, .array (.object "ThunderAsks$Sheet"), false), (20, 6, 1, .object "ThunderAsks$County", false), (27, 6, 2, .object "ThunderAsks$Readings", false), (34, 6, 3, .object "ThunderAsks$Storm", false), (41, 6, 4, .object "ThunderAsks$Placing", false), (46, 6, 6, .int, true), (76, 3, 0, .int, true), (79, 0, 2, .int, true), (86, 1, 0, .int, true), (91, 1, 1, .int, true), (94, 1, 2, .int, true), (104, 0, 0, .int, true), (147, 2, 6, .int, true), (161, 0, 1, .int, true), (236, 4, 0, .boolean, true), (240, 4, 1, .int, true), (249, 4, 3, .array .int, false), (273, 6, 5, .int, true), (279, 5, 0, .int, true)]
set_option maxRecDepth 20000 in
theorem fl_X7_ok : ip_flOk RX7 fl_X7 := ip_flOk_of [204, 205, 206, 207, 208, 210, 119, 98, 70, 73, 78, 89, 167, 96, 189, 191, 194, 209, 142] (by decide +kernel) (by decide +kernel) (by decide +kernel)
def fl_X0 : List ip_F := [(11, 0, 3, .array (.object "ThunderAsks$Man"), false), (18, 0, 1, .int, true), (22, 0, 2, .int, true), (25, 1, 1, .int, true), (32, 0, 0, .int, true)]
set_option maxRecDepth 20000 in
theorem fl_X0_ok : ip_flOk RX0 fl_X0 := ip_flOk_of [101, 92, 99, 75, 90] (by decide +kernel) (by decide +kernel) (by decide +kernel)
def fl_X1 : List ip_F := [(37, 0, 0, .int, true), (43, 0, 1, .int, true), (52, 0, 2, .int, true), (55, 0, 3, .array (.object "ThunderAsks$Man"), false), (62, 1, 0, .int, true), (67, 1, 1, .int, true), (70, 1, 2, .int, true)]
set_option maxRecDepth 20000 in
theorem fl_X1_ok : ip_flOk RX1 fl_X1 := ip_flOk_of [91, 95, 100, 102, 72, 76, 80] (by decide +kernel) (by decide +kernel) (by decide +kernel)
def fl_X2 : List ip_F := [(9, 1, 0, .int, true), (15, 1, 2, .int, true)]
set_option maxRecDepth 20000 in
theorem fl_X2_ok : ip_flOk RX2 fl_X2 := ip_flOk_of [69, 77] (by decide +kernel) (by decide +kernel) (by decide +kernel)
def fl_X3 : List ip_F := [(9, 2, 0, .array .int, false), (15, 2, 1, .array .int, false), (18, 2, 2, .array .int, false), (21, 2, 3, .array .int, false), (24, 0, 1, .int, true), (36, 2, 4, .int, true), (37, 0, 2, .int, true), (40, 2, 5, .int, true), (53, 5, 0, .int, true), (58, 2, 6, .int, true), (69, 5, 1, .array .int, false), (71, 5, 2, .array .int, false)]
set_option maxRecDepth 20000 in
theorem fl_X3_ok : ip_flOk RX3 fl_X3 := ip_flOk_of [160, 161, 162, 163, 93, 164, 97, 165, 141, 166, 144, 146] (by decide +kernel) (by decide +kernel) (by decide +kernel)
def fl_X4 : List ip_F := [(9, 3, 1, .array .int, false), (15, 3, 2, .array .int, false), (18, 3, 3, .array .boolean, false), (22, 3, 0, .int, true), (32, 0, 0, .int, true), (39, 1, 1, .int, true), (44, 0, 1, .int, true), (46, 1, 0, .int, true), (49, 1, 2, .int, true)]
set_option maxRecDepth 20000 in
theorem fl_X4_ok : ip_flOk RX4 fl_X4 := ip_flOk_of [120, 121, 122, 118, 88, 74, 94, 71, 79] (by decide +kernel) (by decide +kernel) (by decide +kernel)
def fl_X5 : List ip_F := [(9, 4, 3, .array .int, false), (15, 4, 0, .boolean, true), (19, 4, 1, .int, true), (32, 4, 2, .int, true)]
set_option maxRecDepth 20000 in
theorem fl_X5_ok : ip_flOk RX5 fl_X5 := ip_flOk_of [193, 188, 190, 192] (by decide +kernel) (by decide +kernel) (by decide +kernel)
def fl_X6 : List ip_F := [(9, 5, 1, .array .int, false), (15, 5, 2, .array .int, false), (18, 5, 0, .int, true)]
set_option maxRecDepth 20000 in
theorem fl_X6_ok : ip_flOk RX6 fl_X6 := ip_flOk_of [143, 145, 140] (by decide +kernel) (by decide +kernel) (by decide +kernel)
def fl_X8 : List ip_F := [(9, 7, 2, .array .int, false), (13, 7, 3, .array .int, false), (16, 7, 4, .array .int, false), (19, 7, 8, .array .int, false), (22, 7, 9, .array .int, false), (25, 7, 10, .array .int, false), (28, 7, 16, .array .int, false), (31, 7, 18, .array .int, false), (34, 7, 19, .array .int, false), (37, 7, 20, .array .int, false), (40, 7, 21, .array .int, false), (43, 7, 22, .array .boolean, false), (47, 7, 23, .array .boolean, false), (50, 7, 25, .array .int, false), (53, 7, 26, .array .int, false), (56, 7, 27, .array .boolean, false), (59, 7, 0, .int, true), (69, 7, 7, .int, true), (72, 7, 6, .int, true), (75, 7, 12, .int, true), (100, 7, 13, .int, true), (103, 7, 5, .int, true), (106, 7, 14, .int, true), (109, 7, 15, .int, true), (112, 7, 24, .int, true), (144, 7, 11, .int, true), (153, 7, 17, .int, true), (195, 7, 1, .int, true)]
set_option maxRecDepth 20000 in
theorem fl_X8_ok : ip_flOk RX8 fl_X8 := ip_flOk_of [626, 627, 628, 632, 633, 634, 640, 642, 643, 644, 645, 646, 647, 649, 650, 651, 624, 631, 630, 636, 637, 629, 638, 639, 648, 635, 641, 625] (by decide +kernel) (by decide +kernel) (by decide +kernel)
def cn_X7 : List (Nat × Value) := [(179, .long (-9223372036854775808)), (189, .long (6))]
set_option maxRecDepth 20000 in
theorem cn_X7_ok : ip_cnOk RX7 cn_X7 := ip_cnOk_of [461, 462] (by decide +kernel) (by decide +kernel)
def cn_X8 : List (Nat × Value) := [(63, .long (-9223372036854775808)), (182, .long (6))]
set_option maxRecDepth 20000 in
theorem cn_X8_ok : ip_cnOk RX8 cn_X8 := ip_cnOk_of [854, 859] (by decide +kernel) (by decide +kernel)
def cn_J6 : List (Nat × Value) := [(265, .int (1431655765)), (266, .int (858993459)), (267, .int (252645135))]
set_option maxRecDepth 20000 in
theorem cn_J6_ok : ip_cnOk RJ6 cn_J6 := ip_cnOk_of [436, 437, 438] (by decide +kernel) (by decide +kernel)
def cn_J13 : List (Nat × Value) := [(314, .long (6148914691236517205)), (316, .long (3689348814741910323)), (318, .long (1085102592571150095))]
set_option maxRecDepth 20000 in
theorem cn_J13_ok : ip_cnOk RJ13 cn_J13 := ip_cnOk_of [506, 507, 508] (by decide +kernel) (by decide +kernel)
end
section
/-! ===== what an instruction of the abstract machine asks for is enough for the machine ===== -/
def ip_tys (dA : Nat → Nat) : List (ClassId × FieldType) := [(dA 0, .int), (dA 1, .boolean), (dA 2, .object "ThunderAsks$Sheet"), (dA 3, .object "ThunderAsks$Man")]
def ip_rel (D : va_G) (ad dA : Nat → Nat) (A : Nat → Prop) (nL : Nat) (s : State) (L : ip_L) (hp : ip_H) (ls : Array Slot) (H : Heap) (locs : List Loc) : Prop := ip_Lh ad nL ls L ∧ va_P D vwCl (ip_cw ad dA hp) H ∧ va_D A (ip_cw ad dA hp) ∧ va_S A s.heap H locs
def ip_W (p : Program) (l : Launch) (e : Env) (R : Room) (s : State) (m : MethodId) (args : Array Value) (below : List Frame) (meth : Method) (c : Code) (cells slots : Nat) (Q : State → Prop) (nL : Nat) (D : va_G) (ad dA : Nat → Nat) (A : Nat → Prop) (pc : Nat) (P : ip_P) : Prop :=
  ∀ (L : ip_L) (st : List Value) (hp : ip_H) (ls : Array Slot) (H : Heap) (locs : List Loc), ip_rel D ad dA A nL s L hp ls H locs → P L st hp → W p l e R s m args below meth c H locs cells slots Q (F0 m pc ls (st.map (ip_cv ad)))
/-- a call's entry is sound -/
def ip_CS (p : Program) (l : Launch) (e : Env) (R : Room) (s : State) (m : MethodId) (args : Array Value) (below : List Frame) (meth : Method) (c : Code) (cells slots : Nat) (Q : State → Prop) (cc : ByteArray) (nL : Nat) (D : va_G) (ad dA : Nat → Nat) (A : Nat → Prop) (g : ip_G) : Prop :=
  ∀ (pc : Nat) (L : ip_L) (As rest : List Value) (hp : ip_H) (ls : Array Slot) (H : Heap) (locs : List Loc) (K' : ip_K), ip_rel D ad dA A nL s L hp ls H locs → As.length = g.2.1 → (rest.map fun v => v.category).sum ≤ 8 →
    ((g.2.2.1 = 0 ∧ decode cc pc = .ok (.invokestatic g.1, 3)) ∨ (∃ (q : Nat) (as : List Value) (ci : Nat) (fs : List Value), g.2.2.1 = ci + 1 ∧ As = .ref q :: as ∧ hp[q]? = some (.inr (ci, fs)) ∧ decode cc pc = .ok (.invokevirtual g.1, 3))) →
    g.2.2.2 As hp K' →
    (∀ (r : Option Value) (hp' : ip_H) (H' : Heap) (locs' : List Loc), ip_rel D ad dA A nL s L hp' ls H' locs' → K' r hp' → W p l e R s m args below meth c H' locs' cells slots Q (F0 m (pc + 3) ls ((r.toList ++ rest).map (ip_cv ad)))) →
    W p l e R s m args below meth c H locs cells slots Q (F0 m pc ls ((As.reverse ++ rest).map (ip_cv ad)))
theorem ip_gf_s {fl : List ip_F} {i : Nat} {x : ip_F} (h : ip_gf fl i = some x) : x ∈ fl ∧ x.1 = i := by
  induction fl with
  | nil => cases h
  | cons f r ih =>
    simp only [ip_gf] at h
    split at h
    · cases h
      exact ⟨List.mem_cons_self, by simpa using (by assumption : (x.1 == i) = true)⟩
    · exact ⟨List.mem_cons_of_mem _ (ih h).1, (ih h).2⟩
theorem ip_gv_s {cn : List (Nat × Value)} {i : Nat} {v : Value} (h : ip_gv cn i = some v) : (i, v) ∈ cn := by
  induction cn with
  | nil => cases h
  | cons f r ih =>
    simp only [ip_gv] at h
    split at h
    · cases h
      have hi : f.1 = i := by simpa using (by assumption : (f.1 == i) = true)
      rw [← hi]
      exact List.mem_cons_self
    · exact List.mem_cons_of_mem _ (ih h)
theorem ip_gc_s {cs : List ip_G} {i : Nat} {x : ip_G} (h : ip_gc cs i = some x) : x ∈ cs ∧ x.1 = i := by
  induction cs with
  | nil => cases h
  | cons f r ih =>
    simp only [ip_gc] at h
    split at h
    · cases h
      exact ⟨List.mem_cons_self, by simpa using (by assumption : (x.1 == i) = true)⟩
    · exact ⟨List.mem_cons_of_mem _ (ih h).1, (ih h).2⟩
theorem ip_ts_s {jp : Nat → Prop} {pc : Nat} {x : Int} {d : Prop} : ∀ {os : List Int} {lo : Int}, ip_ts jp pc x d lo os →
    ((x < lo ∨ lo + os.length ≤ x) ∧ d) ∨ ∃ o, os[(x - lo).toNat]? = some o ∧ lo ≤ x ∧ x < lo + os.length ∧ jp ((pc : Int) + o).toNat
  | [], lo, h => Or.inl ⟨by simp; omega, h (by omega)⟩
  | o :: os, lo, h => by
    by_cases hx : x = lo
    · exact Or.inr ⟨o, by rw [hx]; simp, by omega, by simp; omega, h.1 hx⟩
    · rcases ip_ts_s (h.2 hx) with ⟨a, b⟩ | ⟨o', a, b, c, d'⟩
      · refine Or.inl ⟨?_, b⟩
        simp only [List.length_cons]
        rcases a with a | a
        · left; omega
        · right; omega
      · refine Or.inr ⟨o', ?_, by omega, by simp only [List.length_cons]; omega, d'⟩
        have e : (x - lo).toNat = (x - (lo + 1)).toNat + 1 := by omega
        rw [e]
        simpa using a
theorem ip_lk_s {jp : Nat → Prop} {pc : Nat} {x d : Int} : ∀ {ps : List (Int × Int)}, ip_lk jp pc x d ps → jp ((pc : Int) + Op.lookupswitch.offset ps d x).toNat
  | [], h => h
  | (a, o) :: ps, h => by
    rw [Op.lookupswitch.offset_cons]
    by_cases hx : a = x
    · rw [if_pos hx]; exact h.1 hx
    · rw [if_neg hx]; exact ip_lk_s (h.2 hx)
theorem ip_lk_in : ∀ (ps : List (Int × Int)) (d x : Int) (P : Int → Prop), P d → (∀ q ∈ ps, P q.2) → P (Op.lookupswitch.offset ps d x)
  | [], d, x, P, h, _ => h
  | (a, o) :: ps, d, x, P, h, h2 => by
    rw [Op.lookupswitch.offset_cons]
    by_cases hx : a = x
    · rw [if_pos hx]; exact h2 _ List.mem_cons_self
    · rw [if_neg hx]; exact ip_lk_in ps d x P h (fun q hq => h2 q (List.mem_cons_of_mem _ hq))
theorem ip_two {t : Nat} (h : t < 2) : t = 0 ∨ t = 1 := by omega
theorem ip_b1 {a b : Nat} (h : (a == b) = true) : a = b := by simpa using h
set_option maxHeartbeats 4000000 in
set_option maxRecDepth 100000 in
theorem ip_x_ok {p : Program} {l : Launch} {e : Env} {R : Room} {s : State} {m : MethodId} {args : Array Value} {below : List Frame} {meth : Method} {c : Code} {cells slots : Nat} {cc : ByteArray} {nL : Nat} {D : va_G} {ad dA : Nat → Nat} {A : Nat → Prop} {own : String}
    {fl : List ip_F} {cn : List (Nat × Value)} {cs : List ip_G} {rt : Option FieldType} {K : ip_K} {Qc : Array Value → State → Outcome → State → Prop}
    (hx : p.tables.exec = Jvm.exec) (hb : c.code = cc) (hr : meth.sig.returnType = rt) (hlocks : meth.locks = false) (hown : s.vm.findClass own = some m.cls) (hts : ∀ w ∈ ip_ws, w.before args s = true) (hK : va_K D vwCl (ip_tys dA) s)
    (hfl : ip_flOk own fl) (hcn : ip_cnOk own cn) (hcs : ∀ g ∈ cs, ip_CS p l e R s m args below meth c cells slots (MQ below Qc args s cells slots A) cc nL D ad dA A g)
    (hret : ∀ (r : Option Value) (hp : ip_H) (H : Heap) (locs : List Loc), va_P D vwCl (ip_cw ad dA hp) H → va_D A (ip_cw ad dA hp) → va_S A s.heap H locs → K r hp → ∀ t : State, t.heap = H → s.WarmedH t.vm → Qc args s (.returned (r.map (ip_cv ad))) t)
    {ins : Instr} {len : Nat} {ar : Int32} {tg pc : Nat} {nx : ip_P} {jp : Nat → ip_P} (hdg : decode cc pc = .ok (ins, len)) (hnr : ip_nr ins len ar tg pc = true)
    (hnx : ip_W p l e R s m args below meth c cells slots (MQ below Qc args s cells slots A) nL D ad dA A (pc + len) nx) (hjp : ∀ t, ip_W p l e R s m args below meth c cells slots (MQ below Qc args s cells slots A) nL D ad dA A t (jp t)) :
    ip_W p l e R s m args below meth c cells slots (MQ below Qc args s cells slots A) nL D ad dA A pc (ip_x fl cn cs rt K ins ar tg pc nx jp) := by
  intro L st hp ls H locs hrel h
  obtain ⟨hL, hP, hD, hS⟩ := id hrel
  have hcalls : ∀ (g : Option ip_G) (i : Nat) (virt : Bool), ip_gc cs i = g → (decode cc pc = .ok (if virt then .invokevirtual i else .invokestatic i, 3)) → len = 3 → ip_call g virt nx L st hp → W p l e R s m args below meth c H locs cells slots (MQ below Qc args s cells slots A) (F0 m pc ls (st.map (ip_cv ad))) := by
    intro g i virt hg hdg hlen h
    subst hlen
    cases g with
    | none => exact h.elim
    | some g =>
      obtain ⟨gi, n, kd, C⟩ := g
      obtain ⟨hmem, hi⟩ := ip_gc_s hg
      simp only at hi
      subst hi
      obtain ⟨hw, h⟩ := ip_when_s h
      simp only [Bool.and_eq_true] at hw
      have hn : n ≤ st.length := Nat.le_of_ble_eq_true hw.1
      have hcat := Nat.le_of_ble_eq_true hw.2
      have hst : (st.take n).reverse.reverse ++ st.drop n = st := by rw [List.reverse_reverse, List.take_append_drop]
      have hlen : (st.take n).reverse.length = n := by simp; omega
      cases virt with
      | false =>
        obtain ⟨hk, h⟩ := ip_when_s h
        have := hcs _ hmem pc L (st.take n).reverse (st.drop n) hp ls H locs _ hrel hlen hcat (Or.inl ⟨ip_b1 hk, hdg⟩) h (fun r hp' H' locs' hrel' hk' => hnx _ _ _ _ _ _ hrel' hk')
        rwa [hst] at this
      | true =>
        simp only at h
        split at h
        · rename_i q as hq
          obtain ⟨ci, fs, ho, h⟩ := ip_ob_s h
          obtain ⟨hk, h⟩ := ip_when_s h
          rw [← hq] at h
          have := hcs _ hmem pc L (st.take n).reverse (st.drop n) hp ls H locs _ hrel hlen hcat (Or.inr ⟨q, as, ci, fs, ip_b1 hk, hq, ho, hdg⟩) h (fun r hp' H' locs' hrel' hk' => hnx _ _ _ _ _ _ hrel' hk')
          rwa [hst] at this
        · exact h.elim
  obtain ⟨hLn, lv, hLv, hLm⟩ := id hL
  have hst1 : ∀ (i : Nat) (v : Value), ∀ (ls' : Array Slot), lv_has ls' nL ((i, ip_cv ad v) :: lv.filter (fun q => !(q.1 == i) && !(q.1 + 1 == i && q.2.category == 2))) → ip_rel D ad dA A nL s (ip_st1 L i v) hp ls' H locs := fun i v ls' h => ⟨ip_Lh.st1 (ls := ls) hLn hLm h, hP, hD, hS⟩
  have hst2 : ∀ (i : Nat) (v : Value), ∀ (ls' : Array Slot), lv_has ls' nL ((i, ip_cv ad v) :: lv.filter (fun q => !(q.1 == i) && (!(q.1 == i + 1) && !(q.1 + 1 == i && q.2.category == 2)))) → ip_rel D ad dA A nL s (ip_st2 L i v) hp ls' H locs := fun i v ls' h => ⟨ip_Lh.st2 (ls := ls) hLn hLm h, hP, hD, hS⟩
  cases ins with
  | iconst n =>
    simp only [ip_nr, Bool.and_eq_true, beq_iff_eq] at hnr
    obtain ⟨rfl, har⟩ := hnr
    exact lv_iconst hx hb hdg har (hnx _ _ _ _ _ _ hrel h)
  | bipush n =>
    simp only [ip_nr, Bool.and_eq_true, beq_iff_eq] at hnr
    obtain ⟨rfl, har⟩ := hnr
    exact lv_bipush hx hb hdg har (hnx _ _ _ _ _ _ hrel h)
  | sipush n =>
    simp only [ip_nr, Bool.and_eq_true, beq_iff_eq] at hnr
    obtain ⟨rfl, har⟩ := hnr
    exact lv_sipush hx hb hdg har (hnx _ _ _ _ _ _ hrel h)
  | lconst n =>
    obtain rfl := ip_b1 hnr
    exact lv_lconst hx hb hdg rfl (hnx _ _ _ _ _ _ hrel h)
  | ldc_w i =>
    obtain rfl := ip_b1 hnr
    simp only [ip_x] at h
    split at h
    · rename_i v hv
      exact lv_ldcw hx hb hown (hts _ (hcn _ (ip_gv_s hv))) hdg (hnx _ _ _ _ _ _ hrel h)
    · exact h.elim
  | ldc2_w i =>
    obtain rfl := ip_b1 hnr
    simp only [ip_x] at h
    split at h
    · rename_i v hv
      exact lv_ldc2 hx hb hown (hts _ (hcn _ (ip_gv_s hv))) hdg (hnx _ _ _ _ _ _ hrel h)
    · exact h.elim
  | aconst_null =>
    obtain rfl := ip_b1 hnr
    exact lv_null hx hb hdg (hnx _ _ _ _ _ _ hrel h)
  | iload_n k =>
    obtain rfl := ip_b1 hnr
    obtain ⟨x, hl, h⟩ := ip_ldi_s h
    exact lv_iload_n hx hb hdg rfl (hL.at hl) (hnx _ _ _ _ _ _ hrel h)
  | iload k =>
    obtain rfl := ip_b1 hnr
    obtain ⟨x, hl, h⟩ := ip_ldi_s h
    exact lv_iload hx hb hdg (hL.at hl) (hnx _ _ _ _ _ _ hrel h)
  | lload_n k =>
    obtain rfl := ip_b1 hnr
    obtain ⟨x, hl, h⟩ := ip_ldl_s h
    exact lv_lload_n hx hb hdg rfl (hL.at hl) (hnx _ _ _ _ _ _ hrel h)
  | lload k =>
    obtain rfl := ip_b1 hnr
    obtain ⟨x, hl, h⟩ := ip_ldl_s h
    exact lv_lload hx hb hdg (hL.at hl) (hnx _ _ _ _ _ _ hrel h)
  | aload_n k =>
    obtain rfl := ip_b1 hnr
    have h : ip_lda L k (fun v => nx L (v :: st) hp) := h
    obtain ⟨v, hl, h, hv⟩ := ip_lda_s h
    rcases hv with rfl | ⟨a, rfl⟩
    · exact lv_aload_nN hx hb hdg rfl (hL.at hl) (hnx _ _ _ _ _ _ hrel h)
    · exact lv_aload_n hx hb hdg rfl (hL.at hl) (hnx _ _ _ _ _ _ hrel h)
  | aload k =>
    obtain rfl := ip_b1 hnr
    have h : ip_lda L k (fun v => nx L (v :: st) hp) := h
    obtain ⟨v, hl, h, hv⟩ := ip_lda_s h
    rcases hv with rfl | ⟨a, rfl⟩
    · exact lv_aloadN hx hb hdg (hL.at hl) (hnx _ _ _ _ _ _ hrel h)
    · exact lv_aload hx hb hdg (hL.at hl) (hnx _ _ _ _ _ _ hrel h)
  | istore_n k =>
    obtain rfl := ip_b1 hnr
    obtain ⟨x, r, rfl, h⟩ := ip_i1_s h
    obtain ⟨hk, h⟩ := ip_when_s h
    exact lv_istore_n hx hb hdg rfl hLv (by rw [← hLn]; exact Nat.le_of_ble_eq_true hk) rfl (fun ls' hl' => hnx _ _ _ _ _ _ (hst1 k (.int x) ls' hl') h)
  | istore k =>
    obtain rfl := ip_b1 hnr
    obtain ⟨x, r, rfl, h⟩ := ip_i1_s h
    obtain ⟨hk, h⟩ := ip_when_s h
    exact lv_istore hx hb hdg hLv (by rw [← hLn]; exact Nat.le_of_ble_eq_true hk) rfl (fun ls' hl' => hnx _ _ _ _ _ _ (hst1 k (.int x) ls' hl') h)
  | lstore_n k =>
    obtain rfl := ip_b1 hnr
    obtain ⟨x, r, rfl, h⟩ := ip_l1_s h
    obtain ⟨hk, h⟩ := ip_when_s h
    exact lv_lstore_n hx hb hdg rfl hLv (by rw [← hLn]; exact Nat.le_of_ble_eq_true hk) rfl (fun ls' hl' => hnx _ _ _ _ _ _ (hst2 k (.long x) ls' hl') h)
  | lstore k =>
    obtain rfl := ip_b1 hnr
    obtain ⟨x, r, rfl, h⟩ := ip_l1_s h
    obtain ⟨hk, h⟩ := ip_when_s h
    exact lv_lstore hx hb hdg hLv (by rw [← hLn]; exact Nat.le_of_ble_eq_true hk) rfl (fun ls' hl' => hnx _ _ _ _ _ _ (hst2 k (.long x) ls' hl') h)
  | astore_n k =>
    obtain rfl := ip_b1 hnr
    have h : ip_a1 st (fun v r => ip_when (Nat.blt k L.length) (nx (ip_st1 L k v) r hp)) := h
    obtain ⟨v, r, rfl, h, hv⟩ := ip_a1_s h
    obtain ⟨hk, h⟩ := ip_when_s h
    rcases hv with rfl | ⟨a, rfl⟩
    · exact lv_astore_nN hx hb hdg rfl hLv (by rw [← hLn]; exact Nat.le_of_ble_eq_true hk) rfl (fun ls' hl' => hnx _ _ _ _ _ _ (hst1 k .null ls' hl') h)
    · exact lv_astore_n hx hb hdg rfl hLv (by rw [← hLn]; exact Nat.le_of_ble_eq_true hk) rfl (fun ls' hl' => hnx _ _ _ _ _ _ (hst1 k (.ref a) ls' hl') h)
  | astore k =>
    obtain rfl := ip_b1 hnr
    have h : ip_a1 st (fun v r => ip_when (Nat.blt k L.length) (nx (ip_st1 L k v) r hp)) := h
    obtain ⟨v, r, rfl, h, hv⟩ := ip_a1_s h
    obtain ⟨hk, h⟩ := ip_when_s h
    rcases hv with rfl | ⟨a, rfl⟩
    · exact lv_astoreN hx hb hdg hLv (by rw [← hLn]; exact Nat.le_of_ble_eq_true hk) rfl (fun ls' hl' => hnx _ _ _ _ _ _ (hst1 k .null ls' hl') h)
    · exact lv_astore hx hb hdg hLv (by rw [← hLn]; exact Nat.le_of_ble_eq_true hk) rfl (fun ls' hl' => hnx _ _ _ _ _ _ (hst1 k (.ref a) ls' hl') h)
  | iinc k n =>
    simp only [ip_nr, Bool.and_eq_true, beq_iff_eq] at hnr
    obtain ⟨rfl, har⟩ := hnr
    obtain ⟨x, hl, h⟩ := ip_ldi_s h
    obtain ⟨hk, h⟩ := ip_when_s h
    obtain ⟨j, hj⟩ := List.getElem?_of_mem (hLm _ _ hl)
    exact lv_iinc hx hb hdg hLv hj (by rw [har]) (by rw [← hLn]; exact Nat.le_of_ble_eq_true hk) rfl (fun ls' hl' => hnx _ _ _ _ _ _ (hst1 k (.int (x + ar)) ls' hl') h)
  | iadd => obtain rfl := ip_b1 hnr; obtain ⟨x, y, r, rfl, h⟩ := ip_i2_s h; exact lv_iadd hx hb hdg (hnx _ _ _ _ _ _ hrel h)
  | isub => obtain rfl := ip_b1 hnr; obtain ⟨x, y, r, rfl, h⟩ := ip_i2_s h; exact lv_isub hx hb hdg (hnx _ _ _ _ _ _ hrel h)
  | imul => obtain rfl := ip_b1 hnr; obtain ⟨x, y, r, rfl, h⟩ := ip_i2_s h; exact lv_imul hx hb hdg (hnx _ _ _ _ _ _ hrel h)
  | iand => obtain rfl := ip_b1 hnr; obtain ⟨x, y, r, rfl, h⟩ := ip_i2_s h; exact lv_iand hx hb hdg (hnx _ _ _ _ _ _ hrel h)
  | ior => obtain rfl := ip_b1 hnr; obtain ⟨x, y, r, rfl, h⟩ := ip_i2_s h; exact lv_ior hx hb hdg (hnx _ _ _ _ _ _ hrel h)
  | ixor => obtain rfl := ip_b1 hnr; obtain ⟨x, y, r, rfl, h⟩ := ip_i2_s h; exact lv_ixor hx hb hdg (hnx _ _ _ _ _ _ hrel h)
  | idiv => obtain rfl := ip_b1 hnr; obtain ⟨x, y, r, rfl, h0, h⟩ := ip_i2_s h; exact lv_idiv hx hb hdg h0 (hnx _ _ _ _ _ _ hrel h)
  | irem => obtain rfl := ip_b1 hnr; obtain ⟨x, y, r, rfl, h0, h⟩ := ip_i2_s h; exact lv_irem hx hb hdg h0 (hnx _ _ _ _ _ _ hrel h)
  | ishl => obtain rfl := ip_b1 hnr; obtain ⟨x, y, r, rfl, h⟩ := ip_i2_s h; exact lv_ishl hx hb hdg (hnx _ _ _ _ _ _ hrel h)
  | ishr => obtain rfl := ip_b1 hnr; obtain ⟨x, y, r, rfl, h⟩ := ip_i2_s h; exact lv_ishr hx hb hdg (hnx _ _ _ _ _ _ hrel h)
  | iushr => obtain rfl := ip_b1 hnr; obtain ⟨x, y, r, rfl, h⟩ := ip_i2_s h; exact lv_iushr hx hb hdg rfl (hnx _ _ _ _ _ _ hrel h)
  | ladd => obtain rfl := ip_b1 hnr; obtain ⟨x, y, r, rfl, h⟩ := ip_l2_s h; exact lv_ladd hx hb hdg (hnx _ _ _ _ _ _ hrel h)
  | lsub => obtain rfl := ip_b1 hnr; obtain ⟨x, y, r, rfl, h⟩ := ip_l2_s h; exact lv_lsub hx hb hdg (hnx _ _ _ _ _ _ hrel h)
  | lmul => obtain rfl := ip_b1 hnr; obtain ⟨x, y, r, rfl, h⟩ := ip_l2_s h; exact lv_lmul hx hb hdg (hnx _ _ _ _ _ _ hrel h)
  | land => obtain rfl := ip_b1 hnr; obtain ⟨x, y, r, rfl, h⟩ := ip_l2_s h; exact lv_land hx hb hdg (hnx _ _ _ _ _ _ hrel h)
  | lor => obtain rfl := ip_b1 hnr; obtain ⟨x, y, r, rfl, h⟩ := ip_l2_s h; exact lv_lor hx hb hdg (hnx _ _ _ _ _ _ hrel h)
  | ldiv => obtain rfl := ip_b1 hnr; obtain ⟨x, y, r, rfl, h0, h⟩ := ip_l2_s h; exact lv_ldiv hx hb hdg h0 (hnx _ _ _ _ _ _ hrel h)
  | lrem => obtain rfl := ip_b1 hnr; obtain ⟨x, y, r, rfl, h0, h⟩ := ip_l2_s h; exact lv_lrem hx hb hdg h0 (hnx _ _ _ _ _ _ hrel h)
  | lshl => obtain rfl := ip_b1 hnr; obtain ⟨x, y, r, rfl, h⟩ := ip_li_s h; exact lv_lshl hx hb hdg rfl (hnx _ _ _ _ _ _ hrel h)
  | lshr => obtain rfl := ip_b1 hnr; obtain ⟨x, y, r, rfl, h⟩ := ip_li_s h; exact lv_lshr hx hb hdg rfl (hnx _ _ _ _ _ _ hrel h)
  | lushr => obtain rfl := ip_b1 hnr; obtain ⟨x, y, r, rfl, h⟩ := ip_li_s h; exact lv_lushr hx hb hdg rfl (hnx _ _ _ _ _ _ hrel h)
  | lcmp => obtain rfl := ip_b1 hnr; obtain ⟨x, y, r, rfl, h⟩ := ip_l2_s h; exact W.lcmp hx hb hdg (hnx _ _ _ _ _ _ hrel h)
  | i2l => obtain rfl := ip_b1 hnr; obtain ⟨x, r, rfl, h⟩ := ip_i1_s h; exact lv_i2l hx hb hdg rfl (hnx _ _ _ _ _ _ hrel h)
  | l2i => obtain rfl := ip_b1 hnr; obtain ⟨x, r, rfl, h⟩ := ip_l1_s h; exact lv_l2i hx hb hdg rfl (hnx _ _ _ _ _ _ hrel h)
  | i2b => obtain rfl := ip_b1 hnr; obtain ⟨x, r, rfl, h⟩ := ip_i1_s h; exact lv_i2b hx hb hdg rfl (hnx _ _ _ _ _ _ hrel h)
  | i2s => obtain rfl := ip_b1 hnr; obtain ⟨x, r, rfl, h⟩ := ip_i1_s h; exact lv_i2s hx hb hdg rfl (hnx _ _ _ _ _ _ hrel h)
  | dup =>
    obtain rfl := ip_b1 hnr
    simp only [ip_x] at h
    split at h
    · rename_i v r
      obtain ⟨hk, h⟩ := ip_when_s h
      exact lv_dup hx hb hdg (by rw [ip_cv_cat]; exact Nat.eq_of_beq_eq_true hk) (hnx _ _ _ _ _ _ hrel h)
    · exact h.elim
  | dup2 =>
    obtain rfl := ip_b1 hnr
    simp only [ip_x] at h
    split at h
    · rename_i v w r
      obtain ⟨hk, h⟩ := ip_when_s h
      simp only [Bool.and_eq_true] at hk
      exact lv_dup2_11 hx hb hdg (by rw [ip_cv_cat]; exact Nat.eq_of_beq_eq_true hk.1) (by rw [ip_cv_cat]; exact Nat.eq_of_beq_eq_true hk.2) (hnx _ _ _ _ _ _ hrel h)
    · exact h.elim
  | ifCond c o =>
    simp only [ip_nr, Bool.and_eq_true, beq_iff_eq] at hnr
    obtain ⟨rfl, har⟩ := hnr
    obtain ⟨x, r, rfl, h⟩ := ip_i1_s h
    cases c with
    | eq => exact lv_if_eq hx hb hdg har (fun q => hjp _ _ _ _ _ _ _ hrel (h.1 q)) (fun q => hnx _ _ _ _ _ _ hrel (h.2 q))
    | ne => exact lv_if_ne hx hb hdg har (fun q => hjp _ _ _ _ _ _ _ hrel (h.1 q)) (fun q => hnx _ _ _ _ _ _ hrel (h.2 q))
    | lt => exact lv_if_lt hx hb hdg har (fun q => hjp _ _ _ _ _ _ _ hrel (h.1 q)) (fun q => hnx _ _ _ _ _ _ hrel (h.2 q))
    | ge => exact lv_if_ge hx hb hdg har (fun q => hjp _ _ _ _ _ _ _ hrel (h.1 q)) (fun q => hnx _ _ _ _ _ _ hrel (h.2 q))
    | gt => exact lv_if_gt hx hb hdg har (fun q => hjp _ _ _ _ _ _ _ hrel (h.1 q)) (fun q => hnx _ _ _ _ _ _ hrel (h.2 q))
    | le => exact lv_if_le hx hb hdg har (fun q => hjp _ _ _ _ _ _ _ hrel (h.1 q)) (fun q => hnx _ _ _ _ _ _ hrel (h.2 q))
  | if_icmp c o =>
    simp only [ip_nr, Bool.and_eq_true, beq_iff_eq] at hnr
    obtain ⟨rfl, har⟩ := hnr
    obtain ⟨x, y, r, rfl, h⟩ := ip_i2_s h
    cases c with
    | eq => exact lv_icmp_eq hx hb hdg har (fun q => hjp _ _ _ _ _ _ _ hrel (h.1 q)) (fun q => hnx _ _ _ _ _ _ hrel (h.2 q))
    | ne => exact lv_icmp_ne hx hb hdg har (fun q => hjp _ _ _ _ _ _ _ hrel (h.1 q)) (fun q => hnx _ _ _ _ _ _ hrel (h.2 q))
    | lt => exact lv_icmp_lt hx hb hdg har (fun q => hjp _ _ _ _ _ _ _ hrel (h.1 q)) (fun q => hnx _ _ _ _ _ _ hrel (h.2 q))
    | ge => exact lv_icmp_ge hx hb hdg har (fun q => hjp _ _ _ _ _ _ _ hrel (h.1 q)) (fun q => hnx _ _ _ _ _ _ hrel (h.2 q))
    | gt => exact lv_icmp_gt hx hb hdg har (fun q => hjp _ _ _ _ _ _ _ hrel (h.1 q)) (fun q => hnx _ _ _ _ _ _ hrel (h.2 q))
    | le => exact lv_icmp_le hx hb hdg har (fun q => hjp _ _ _ _ _ _ _ hrel (h.1 q)) (fun q => hnx _ _ _ _ _ _ hrel (h.2 q))
  | ifnull o =>
    simp only [ip_nr, Bool.and_eq_true, beq_iff_eq] at hnr
    obtain ⟨rfl, har⟩ := hnr
    simp only [ip_x, ip_nu] at h
    split at h
    · exact lv_ifnull hx hb hdg (hnx _ _ _ _ _ _ hrel h)
    · exact lv_ifnullN hx hb hdg har (hjp _ _ _ _ _ _ _ hrel h)
    · exact h.elim
  | ifnonnull o =>
    simp only [ip_nr, Bool.and_eq_true, beq_iff_eq] at hnr
    obtain ⟨rfl, har⟩ := hnr
    simp only [ip_x, ip_nu] at h
    split at h
    · exact lv_ifnonnull hx hb hdg har (hjp _ _ _ _ _ _ _ hrel h)
    · exact lv_ifnonnullN hx hb hdg (hnx _ _ _ _ _ _ hrel h)
    · exact h.elim
  | goto o =>
    simp only [ip_nr, Bool.and_eq_true, beq_iff_eq] at hnr
    obtain ⟨rfl, har⟩ := hnr
    exact lv_goto hx hb hdg har (hjp _ _ _ _ _ _ _ hrel h)
  | tableswitch d lo hi os =>
    simp only [ip_nr, Bool.and_eq_true, decide_eq_true_eq, List.all_eq_true] at hnr
    obtain ⟨⟨hd, ho⟩, hh⟩ := hnr
    obtain ⟨x, r, rfl, h⟩ := ip_i1_s h
    rcases ip_ts_s h with ⟨a, b⟩ | ⟨o', a, b, c', d'⟩
    · exact lv_tableOut hx hb hdg (by omega) (by rw [Int.toNat_of_nonneg hd]) (hjp _ _ _ _ _ _ _ hrel b)
    · exact lv_tableIn hx hb hdg (by omega) (by omega) (by rw [← Array.getElem?_toList]; exact a) (by rw [Int.toNat_of_nonneg (ho _ (List.mem_of_getElem? a))]) (hjp _ _ _ _ _ _ _ hrel d')
  | lookupswitch d ps =>
    simp only [ip_nr, Bool.and_eq_true, decide_eq_true_eq] at hnr
    obtain ⟨⟨hd, ho⟩, hh⟩ := hnr
    have ho' : ∀ q ∈ ps.toList, 0 ≤ (pc : Int) + q.2 := fun q hq => by simpa using List.all_eq_true.mp ho q hq
    obtain ⟨x, r, rfl, h⟩ := ip_i1_s h
    exact lv_lookup hx hb hdg hh rfl (by rw [Int.toNat_of_nonneg (ip_lk_in ps.toList d x.toInt (fun z => 0 ≤ (pc : Int) + z) hd ho')]) (hjp _ _ _ _ _ _ _ hrel (ip_lk_s h))
  | getfield i =>
    obtain rfl := ip_b1 hnr
    simp only [ip_x] at h
    split at h
    · rename_i i' ci k ty mu hf
      obtain ⟨hmem, hi⟩ := ip_gf_s hf
      simp only at hi
      subst hi
      obtain ⟨hw, hc⟩ := hfl _ hmem
      obtain ⟨a, r, rfl, h⟩ := ip_r1_s h
      obtain ⟨cj, fs, ho, h⟩ := ip_ob_s h
      obtain ⟨hk, h7⟩ := ip_when_s h
      clear h
      obtain rfl := Nat.eq_of_beq_eq_true hk
      have h := h7
      split at h
      · rename_i v hv
        simp only [ip_fw, ip_fc] at hw hc
        split at hw
        · rename_i q hq
          rw [hq] at hc
          simp only [Bool.and_eq_true] at hc
          obtain ⟨hin, ty0, hty, hnm⟩ := ip_cls hq
          exact va_get hx hb hts hin hown hK hP a (ip_cw_at ho) hq k (Nat.le_of_ble_eq_true hc.1.1) (hts _ hw) (fun _ h9 => h9) (show (fs.map (ip_cv ad))[k]? = some (ip_cv ad v) by rw [List.getElem?_map, hv]; rfl) hdg (hnx _ _ _ _ _ _ hrel h)
        · rename_i hq
          rw [hq] at hc
          cases hc
      · exact h.elim
    · exact h.elim
  | putfield i =>
    obtain rfl := ip_b1 hnr
    simp only [ip_x] at h
    split at h
    · rename_i i' ci k ty hf
      obtain ⟨hmem, hi⟩ := ip_gf_s hf
      simp only at hi
      subst hi
      obtain ⟨hw, hc⟩ := hfl _ hmem
      obtain ⟨v, a, r, rfl, h⟩ := ip_vr_s h
      obtain ⟨cj, fs, ho, h⟩ := ip_ob_s h
      obtain ⟨hk, h7⟩ := ip_when_s h
      clear h
      simp only [Bool.and_eq_true] at hk
      obtain rfl := Nat.eq_of_beq_eq_true hk.1
      have h := h7
      have hkl : k < fs.length := Nat.le_of_ble_eq_true hk.2
      have hv : (narrow ty (ip_cv ad v) = ip_cv ad v ∧ fits ty (ip_cv ad v) = true) ∧ nx L r (hp.set a (.inr (ci, fs.set k v))) := by
        unfold ip_ok at h
        split at h
        · split at h
          · exact ⟨⟨rfl, rfl⟩, h⟩
          · exact h.elim
        · split at h
          · obtain ⟨h0, h⟩ := h
            refine ⟨?_, h⟩
            rcases h0 with rfl | rfl <;> exact ⟨rfl, rfl⟩
          · exact h.elim
        · exact h.elim
      obtain ⟨⟨hn1, hn2⟩, h⟩ := hv
      simp only [ip_fw, ip_fc] at hw hc
      split at hw
      · rename_i q hq
        rw [hq] at hc
        simp only [Bool.and_eq_true, decide_eq_true_eq, Bool.not_true, Bool.false_or, Bool.not_eq_true'] at hc
        obtain ⟨hin, ty0, hty, hnm⟩ := ip_cls hq
        refine va_put hx hb hts hin ty0 hty hnm hown hK hP hD hS a (ip_cw_at ho) hq k (Nat.le_of_ble_eq_true hc.1.1) (hts _ hw) (fun _ h9 => h9) hc.2 hc.1.2 hn1 hn2 (by simpa using hkl) hdg (fun H1 locs1 hP1 hD1 hS1 => hnx _ _ _ _ _ _ ⟨hL, ?_, ?_, hS1⟩ h)
        · rw [ip_cw_set]; simpa only [ip_ce, List.map_set] using hP1
        · rw [ip_cw_set]; simpa only [ip_ce, List.map_set] using hD1
      · rename_i hq
        rw [hq] at hc
        cases hc
    · exact h.elim
  | iaload =>
    obtain rfl := ip_b1 hnr
    obtain ⟨a, i, r, rfl, h⟩ := ip_ri_s h
    obtain ⟨t, n, f, ho, h⟩ := ip_ar_s h
    obtain ⟨hk, hi, h7⟩ := ip_when_s h
    clear h
    obtain rfl := Nat.eq_of_beq_eq_true hk
    have h := h7
    exact va_iald hx hb hK hP a 0 (ip_cw_at ho) rfl hi hdg (hnx _ _ _ _ _ _ hrel h)
  | baload =>
    obtain rfl := ip_b1 hnr
    obtain ⟨a, i, r, rfl, h⟩ := ip_ri_s h
    obtain ⟨t, n, f, ho, h⟩ := ip_ar_s h
    obtain ⟨hk, hi, h7⟩ := ip_when_s h
    clear h
    obtain rfl := Nat.eq_of_beq_eq_true hk
    have h := h7
    exact va_zald hx hb hK hP a 1 (ip_cw_at ho) rfl hi hdg (hnx _ _ _ _ _ _ hrel h)
  | iastore =>
    obtain rfl := ip_b1 hnr
    obtain ⟨a, i, x, r, rfl, h⟩ := ip_rii_s h
    obtain ⟨t, n, f, ho, h⟩ := ip_ar_s h
    obtain ⟨hk, hi, h7⟩ := ip_when_s h
    clear h
    obtain rfl := Nat.eq_of_beq_eq_true hk
    have h := h7
    refine va_iast hx hb hK hP hD hS a 0 (ip_cw_at ho) rfl hi hdg (fun H1 locs1 hP1 hD1 hS1 => hnx _ _ _ _ _ _ ⟨hL, ?_, ?_, hS1⟩ h)
    · rw [ip_cw_set]; exact hP1
    · rw [ip_cw_set]; exact hD1
  | bastore =>
    obtain rfl := ip_b1 hnr
    obtain ⟨a, i, x, r, rfl, h⟩ := ip_rii_s h
    obtain ⟨t, n, f, ho, h⟩ := ip_ar_s h
    obtain ⟨hk, hi, h7⟩ := ip_when_s h
    clear h
    obtain rfl := Nat.eq_of_beq_eq_true hk
    have h := h7
    refine va_zast hx hb hK hP hD hS a 1 (ip_cw_at ho) rfl hi hdg (fun H1 locs1 hP1 hD1 hS1 => hnx _ _ _ _ _ _ ⟨hL, ?_, ?_, hS1⟩ h)
    · rw [ip_cw_set]; exact hP1
    · rw [ip_cw_set]; exact hD1
  | aaload =>
    obtain rfl := ip_b1 hnr
    obtain ⟨a, i, r, rfl, h⟩ := ip_ri_s h
    obtain ⟨t, n, f, ho, h⟩ := ip_rr_s h
    obtain ⟨hk, hi, h⟩ := ip_when_s h
    have h2 := hnx _ _ _ _ _ _ hrel h
    have hv : ip_cv ad (va_rf (f i.toNatClampNeg)) = va_rf ((f i.toNatClampNeg).map ad) := by cases f i.toNatClampNeg <;> rfl
    rw [List.map_cons, hv] at h2
    simp only [Bool.or_eq_true] at hk
    rcases hk with hk | hk <;> obtain rfl := Nat.eq_of_beq_eq_true hk
    · exact va_aldq hx hb hK hP a 2 (ip_cw_at ho) rfl hi hdg h2
    · exact va_aldq hx hb hK hP a 3 (ip_cw_at ho) rfl hi hdg h2
  | arraylength =>
    obtain rfl := ip_b1 hnr
    obtain ⟨a, r, rfl, h⟩ := ip_r1_s h
    obtain ⟨t, n, f, ho, h⟩ := ip_ar_s h
    obtain ⟨hk, h7⟩ := ip_when_s h
    clear h
    have hk : t < 2 := Nat.le_of_ble_eq_true hk
    have h := h7
    rcases ip_two hk with rfl | rfl
    · exact va_alen hx hb hK hP a 0 (ip_cw_at ho) rfl rfl hdg (hnx _ _ _ _ _ _ hrel h)
    · exact va_alen hx hb hK hP a 1 (ip_cw_at ho) rfl rfl hdg (hnx _ _ _ _ _ _ hrel h)
  | invokestatic i =>
    exact hcalls _ i false rfl (by rw [← ip_b1 hnr]; exact hdg) (ip_b1 hnr) h
  | invokevirtual i =>
    exact hcalls _ i true rfl (by rw [← ip_b1 hnr]; exact hdg) (ip_b1 hnr) h
  | ireturn =>
    obtain rfl := ip_b1 hnr
    simp only [ip_x] at h
    split at h
    · split at h
      · rename_i v
        exact W.iret hx hb hr (fun t ht hW => hret (some (.int v)) hp H locs hP hD hS h t ht hW) hS.2.2 hdg
      · exact h.elim
    · split at h
      · rename_i v
        exact W.zret hx hb hr h.1 (fun t ht hW => hret (some (.int v)) hp H locs hP hD hS h.2 t ht hW) hS.2.2 hdg
      · exact h.elim
    · exact h.elim
  | lreturn =>
    obtain rfl := ip_b1 hnr
    simp only [ip_x] at h
    split at h
    · split at h
      · rename_i v
        exact W.lret hx hb hr (fun t ht hW => hret (some (.long v)) hp H locs hP hD hS h t ht hW) hS.2.2 hdg
      · exact h.elim
    · exact h.elim
  | areturn =>
    obtain rfl := ip_b1 hnr
    simp only [ip_x] at h
    split at h
    · rename_i cn'
      split at h
      · rename_i a
        exact W.aret (v := .ref (ad a)) hx hb hr (Or.inl ⟨_, rfl⟩) (Or.inr ⟨_, rfl⟩) (fun t ht hW => hret (some (.ref a)) hp H locs hP hD hS h t ht hW) hS.2.2 hdg
      · exact W.aret (v := .null) hx hb hr (Or.inl ⟨_, rfl⟩) (Or.inl rfl) (fun t ht hW => hret (some .null) hp H locs hP hD hS h t ht hW) hS.2.2 hdg
      · exact h.elim
    · exact h.elim
  | return_ =>
    obtain rfl := ip_b1 hnr
    simp only [ip_x] at h
    split at h
    · split at h
      · exact W.vret hx hb hr (fun t ht hW => hret none hp H locs hP hD hS h t ht hW) hS.2.2 hdg
      · exact h.elim
    · exact h.elim
  | _ => exact h.elim
end
section
/-! ===== methods by contract ===== -/
theorem ip_find_s {t : Nat} : ∀ (tb : List ip_I), ip_find t tb = [] ∨ ∃ (x : ip_I) (r pre : List ip_I), ip_find t tb = x :: r ∧ x.1 = t ∧ tb = pre ++ (x :: r)
  | [] => Or.inl rfl
  | x :: r => by
    simp only [ip_find]
    split
    · rename_i h
      exact Or.inr ⟨x, r, [], rfl, Nat.eq_of_beq_eq_true h, rfl⟩
    · rcases ip_find_s r with h | ⟨y, r', pre, h1, h2, h3⟩
      · exact Or.inl h
      · exact Or.inr ⟨y, r', x :: pre, h1, h2, by rw [h3]; rfl⟩
theorem ip_chk_s {cc : ByteArray} : ∀ (pre : List ip_I) {pc : Nat} {ins : Instr} {len : Nat} {hd : Bool} {ar : Int32} {tg : Nat} {r : List ip_I}, ip_chk cc (pre ++ (pc, ins, len, hd, ar, tg) :: r) = true → decode cc pc = .ok (ins, len) ∧ ip_nr ins len ar tg pc = true ∧ ∀ x r', r = x :: r' → x.1 = pc + len
  | [], pc, ins, len, hd, ar, tg, r, h => by
    simp only [List.nil_append, ip_chk, Bool.and_eq_true, decide_eq_true_eq] at h
    refine ⟨h.1.1.1, h.1.1.2, fun x r' e => ?_⟩
    have h2 := h.1.2
    rw [e] at h2
    exact ip_b1 h2
  | (pc0, ins0, len0, hd0, ar0, tg0) :: pre, pc, ins, len, hd, ar, tg, r, h => by
    simp only [List.cons_append, ip_chk, Bool.and_eq_true] at h
    exact ip_chk_s pre h.2
theorem ip_wp_nil {fl : List ip_F} {cn : List (Nat × Value)} {cs : List ip_G} {rt : Option FieldType} {tb : List ip_I} {I : Nat → Nat → ip_P} {K : ip_K} {n : Nat} {b : Option Nat} {fr : Bool} {L : ip_L} {st : List Value} {hp : ip_H} (h : ip_wp fl cn cs rt tb I K n b fr [] L st hp) : False := by
  cases n with
  | zero => exact h
  | succ n => exact h
def ip_la : List Value → ip_L
  | [] => []
  | v :: vs => if v.category = 2 then some v :: none :: ip_la vs else some v :: ip_la vs
def ip_L0 (nL : Nat) (vs : List Value) : ip_L := ip_la vs ++ List.replicate (nL - (ip_la vs).length) none
theorem ip_la_len (ad : Nat → Nat) : ∀ vs : List Value, (lg_sl (vs.map (ip_cv ad))).length = (ip_la vs).length
  | [] => rfl
  | v :: vs => by
    have ih := ip_la_len ad vs
    have e : lg_sl ((v :: vs).map (ip_cv ad)) = (if (ip_cv ad v).category = 2 then [Slot.val (ip_cv ad v), .second] else [Slot.val (ip_cv ad v)]) ++ lg_sl (vs.map (ip_cv ad)) := rfl
    rw [e, List.length_append, ih, ip_cv_cat]
    simp only [ip_la]
    split <;> simp only [List.length_cons, List.length_nil] <;> omega
theorem ip_la_at (ad : Nat → Nat) : ∀ (vs : List Value) (i j : Nat) (w : Value), (ip_la vs)[j]? = some (some w) → (i + j, ip_cv ad w) ∈ lv_args i (vs.map (ip_cv ad))
  | [], i, j, w, h => by simp [ip_la] at h
  | v :: vs, i, j, w, h => by
    simp only [ip_la] at h
    simp only [List.map_cons, lv_args, ip_cv_cat]
    by_cases hc : v.category = 2
    · rw [if_pos hc] at h ⊢
      match j, h with
      | 0, h => simp at h; subst h; exact List.mem_cons_self
      | 1, h => simp at h
      | j + 2, h =>
        have := ip_la_at ad vs (i + 2) j w (by simpa using h)
        rw [show i + (j + 2) = i + 2 + j by omega]
        exact List.mem_cons_of_mem _ this
    · rw [if_neg hc] at h ⊢
      match j, h with
      | 0, h => simp at h; subst h; exact List.mem_cons_self
      | j + 1, h =>
        have := ip_la_at ad vs (i + 1) j w (by simpa using h)
        rw [show i + (j + 1) = i + 1 + j by omega]
        exact List.mem_cons_of_mem _ this
theorem ip_L0_ok (ad : Nat → Nat) (nL : Nat) (vs : List Value) (h : (ip_la vs).length ≤ nL) : ip_Lh ad nL ((lg_sl (vs.map (ip_cv ad)) ++ List.replicate (nL - (lg_sl (vs.map (ip_cv ad))).length) Slot.unset).toArray) (ip_L0 nL vs) := by
  refine ⟨by simp [ip_L0]; omega, _, lv_entry (vs.map (ip_cv ad)) (by rw [ip_la_len]; exact h), fun j w hj => ?_⟩
  simp only [ip_L0] at hj
  by_cases hl : j < (ip_la vs).length
  · rw [List.getElem?_append_left hl] at hj
    simpa using ip_la_at ad vs 0 j w hj
  · rw [List.getElem?_append_right (by omega)] at hj
    have := List.mem_of_getElem? hj
    simp at this
/-- the words of nest mates -/
def ip_N (U : State) : Prop := va_Nw (.methodLinkNest RX0 28 yX7_holds "ThunderAsks") U ∧ va_Nw (.methodLinkNest RX3 74 yX7_holds "ThunderAsks") U
theorem ip_N.warm {s U : State} (hW : s.WarmedH U.vm) (h : ip_N s) : ip_N U := ⟨va_Nw.warmM hW h.1, va_Nw.warmM hW h.2⟩
theorem ip_N.same {u U : State} (he : u.vm = U.vm) (h : ip_N u) : ip_N U := ⟨va_Nw.same rfl he h.1, va_Nw.same rfl he h.2⟩
def ip_B (D : va_G) (dA ad : Nat → Nat) (hp : ip_H) (sz : Nat) (U : State) : Prop := U.heap.size = sz ∧ va_P D vwCl (ip_cw ad dA hp) U.heap ∧ va_K D vwCl (ip_tys dA) U ∧ va_D (fun _ => True) (ip_cw ad dA hp) ∧ ip_N U
def ip_Q (D : va_G) (dA ad : Nat → Nat) (hp : ip_H) (K : ip_K) (sz : Nat) : Array Value → State → Outcome → State → Prop := fun _ st oc t =>
  (∃ (r : Option Value) (hp' : ip_H), oc = .returned (r.map (ip_cv ad)) ∧ K r hp' ∧ va_P D vwCl (ip_cw ad dA hp') t.heap ∧ va_D (va_A (ip_cw ad dA hp) sz) (ip_cw ad dA hp')) ∧ va_F (va_A (ip_cw ad dA hp) sz) st t
/-- A METHOD'S CONTRACT: where C holds of its values and the heap, it returns as C's last argument allows -/
def ip_Met (l : Launch) (y : MethodName) (cc : ByteArray) (nL : Nat) (ret : Option FieldType) (rm : Room) (C : ip_C) : Prop := ∀ (D : va_G) (dA : Nat → Nat) (vs : List Value) (hp : ip_H) (K : ip_K), C vs hp K → ∀ (ad : Nat → Nat) (sz : Nat),
  Met l y (.code y cc nL ret :: ip_ws) rm (va_Pc (vs.map (ip_cv ad)) (ip_B D dA ad hp sz)) (ip_Q D dA ad hp K sz) 0 0 (va_A (ip_cw ad dA hp) sz)
def ip_GS (l : Launch) (R : Room) (own : String) (g : ip_G) : Prop := ∀ (p : Program) (e : Env) (s : State) (m : MethodId) (args : Array Value) (below : List Frame) (meth : Method) (c : Code) (cells slots : Nat) (Q : State → Prop) (cc : ByteArray) (nL : Nat) (D : va_G) (ad dA : Nat → Nat) (A : Nat → Prop),
  p.tables.exec = Jvm.exec → c.code = cc → c.maxLocals = nL → s.vm.findClass own = some m.cls → (∀ w ∈ ip_ws, w.before args s = true) → va_K D vwCl (ip_tys dA) s → ip_N s → (∀ q, s.heap.size ≤ q → A q) → cells ≤ R.cells → slots ≤ R.slots → ip_CS p l e R s m args below meth c cells slots Q cc nL D ad dA A g
set_option maxHeartbeats 4000000 in
theorem ip_met {l : Launch} {y : MethodName} {cc : ByteArray} {nL : Nat} {ret : Option FieldType} {rm : Room} {C : ip_C} {fl : List ip_F} {cn : List (Nat × Value)} {cs : List ip_G} (tb : List ip_I) (fuel : Nat) (hy : plainName y.cls = true) (hfl : ip_flOk y.cls fl) (hcn : ip_cnOk y.cls cn) (hcs : ∀ g ∈ cs, ip_GS l rm y.cls g) (hchk : ip_chk cc tb = true) (htb : tb.head?.map (fun x => x.1) = some 0)
    (hC : ∀ (vs : List Value) (hp : ip_H) (K : ip_K), C vs hp K → (ip_la vs).length ≤ nL ∧ ∃ I : Nat → Nat → ip_P, ip_wp fl cn cs ret tb I K fuel none false tb (ip_L0 nL vs) [] hp ∧ ∀ (pc k : Nat) (L : ip_L) (st : List Value) (hp : ip_H), I pc k L st hp → ip_wp fl cn cs ret tb I K fuel (some k) true (ip_find pc tb) L st hp) : ip_Met l y cc nL ret rm C := by
  intro D dA vs hp0 K hc ad sz
  obtain ⟨hlen, I, hw, hI⟩ := hC vs hp0 K hc
  refine Met.ofW (cc := cc) (maxL := nL) (ret := ret) hy rfl ?_
  intro p e s m args below meth c s₁ B hml hv
  obtain ⟨rfl, hsz, hP, hK, hD0, hN⟩ := hv
  have hx := B.exec
  have hb := B.bytes
  have hr := B.returns
  have hts0 := atoms_spec (ws := .code y cc nL ret :: ip_ws) B.pre
  have hts : ∀ w ∈ ip_ws, w.before (vs.map (ip_cv ad)).toArray s = true := fun w h => hts0 w (List.mem_cons_of_mem _ h)
  have hown : s.vm.findClass y.cls = some m.cls := findClass_of_methodNamed B.named
  have hlocks := B.notSynchronized
  subst hsz
  have hD := hD0.self (sz := s.heap.size)
  have hA : ∀ q : Nat, s.heap.size ≤ q → va_A (ip_cw ad dA hp0) s.heap.size q := fun q h => Or.inr h
  have hS : va_S (va_A (ip_cw ad dA hp0) s.heap.size) s.heap s.heap [] := va_S.rf
  have hret : ∀ (r : Option Value) (hp : ip_H) (H : Heap) (locs : List Loc), va_P D vwCl (ip_cw ad dA hp) H → va_D (va_A (ip_cw ad dA hp0) s.heap.size) (ip_cw ad dA hp) → va_S (va_A (ip_cw ad dA hp0) s.heap.size) s.heap H locs → K r hp → ∀ t : State, t.heap = H → s.WarmedH t.vm → ip_Q D dA ad hp0 K s.heap.size (vs.map (ip_cv ad)).toArray s (.returned (r.map (ip_cv ad))) t :=
    fun r hp H locs hP hD hS hk t ht hW => ⟨⟨r, hp, rfl, hk, by rw [ht]; exact hP, hD⟩, hS.F ht⟩
  have hcs' : ∀ g ∈ cs, ip_CS p l e rm s m (vs.map (ip_cv ad)).toArray below meth c 0 0 (MQ below (ip_Q D dA ad hp0 K s.heap.size) (vs.map (ip_cv ad)).toArray s 0 0 (va_A (ip_cw ad dA hp0) s.heap.size)) cc nL D ad dA (va_A (ip_cw ad dA hp0) s.heap.size) g :=
    fun g hg => hcs g hg p e s m _ below meth c 0 0 _ cc nL D ad dA _ hx hb hml hown hts hK hN hA (Nat.zero_le _) (Nat.zero_le _)
  -- from any place of the table on, if the heads of lesser measure are sound
  have run : ∀ (b : Option Nat), (∀ k, ip_lt k b → ∀ pc, ip_W p l e rm s m (vs.map (ip_cv ad)).toArray below meth c 0 0 (MQ below (ip_Q D dA ad hp0 K s.heap.size) (vs.map (ip_cv ad)).toArray s 0 0 (va_A (ip_cw ad dA hp0) s.heap.size)) nL D ad dA (va_A (ip_cw ad dA hp0) s.heap.size) pc (I pc k)) →
      ∀ (n : Nat) (fr : Bool) (x : ip_I) (r pre : List ip_I), tb = pre ++ (x :: r) → ip_W p l e rm s m (vs.map (ip_cv ad)).toArray below meth c 0 0 (MQ below (ip_Q D dA ad hp0 K s.heap.size) (vs.map (ip_cv ad)).toArray s 0 0 (va_A (ip_cw ad dA hp0) s.heap.size)) nL D ad dA (va_A (ip_cw ad dA hp0) s.heap.size) x.1 (ip_wp fl cn cs ret tb I K n b fr (x :: r)) := by
    intro b hb' n
    induction n with
    | zero =>
      intro fr x r pre ht L st hp ls H locs hrel h
      exact h.elim
    | succ n ih =>
      intro fr x r pre ht
      obtain ⟨pc, ins, len, hd, ar, tg⟩ := x
      have hck := hchk
      rw [ht] at hck
      obtain ⟨hdg, hnr, hnext⟩ := ip_chk_s pre hck
      intro L st hp ls H locs hrel h
      simp only [ip_wp] at h
      split at h
      · obtain ⟨k, hk, h⟩ := h
        exact hb' k hk pc L st hp ls H locs hrel h
      · refine ip_x_ok hx hb hr hlocks hown hts hK hfl hcn hcs' hret hdg hnr ?_ ?_ L st hp ls H locs hrel h
        · cases r with
          | nil => exact fun L st hp ls H locs _ h => (ip_wp_nil h).elim
          | cons x' r' =>
            rw [← hnext x' r' rfl]
            exact ih false x' r' (pre ++ [(pc, ins, len, hd, ar, tg)]) (by rw [ht]; simp)
        · intro t
          rcases ip_find_s (t := t) tb with h1 | ⟨x', r', pre', h1, h2, h3⟩
          · rw [h1]
            exact fun L st hp ls H locs _ h => (ip_wp_nil h).elim
          · rw [h1, ← h2]
            exact ih false x' r' pre' h3
  have heads : ∀ (k pc : Nat), ip_W p l e rm s m (vs.map (ip_cv ad)).toArray below meth c 0 0 (MQ below (ip_Q D dA ad hp0 K s.heap.size) (vs.map (ip_cv ad)).toArray s 0 0 (va_A (ip_cw ad dA hp0) s.heap.size)) nL D ad dA (va_A (ip_cw ad dA hp0) s.heap.size) pc (I pc k) := by
    intro k
    induction k using Nat.strongRecOn with
    | _ k ih =>
      intro pc L st hp ls H locs hrel h
      have h1 := hI pc k L st hp h
      rcases ip_find_s (t := pc) tb with h2 | ⟨x, r, pre, h2, h3, h4⟩
      · rw [h2] at h1
        exact (ip_wp_nil h1).elim
      · rw [h2] at h1
        rw [← h3]
        exact run (some k) (fun k' hk' pc' => ih k' hk' pc') fuel true x r pre h4 L st hp ls H locs hrel h1
  rw [lg_entry_eq]
  cases htb' : tb with
  | nil => rw [htb'] at htb; cases htb
  | cons x r =>
    have h0 : x.1 = 0 := by rw [htb'] at htb; simpa using htb
    have := run none (fun k _ pc => heads k pc) fuel false x r [] htb' (ip_L0 nL vs) [] hp0 _ s.heap [] ⟨ip_L0_ok ad nL vs hlen, hP, hD, hS⟩ (by rw [← htb']; exact hw)
    rw [h0] at this
    exact this
section IPC
variable {p : Program} {l : Launch} {e : Env} {R : Room} {s : State} {m : MethodId} {args : Array Value} {below : List Frame} {meth : Method} {c : Code} {H : Heap} {locs : List Loc} {cells slots : Nat} {Q : State → Prop} {D : va_G} {ad dA : Nat → Nat} {A : Nat → Prop}
theorem ip_back {pc : Nat} {ls : Array Slot} {st0 rest : List Value} {hp : ip_H} {K' : ip_K} {a : Array Value} (hr : va_Run p l e R s m args below meth c H locs cells slots 0 0 (F0 m pc ls st0) rest (ip_Q D dA ad hp K' H.size a) (va_A (ip_cw ad dA hp) H.size)) (hS : va_S A s.heap H locs) (hF : ∀ q, va_A (ip_cw ad dA hp) H.size q → A q)
    (kk : ∀ (r : Option Value) (hp' : ip_H) (H' : Heap) (locs' : List Loc), K' r hp' → va_P D vwCl (ip_cw ad dA hp') H' → va_D A (ip_cw ad dA hp') → va_S A s.heap H' locs' → W p l e R s m args below meth c H' locs' cells slots Q (F0 m (pc + 3) ls ((r.map (ip_cv ad)).toList ++ rest))) : W p l e R s m args below meth c H locs cells slots Q (F0 m pc ls st0) := by
  intro T hT X
  obtain ⟨v, st₀, t, T', L, h0, X', hL, e1, e2, ⟨⟨r, hp', hv, hk, hP', hD'⟩, hz, hkeep⟩, st⟩ := hr T hT X
  injection hv with hv
  subst hv
  rw [h0] at hz hkeep
  obtain ⟨t2, a1, b1⟩ := kk r hp' T'.heap (locs ++ L) hk (by rw [e1]; exact hP') (hD'.weaken (fun k q _ h => hF q.1 h))
    ⟨Nat.le_trans hS.1 (by rw [e1]; exact hz), fun q h1 h2 => by rw [e1, hkeep q (Nat.lt_of_lt_of_le h1 hS.1) (fun z => h2 (hF q z))]; exact hS.2.1 q h1 h2, fun q hq => by
      rcases List.mem_append.mp hq with h | h
      · exact hS.2.2 q h
      · exact hF _ (hL q h)⟩ T' rfl X'
  exact ⟨t2, st t2 a1, b1⟩
theorem ip_blind {D : va_G} {dA ad : Nat → Nat} {hp : ip_H} {sz : Nat} {av : List Value} : FrameBlind (va_Pc av (ip_B D dA ad hp sz)) := fun a U g mk q =>
  ⟨q.1, q.2.1, q.2.2.1, va_K.moved (u := U) (U := U.calling g mk a) (Vm.Alike.refl U.vm) q.2.2.2.1, q.2.2.2.2.1, ip_N.same (u := U) rfl q.2.2.2.2.2⟩
theorem ip_toList (ad : Nat → Nat) (r : Option Value) (rest : List Value) : (r.toList ++ rest).map (ip_cv ad) = (r.map (ip_cv ad)).toList ++ rest.map (ip_cv ad) := by cases r <;> rfl
theorem ip_catSum (ad : Nat → Nat) (rest : List Value) : ((rest.map (ip_cv ad)).map fun v => v.category).sum = (rest.map fun v => v.category).sum := by
  rw [List.map_map]; congr 1; exact List.map_congr_left (fun v _ => ip_cv_cat ad v)
theorem ip_freeA {hp : ip_H} (hD : va_D A (ip_cw ad dA hp)) (hA : ∀ q, s.heap.size ≤ q → A q) (hS : va_S A s.heap H locs) : ∀ q, va_A (ip_cw ad dA hp) H.size q → A q := by
  intro q h
  rcases h with ⟨k, x, h⟩ | h
  · exact hD.2 k (q, x) h
  · exact hA q (Nat.le_trans hS.1 h)
end IPC
/-- what a call's words must be -/
def ip_wV (own : String) (idx : Nat) (y : MethodName) (cc : ByteArray) (nL : Nat) (ret : Option FieldType) : List Cond := [.methodLink own idx y, .instanceMethod y, .selects y.cls y y, .initialized y.cls, .code y cc nL ret]
def ip_wS (own : String) (idx : Nat) (y : MethodName) (cc : ByteArray) (nL : Nat) (ret : Option FieldType) : List Cond := [.methodLink own idx y, .static y, .initialized y.cls, .code y cc nL ret]
def ip_wN (y : MethodName) (cc : ByteArray) (nL : Nat) (ret : Option FieldType) : List Cond := [.static y, .initialized y.cls, .code y cc nL ret]
def ip_nm (y : MethodName) (n : Nat) : Prop := y.cls ≠ "java/lang/invoke/MethodHandle" ∧ y.cls ≠ "java/lang/invoke/VarHandle" ∧ (parseMethodDescriptor y.desc).map (fun d => d.parameters.length) = some n
def ip_rR (rm R : Room) (nL : Nat) : Prop := rm.cells = 0 ∧ rm.slots = 0 ∧ rm.frames + 1 ≤ R.frames ∧ 8 + (nL + 11) + rm.locals ≤ R.locals
theorem ip_good {w : Cond} (h : w ∈ ip_ws) : w ∈ ip_ws ∧ ((w.onTables && w.keeps) = true ∨ ∃ ty, w = .arrayClass ty) := ip_ws_good w h
theorem ip_goodC {y : MethodName} {cc : ByteArray} {nL : Nat} {ret : Option FieldType} (h : Cond.code y cc nL ret ∈ ip_ws) : GoodIn ip_ws (.code y cc nL ret :: ip_ws) := fun w hw => (List.mem_cons.mp hw).elim (fun q => by rw [q]; exact ip_good h) (fun q => ip_good q)
set_option maxHeartbeats 4000000 in
theorem ip_gsV {l : Launch} {R rm : Room} {own : String} {idx n ci : Nat} {y : MethodName} {bytes : ByteArray} {nL' : Nat} {ret : Option FieldType} {C : ip_C} (hM : ip_Met l y bytes nL' ret rm C) (hw : ∀ w ∈ ip_wV own idx y bytes nL' ret, w ∈ ip_ws) (hci : (vwCl[ci]?).map (fun q => q.1) = some y.cls) (hn : ip_nm y n) (hR : ip_rR rm R nL') : ip_GS l R own (idx, n + 1, ci + 1, C) := by
  intro p e s m args below meth c cells slots Q cc nL D ad dA A hx hb hml hown hts hK hN hA hc1 hc2 pc L As rest hp ls H locs K' hrel hlen hcat hcase hC kk
  obtain ⟨hL, hP, hD, hS⟩ := id hrel
  simp only at hlen hcase hC
  rcases hcase with ⟨h0, -⟩ | ⟨q, as, cj, fs, hk, rfl, ho, hdg⟩
  · cases h0
  · have hk : ci = cj := by omega
    subst hk
    obtain ⟨qc, hq, hqn⟩ := Option.map_eq_some_iff.mp hci
    have hF := ip_freeA hD hA hS
    have hcode : Cond.code y bytes nL' ret ∈ ip_ws := hw _ (by simp [ip_wV])
    have hn' : as.length = n := by simpa using hlen
    rw [show (((Value.ref q :: as).reverse ++ rest).map (ip_cv ad)) = (as.map (ip_cv ad)).reverse ++ .ref (ad q) :: rest.map (ip_cv ad) by simp [ip_cv]]
    refine ip_back (va_runV (C := y.cls) (As := as.map (ip_cv ad)) (rest := rest.map (ip_cv ad)) ⟨hx, hb, hml, hown, hts⟩ (hM D dA (.ref q :: as) hp K' hC ad H.size) (cwV n hts ?_ rfl hR.1 hR.2.1 ⟨rfl, hn.1, hn.2.1, hn.2.2⟩ ⟨hR.2.2.1, hR.2.2.2⟩) ⟨ip_blind, ?_, fun U hU hW => ⟨rfl, by rw [hU], by rw [hU]; exact hP, va_K.moved hW.alike hK, hD.weaken (fun _ _ _ _ => trivial), ip_N.warm hW hN⟩⟩ rfl (by simpa using hn') hL.size rfl (lv_room (by rw [ip_catSum]; exact hcat)) hdg ⟨hc1, hc2⟩) hS hF (fun r hp' H' locs' hk' hP' hD' hS' => ?_)
    · intro w hw'
      simp only [wsV, List.mem_append] at hw'
      rcases hw' with h | h
      · refine ip_good (hw w ?_)
        simp only [ip_wV, List.mem_cons, List.not_mem_nil, or_false] at h ⊢
        rcases h with h | h | h | h <;> simp [h]
      · exact ip_goodC hcode w h
    · have := va_recv hK hP hq (ip_cw_at ho)
      rw [hqn] at this
      exact this
    · rw [← ip_toList]
      exact kk r hp' H' locs' ⟨hL, hP', hD', hS'⟩ hk'
set_option maxHeartbeats 4000000 in
theorem ip_gsS {l : Launch} {R rm : Room} {own : String} {idx n : Nat} {y : MethodName} {bytes : ByteArray} {nL' : Nat} {ret : Option FieldType} {C : ip_C} (hM : ip_Met l y bytes nL' ret rm C) (hw : ∀ w ∈ ip_wS own idx y bytes nL' ret, w ∈ ip_ws) (hn : ip_nm y n) (hR : ip_rR rm R nL') : ip_GS l R own (idx, n, 0, C) := by
  intro p e s m args below meth c cells slots Q cc nL D ad dA A hx hb hml hown hts hK hN hA hc1 hc2 pc L As rest hp ls H locs K' hrel hlen hcat hcase hC kk
  obtain ⟨hL, hP, hD, hS⟩ := id hrel
  simp only at hlen hcase hC
  rcases hcase with ⟨-, hdg⟩ | ⟨q, as, cj, fs, hk, -⟩
  · have hF := ip_freeA hD hA hS
    have hcode : Cond.code y bytes nL' ret ∈ ip_ws := hw _ (by simp [ip_wS])
    rw [show ((As.reverse ++ rest).map (ip_cv ad)) = (As.map (ip_cv ad)).reverse ++ rest.map (ip_cv ad) by simp]
    refine ip_back (va_runS (As := As.map (ip_cv ad)) (rest := rest.map (ip_cv ad)) ⟨hx, hb, hml, hown, hts⟩ (hM D dA As hp K' hC ad H.size) (va_cwS n hts ?_ rfl hR.1 hR.2.1 ⟨hn.1, hn.2.1, hn.2.2⟩ ⟨hR.2.2.1, hR.2.2.2⟩) ⟨ip_blind, fun U hU hW => ⟨rfl, by rw [hU], by rw [hU]; exact hP, va_K.moved hW.alike hK, hD.weaken (fun _ _ _ _ => trivial), ip_N.warm hW hN⟩⟩ rfl (by simpa using hlen) hL.size rfl (lv_room (by rw [ip_catSum]; exact hcat)) hdg ⟨hc1, hc2⟩) hS hF (fun r hp' H' locs' hk' hP' hD' hS' => ?_)
    · intro w hw'
      simp only [va_wsS, List.mem_append] at hw'
      rcases hw' with h | h
      · refine ip_good (hw w ?_)
        simp only [ip_wS, List.mem_cons, List.not_mem_nil, or_false] at h ⊢
        rcases h with h | h | h <;> simp [h]
      · exact ip_goodC hcode w h
    · rw [← ip_toList]
      exact kk r hp' H' locs' ⟨hL, hP', hD', hS'⟩ hk'
  · cases hk
set_option maxHeartbeats 4000000 in
theorem ip_gsN {l : Launch} {R rm : Room} {own : String} {idx n : Nat} {y : MethodName} {bytes : ByteArray} {nL' : Nat} {ret : Option FieldType} {C : ip_C} (host : String) (hM : ip_Met l y bytes nL' ret rm C) (hl : ∀ U, ip_N U → va_Nw (.methodLinkNest own idx y host) U) (hw : ∀ w ∈ ip_wN y bytes nL' ret, w ∈ ip_ws) (hn : ip_nm y n) (hR : ip_rR rm R nL') : ip_GS l R own (idx, n, 0, C) := by
  intro p e s m args below meth c cells slots Q cc nL D ad dA A hx hb hml hown hts hK hN hA hc1 hc2 pc L As rest hp ls H locs K' hrel hlen hcat hcase hC kk
  obtain ⟨hL, hP, hD, hS⟩ := id hrel
  simp only at hlen hcase hC
  rcases hcase with ⟨-, hdg⟩ | ⟨q, as, cj, fs, hk, -⟩
  · have hF := ip_freeA hD hA hS
    have hcode : Cond.code y bytes nL' ret ∈ ip_ws := hw _ (by simp [ip_wN])
    rw [show ((As.reverse ++ rest).map (ip_cv ad)) = (As.map (ip_cv ad)).reverse ++ rest.map (ip_cv ad) by simp]
    refine ip_back (va_runSN (host := host) (As := As.map (ip_cv ad)) (rest := rest.map (ip_cv ad)) ⟨hx, hb, hml, hown, hts⟩ (hM D dA As hp K' hC ad H.size) ⟨va_cnB n hts (ip_goodC hcode) rfl hR.1 hR.2.1 (hl s hN) (hts _ (hw _ (by simp [ip_wN]))) ⟨hn.1, hn.2.1, hn.2.2⟩ ⟨hR.2.2.1, hR.2.2.2⟩, hts _ (hw _ (by simp [ip_wN])), trivial⟩ ⟨ip_blind, fun U hU hW => ⟨rfl, by rw [hU], by rw [hU]; exact hP, va_K.moved hW.alike hK, hD.weaken (fun _ _ _ _ => trivial), ip_N.warm hW hN⟩⟩ rfl (by simpa using hlen) hL.size rfl (lv_room (by rw [ip_catSum]; exact hcat)) hdg ⟨hc1, hc2⟩) hS hF (fun r hp' H' locs' hk' hP' hD' hS' => ?_)
    rw [← ip_toList]
    exact kk r hp' H' locs' ⟨hL, hP', hD', hS'⟩ hk'
  · cases hk

def ip_rm (d : Nat) : Room := { frames := d, cells := 0, slots := 0, locals := 40 * d }
/-- what is to be shown of a method: its contract is enough for its walk -/
def ip_Pf (fl : List ip_F) (cn : List (Nat × Value)) (cs : List ip_G) (rt : Option FieldType) (tb : List ip_I) (nL : Nat) (C : ip_C) : Prop := ∀ (vs : List Value) (hp : ip_H) (K : ip_K), C vs hp K → (ip_la vs).length ≤ nL ∧ ∃ I : Nat → Nat → ip_P, ip_wp fl cn cs rt tb I K 400 none false tb (ip_L0 nL vs) [] hp ∧ ∀ (pc k : Nat) (L : ip_L) (st : List Value) (hp : ip_H), I pc k L st hp → ip_wp fl cn cs rt tb I K 400 (some k) true (ip_find pc tb) L st hp
theorem ip_pf0 {fl : List ip_F} {cn : List (Nat × Value)} {cs : List ip_G} {rt : Option FieldType} {tb : List ip_I} {nL : Nat} {C : ip_C} (h : ∀ (vs : List Value) (hp : ip_H) (K : ip_K), C vs hp K → (ip_la vs).length ≤ nL ∧ ip_wp fl cn cs rt tb (fun _ _ _ _ _ => False) K 400 none false tb (ip_L0 nL vs) [] hp) : ip_Pf fl cn cs rt tb nL C :=
  fun vs hp K hc => ⟨(h vs hp K hc).1, _, (h vs hp K hc).2, fun _ _ _ _ _ q => q.elim⟩
theorem ip_fl0 {own : String} : ip_flOk own [] := fun _ h => absurd h List.not_mem_nil
theorem ip_cn0 {own : String} : ip_cnOk own [] := fun _ h => absurd h List.not_mem_nil
theorem ip_cs0 {l : Launch} {R : Room} {own : String} : ∀ g ∈ ([] : List ip_G), ip_GS l R own g := fun _ h => absurd h List.not_mem_nil
theorem ip_cs1 {l : Launch} {R : Room} {own : String} {g : ip_G} {cs : List ip_G} (h : ip_GS l R own g) (h2 : ∀ g ∈ cs, ip_GS l R own g) : ∀ x ∈ g :: cs, ip_GS l R own x := List.forall_mem_cons.mpr ⟨h, h2⟩
end
section
/-! ===== the tables of instructions ===== -/
def tb_X0_isThere : List ip_I := [(0, .aload_n 0, 1, false, 0, 0), (1, .getfield 18, 3, false, 0, 0), (4, .ifCond .le 7, 3, false, 0, 11), (7, .iconst 1, 1, false, 1, 0), (8, .goto 4, 3, false, 0, 12), (11, .iconst 0, 1, false, 0, 0), (12, .ireturn, 1, false, 0, 0)]
set_option maxRecDepth 100000 in
theorem ck_X0_isThere : ip_chk cX0_isThere tb_X0_isThere = true := by decide +kernel
def tb_X0_hasParish : List ip_I := [(0, .iload_n 1, 1, false, 0, 0), (1, .ifCond .lt 15, 3, false, 0, 16), (4, .iload_n 1, 1, false, 0, 0), (5, .aload_n 0, 1, false, 0, 0), (6, .getfield 18, 3, false, 0, 0), (9, .if_icmp .ge 7, 3, false, 0, 16), (12, .iconst 1, 1, false, 1, 0), (13, .goto 4, 3, false, 0, 17), (16, .iconst 0, 1, false, 0, 0), (17, .ireturn, 1, false, 0, 0)]
set_option maxRecDepth 100000 in
theorem ck_X0_hasParish : ip_chk cX0_hasParish tb_X0_hasParish = true := by decide +kernel
def tb_X0_manOf : List ip_I := [(0, .iload_n 1, 1, false, 0, 0), (1, .ifCond .lt 16, 3, false, 0, 17), (4, .iload_n 1, 1, false, 0, 0), (5, .aload_n 0, 1, false, 0, 0), (6, .getfield 22, 3, false, 0, 0), (9, .if_icmp .ge 8, 3, false, 0, 17), (12, .iload_n 1, 1, false, 0, 0), (13, .iconst 4, 1, false, 4, 0), (14, .if_icmp .lt 7, 3, false, 0, 21), (17, .aconst_null, 1, false, 0, 0), (18, .goto 9, 3, false, 0, 27), (21, .aload_n 0, 1, false, 0, 0), (22, .getfield 11, 3, false, 0, 0), (25, .iload_n 1, 1, false, 0, 0), (26, .aaload, 1, false, 0, 0), (27, .areturn, 1, false, 0, 0)]
set_option maxRecDepth 100000 in
theorem ck_X0_manOf : ip_chk cX0_manOf tb_X0_manOf = true := by decide +kernel
def tb_X0_menIn : List ip_I := [(0, .iconst 0, 1, false, 0, 0), (1, .istore_n 2, 1, false, 0, 0), (2, .iconst 0, 1, false, 0, 0), (3, .istore_n 3, 1, false, 0, 0), (4, .iload_n 3, 1, true, 0, 0), (5, .aload_n 0, 1, false, 0, 0), (6, .getfield 22, 3, false, 0, 0), (9, .if_icmp .ge 33, 3, false, 0, 42), (12, .iload_n 3, 1, false, 0, 0), (13, .iconst 4, 1, false, 4, 0), (14, .if_icmp .ge 28, 3, false, 0, 42), (17, .aload_n 0, 1, false, 0, 0), (18, .getfield 11, 3, false, 0, 0), (21, .iload_n 3, 1, false, 0, 0), (22, .aaload, 1, false, 0, 0), (23, .getfield 25, 3, false, 0, 0), (26, .iload_n 1, 1, false, 0, 0), (27, .if_icmp .ne 9, 3, false, 0, 36), (30, .iload_n 2, 1, false, 0, 0), (31, .iconst 1, 1, false, 1, 0), (32, .iload_n 3, 1, false, 0, 0), (33, .ishl, 1, false, 0, 0), (34, .ior, 1, false, 0, 0), (35, .istore_n 2, 1, false, 0, 0), (36, .iinc 3 1, 3, false, 1, 0), (39, .goto (-35), 3, false, 0, 4), (42, .iload_n 2, 1, false, 0, 0), (43, .ireturn, 1, false, 0, 0)]
set_option maxRecDepth 100000 in
theorem ck_X0_menIn : ip_chk cX0_menIn tb_X0_menIn = true := by decide +kernel
def tb_X0_dangersBy : List ip_I := [(0, .iconst 0, 1, false, 0, 0), (1, .istore_n 2, 1, false, 0, 0), (2, .iconst 0, 1, false, 0, 0), (3, .istore_n 3, 1, false, 0, 0), (4, .iconst 0, 1, false, 0, 0), (5, .istore 4, 2, false, 0, 0), (7, .iload 4, 2, true, 0, 0), (9, .aload_n 0, 1, false, 0, 0), (10, .getfield 22, 3, false, 0, 0), (13, .if_icmp .ge 58, 3, false, 0, 71), (16, .iload 4, 2, false, 0, 0), (18, .iconst 4, 1, false, 4, 0), (19, .if_icmp .ge 52, 3, false, 0, 71), (22, .iload_n 1, 1, false, 0, 0), (23, .iload 4, 2, false, 0, 0), (25, .invokestatic 28, 3, false, 0, 0), (28, .ifCond .eq 37, 3, false, 0, 65), (31, .iload_n 2, 1, false, 0, 0), (32, .aload_n 0, 1, false, 0, 0), (33, .getfield 11, 3, false, 0, 0), (36, .iload 4, 2, false, 0, 0), (38, .aaload, 1, false, 0, 0), (39, .aload_n 0, 1, false, 0, 0), (40, .getfield 32, 3, false, 0, 0), (43, .invokevirtual 35, 3, false, 0, 0), (46, .ior, 1, false, 0, 0), (47, .istore_n 2, 1, false, 0, 0), (48, .iload_n 3, 1, false, 0, 0), (49, .aload_n 0, 1, false, 0, 0), (50, .getfield 11, 3, false, 0, 0), (53, .iload 4, 2, false, 0, 0), (55, .aaload, 1, false, 0, 0), (56, .aload_n 0, 1, false, 0, 0), (57, .getfield 32, 3, false, 0, 0), (60, .invokevirtual 39, 3, false, 0, 0), (63, .ior, 1, false, 0, 0), (64, .istore_n 3, 1, false, 0, 0), (65, .iinc 4 1, 3, false, 1, 0), (68, .goto (-61), 3, false, 0, 7), (71, .bipush 63, 2, false, 63, 0), (73, .iload_n 2, 1, false, 0, 0), (74, .iload_n 3, 1, false, 0, 0), (75, .iconst (-1), 1, false, (-1), 0), (76, .ixor, 1, false, 0, 0), (77, .iand, 1, false, 0, 0), (78, .iconst (-1), 1, false, (-1), 0), (79, .ixor, 1, false, 0, 0), (80, .iand, 1, false, 0, 0), (81, .ireturn, 1, false, 0, 0)]
set_option maxRecDepth 100000 in
theorem ck_X0_dangersBy : ip_chk cX0_dangersBy tb_X0_dangersBy = true := by decide +kernel
def tb_X0_dangersOf : List ip_I := [(0, .aload_n 0, 1, false, 0, 0), (1, .aload_n 0, 1, false, 0, 0), (2, .iload_n 1, 1, false, 0, 0), (3, .invokevirtual 42, 3, false, 0, 0), (6, .invokevirtual 45, 3, false, 0, 0), (9, .ireturn, 1, false, 0, 0)]
set_option maxRecDepth 100000 in
theorem ck_X0_dangersOf : ip_chk cX0_dangersOf tb_X0_dangersOf = true := by decide +kernel
def tb_X0_isStruck : List ip_I := [(0, .aload_n 0, 1, false, 0, 0), (1, .iload_n 1, 1, false, 0, 0), (2, .invokevirtual 48, 3, false, 0, 0), (5, .iload_n 2, 1, false, 0, 0), (6, .invokestatic 28, 3, false, 0, 0), (9, .ireturn, 1, false, 0, 0)]
set_option maxRecDepth 100000 in
theorem ck_X0_isStruck : ip_chk cX0_isStruck tb_X0_isStruck = true := by decide +kernel
def tb_X0_dangersWithout : List ip_I := [(0, .iconst 0, 1, false, 0, 0), (1, .istore_n 2, 1, false, 0, 0), (2, .iconst 0, 1, false, 0, 0), (3, .istore_n 3, 1, false, 0, 0), (4, .iload_n 3, 1, true, 0, 0), (5, .aload_n 0, 1, false, 0, 0), (6, .getfield 18, 3, false, 0, 0), (9, .if_icmp .ge 28, 3, false, 0, 37), (12, .iload_n 2, 1, false, 0, 0), (13, .aload_n 0, 1, false, 0, 0), (14, .aload_n 0, 1, false, 0, 0), (15, .iload_n 3, 1, false, 0, 0), (16, .invokevirtual 42, 3, false, 0, 0), (19, .iload_n 1, 1, false, 0, 0), (20, .iconst (-1), 1, false, (-1), 0), (21, .ixor, 1, false, 0, 0), (22, .iand, 1, false, 0, 0), (23, .invokevirtual 45, 3, false, 0, 0), (26, .invokestatic 51, 3, false, 0, 0), (29, .iadd, 1, false, 0, 0), (30, .istore_n 2, 1, false, 0, 0), (31, .iinc 3 1, 3, false, 1, 0), (34, .goto (-30), 3, false, 0, 4), (37, .iload_n 2, 1, false, 0, 0), (38, .ireturn, 1, false, 0, 0)]
set_option maxRecDepth 100000 in
theorem ck_X0_dangersWithout : ip_chk cX0_dangersWithout tb_X0_dangersWithout = true := by decide +kernel
def tb_X0_dangerousFrom : List ip_I := [(0, .iconst 0, 1, false, 0, 0), (1, .istore_n 3, 1, false, 0, 0), (2, .iload_n 1, 1, false, 0, 0), (3, .istore 4, 2, false, 0, 0), (5, .iload 4, 2, true, 0, 0), (7, .iload_n 2, 1, false, 0, 0), (8, .if_icmp .gt 30, 3, false, 0, 38), (11, .iload 4, 2, false, 0, 0), (13, .aload_n 0, 1, false, 0, 0), (14, .getfield 18, 3, false, 0, 0), (17, .if_icmp .ge 21, 3, false, 0, 38), (20, .aload_n 0, 1, false, 0, 0), (21, .iload 4, 2, false, 0, 0), (23, .invokevirtual 48, 3, false, 0, 0), (26, .ifCond .eq 6, 3, false, 0, 32), (29, .iinc 3 1, 3, false, 1, 0), (32, .iinc 4 1, 3, false, 1, 0), (35, .goto (-30), 3, false, 0, 5), (38, .iload_n 3, 1, false, 0, 0), (39, .ireturn, 1, false, 0, 0)]
set_option maxRecDepth 100000 in
theorem ck_X0_dangerousFrom : ip_chk cX0_dangerousFrom tb_X0_dangerousFrom = true := by decide +kernel
def tb_X1_firstFault : List ip_I := [(0, .iconst 0, 1, false, 0, 0), (1, .istore_n 3, 1, false, 0, 0), (2, .iload_n 3, 1, true, 0, 0), (3, .iload_n 2, 1, false, 0, 0), (4, .if_icmp .ge 20, 3, false, 0, 24), (7, .aload_n 0, 1, false, 0, 0), (8, .iload_n 1, 1, false, 0, 0), (9, .iload_n 3, 1, false, 0, 0), (10, .invokestatic 9, 3, false, 0, 0), (13, .ifCond .ne 5, 3, false, 0, 18), (16, .iload_n 3, 1, false, 0, 0), (17, .ireturn, 1, false, 0, 0), (18, .iinc 3 1, 3, false, 1, 0), (21, .goto (-19), 3, false, 0, 2), (24, .iload_n 2, 1, false, 0, 0), (25, .bipush 9, 2, false, 9, 0), (27, .if_icmp .lt 15, 3, false, 0, 42), (30, .iload_n 2, 1, false, 0, 0), (31, .iconst 4, 1, false, 4, 0), (32, .isub, 1, false, 0, 0), (33, .iconst 5, 1, false, 5, 0), (34, .irem, 1, false, 0, 0), (35, .ifCond .ne 7, 3, false, 0, 42), (38, .iconst 1, 1, false, 1, 0), (39, .goto 4, 3, false, 0, 43), (42, .iconst 0, 1, false, 0, 0), (43, .istore_n 3, 1, false, 0, 0), (44, .iload_n 3, 1, false, 0, 0), (45, .ifCond .eq 7, 3, false, 0, 52), (48, .iconst (-1), 1, false, (-1), 0), (49, .goto 4, 3, false, 0, 53), (52, .iload_n 2, 1, false, 0, 0), (53, .ireturn, 1, false, 0, 0)]
set_option maxRecDepth 100000 in
theorem ck_X1_firstFault : ip_chk cX1_firstFault tb_X1_firstFault = true := by decide +kernel
def tb_X1_goesOn : List ip_I := [(0, .aload_n 0, 1, false, 0, 0), (1, .iload_n 1, 1, false, 0, 0), (2, .iload_n 2, 1, false, 0, 0), (3, .iadd, 1, false, 0, 0), (4, .invokevirtual 15, 3, false, 0, 0), (7, .istore_n 3, 1, false, 0, 0), (8, .iload_n 2, 1, false, 0, 0), (9, .iconst 4, 1, false, 4, 0), (10, .if_icmp .lt 25, 3, false, 0, 35), (13, .iload_n 2, 1, false, 0, 0), (14, .bipush 24, 2, false, 24, 0), (16, .if_icmp .ge 17, 3, false, 0, 33), (19, .aload_n 0, 1, false, 0, 0), (20, .iload_n 1, 1, false, 0, 0), (21, .iload_n 2, 1, false, 0, 0), (22, .iload_n 3, 1, false, 0, 0), (23, .invokestatic 21, 3, false, 0, 0), (26, .ifCond .eq 7, 3, false, 0, 33), (29, .iconst 1, 1, false, 1, 0), (30, .goto 4, 3, false, 0, 34), (33, .iconst 0, 1, false, 0, 0), (34, .ireturn, 1, false, 0, 0), (35, .iload_n 2, 1, false, 0, 0), (36, .tableswitch 57 0 2 #[28, 40, 45], 28, false, 0, 0), (64, .iload_n 3, 1, false, 0, 0), (65, .bipush 100, 2, false, 100, 0), (67, .if_icmp .ne 7, 3, false, 0, 74), (70, .iconst 1, 1, false, 1, 0), (71, .goto 4, 3, false, 0, 75), (74, .iconst 0, 1, false, 0, 0), (75, .ireturn, 1, false, 0, 0), (76, .iload_n 3, 1, false, 0, 0), (77, .invokestatic 25, 3, false, 0, 0), (80, .ireturn, 1, false, 0, 0), (81, .aload_n 0, 1, false, 0, 0), (82, .iload_n 1, 1, false, 0, 0), (83, .iconst 1, 1, false, 1, 0), (84, .iadd, 1, false, 0, 0), (85, .invokevirtual 15, 3, false, 0, 0), (88, .iload_n 3, 1, false, 0, 0), (89, .invokestatic 29, 3, false, 0, 0), (92, .ireturn, 1, false, 0, 0), (93, .iload_n 3, 1, false, 0, 0), (94, .bipush 50, 2, false, 50, 0), (96, .if_icmp .lt 13, 3, false, 0, 109), (99, .iload_n 3, 1, false, 0, 0), (100, .bipush 54, 2, false, 54, 0), (102, .if_icmp .gt 7, 3, false, 0, 109), (105, .iconst 1, 1, false, 1, 0), (106, .goto 4, 3, false, 0, 110), (109, .iconst 0, 1, false, 0, 0), (110, .ireturn, 1, false, 0, 0)]
set_option maxRecDepth 100000 in
theorem ck_X1_goesOn : ip_chk cX1_goesOn tb_X1_goesOn = true := by decide +kernel
def tb_X1_manGoesOn : List ip_I := [(0, .iload_n 2, 1, false, 0, 0), (1, .iconst 4, 1, false, 4, 0), (2, .isub, 1, false, 0, 0), (3, .iconst 5, 1, false, 5, 0), (4, .irem, 1, false, 0, 0), (5, .tableswitch 95 0 3 #[31, 43, 67, 90], 31, false, 0, 0), (36, .iload_n 3, 1, false, 0, 0), (37, .bipush 44, 2, false, 44, 0), (39, .if_icmp .ne 7, 3, false, 0, 46), (42, .iconst 1, 1, false, 1, 0), (43, .goto 4, 3, false, 0, 47), (46, .iconst 0, 1, false, 0, 0), (47, .ireturn, 1, false, 0, 0), (48, .iload_n 3, 1, false, 0, 0), (49, .bipush 109, 2, false, 109, 0), (51, .if_icmp .eq 15, 3, false, 0, 66), (54, .iload_n 3, 1, false, 0, 0), (55, .bipush 98, 2, false, 98, 0), (57, .if_icmp .eq 9, 3, false, 0, 66), (60, .iload_n 3, 1, false, 0, 0), (61, .bipush 115, 2, false, 115, 0), (63, .if_icmp .ne 7, 3, false, 0, 70), (66, .iconst 1, 1, false, 1, 0), (67, .goto 4, 3, false, 0, 71), (70, .iconst 0, 1, false, 0, 0), (71, .ireturn, 1, false, 0, 0), (72, .iload_n 3, 1, false, 0, 0), (73, .bipush 48, 2, false, 48, 0), (75, .if_icmp .lt 18, 3, false, 0, 93), (78, .iload_n 3, 1, false, 0, 0), (79, .aload_n 0, 1, false, 0, 0), (80, .iload_n 1, 1, false, 0, 0), (81, .iconst 3, 1, false, 3, 0), (82, .iadd, 1, false, 0, 0), (83, .invokevirtual 15, 3, false, 0, 0), (86, .if_icmp .ge 7, 3, false, 0, 93), (89, .iconst 1, 1, false, 1, 0), (90, .goto 4, 3, false, 0, 94), (93, .iconst 0, 1, false, 0, 0), (94, .ireturn, 1, false, 0, 0), (95, .iload_n 3, 1, false, 0, 0), (96, .invokestatic 25, 3, false, 0, 0), (99, .ireturn, 1, false, 0, 0), (100, .aload_n 0, 1, false, 0, 0), (101, .iload_n 1, 1, false, 0, 0), (102, .iload_n 2, 1, false, 0, 0), (103, .iadd, 1, false, 0, 0), (104, .iconst 1, 1, false, 1, 0), (105, .isub, 1, false, 0, 0), (106, .invokevirtual 15, 3, false, 0, 0), (109, .iload_n 3, 1, false, 0, 0), (110, .invokestatic 29, 3, false, 0, 0), (113, .ireturn, 1, false, 0, 0)]
set_option maxRecDepth 100000 in
theorem ck_X1_manGoesOn : ip_chk cX1_manGoesOn tb_X1_manGoesOn = true := by decide +kernel
def tb_X1_isFirstDigit : List ip_I := [(0, .iload_n 0, 1, false, 0, 0), (1, .bipush 48, 2, false, 48, 0), (3, .if_icmp .lt 13, 3, false, 0, 16), (6, .iload_n 0, 1, false, 0, 0), (7, .bipush 54, 2, false, 54, 0), (9, .if_icmp .gt 7, 3, false, 0, 16), (12, .iconst 1, 1, false, 1, 0), (13, .goto 4, 3, false, 0, 17), (16, .iconst 0, 1, false, 0, 0), (17, .ireturn, 1, false, 0, 0)]
set_option maxRecDepth 100000 in
theorem ck_X1_isFirstDigit : ip_chk cX1_isFirstDigit tb_X1_isFirstDigit = true := by decide +kernel
def tb_X1_isSecondDigit : List ip_I := [(0, .iload_n 1, 1, false, 0, 0), (1, .bipush 48, 2, false, 48, 0), (3, .if_icmp .lt 24, 3, false, 0, 27), (6, .iload_n 1, 1, false, 0, 0), (7, .iload_n 0, 1, false, 0, 0), (8, .bipush 54, 2, false, 54, 0), (10, .if_icmp .ne 8, 3, false, 0, 18), (13, .bipush 51, 2, false, 51, 0), (15, .goto 5, 3, false, 0, 20), (18, .bipush 57, 2, false, 57, 0), (20, .if_icmp .gt 7, 3, false, 0, 27), (23, .iconst 1, 1, false, 1, 0), (24, .goto 4, 3, false, 0, 28), (27, .iconst 0, 1, false, 0, 0), (28, .ireturn, 1, false, 0, 0)]
set_option maxRecDepth 100000 in
theorem ck_X1_isSecondDigit : ip_chk cX1_isSecondDigit tb_X1_isSecondDigit = true := by decide +kernel
def tb_X1_settle : List ip_I := [(0, .aload_n 3, 1, false, 0, 0), (1, .aload_n 0, 1, false, 0, 0), (2, .iload_n 1, 1, false, 0, 0), (3, .iconst 1, 1, false, 1, 0), (4, .iadd, 1, false, 0, 0), (5, .invokestatic 33, 3, false, 0, 0), (8, .putfield 37, 3, false, 0, 0), (11, .aload_n 3, 1, false, 0, 0), (12, .aload_n 0, 1, false, 0, 0), (13, .iload_n 1, 1, false, 0, 0), (14, .iconst 3, 1, false, 3, 0), (15, .iadd, 1, false, 0, 0), (16, .invokevirtual 15, 3, false, 0, 0), (19, .bipush 48, 2, false, 48, 0), (21, .isub, 1, false, 0, 0), (22, .putfield 43, 3, false, 0, 0), (25, .aload_n 3, 1, false, 0, 0), (26, .iload_n 2, 1, false, 0, 0), (27, .iconst 4, 1, false, 4, 0), (28, .isub, 1, false, 0, 0), (29, .iconst 5, 1, false, 5, 0), (30, .idiv, 1, false, 0, 0), (31, .iconst 4, 1, false, 4, 0), (32, .invokestatic 46, 3, false, 0, 0), (35, .putfield 52, 3, false, 0, 0), (38, .iconst 0, 1, false, 0, 0), (39, .istore 4, 2, false, 0, 0), (41, .iload 4, 2, true, 0, 0), (43, .aload_n 3, 1, false, 0, 0), (44, .getfield 52, 3, false, 0, 0), (47, .if_icmp .ge 73, 3, false, 0, 120), (50, .iload_n 1, 1, false, 0, 0), (51, .iconst 4, 1, false, 4, 0), (52, .iadd, 1, false, 0, 0), (53, .iload 4, 2, false, 0, 0), (55, .iconst 5, 1, false, 5, 0), (56, .imul, 1, false, 0, 0), (57, .iadd, 1, false, 0, 0), (58, .iconst 1, 1, false, 1, 0), (59, .iadd, 1, false, 0, 0), (60, .istore 5, 2, false, 0, 0), (62, .aload_n 3, 1, false, 0, 0), (63, .getfield 55, 3, false, 0, 0), (66, .iload 4, 2, false, 0, 0), (68, .aaload, 1, false, 0, 0), (69, .astore 6, 2, false, 0, 0), (71, .aload 6, 2, false, 0, 0), (73, .aload_n 0, 1, false, 0, 0), (74, .iload 5, 2, false, 0, 0), (76, .invokevirtual 15, 3, false, 0, 0), (79, .invokestatic 59, 3, false, 0, 0), (82, .putfield 62, 3, false, 0, 0), (85, .aload 6, 2, false, 0, 0), (87, .aload_n 0, 1, false, 0, 0), (88, .iload 5, 2, false, 0, 0), (90, .iconst 1, 1, false, 1, 0), (91, .iadd, 1, false, 0, 0), (92, .invokevirtual 15, 3, false, 0, 0), (95, .bipush 48, 2, false, 48, 0), (97, .isub, 1, false, 0, 0), (98, .putfield 67, 3, false, 0, 0), (101, .aload 6, 2, false, 0, 0), (103, .aload_n 0, 1, false, 0, 0), (104, .iload 5, 2, false, 0, 0), (106, .iconst 2, 1, false, 2, 0), (107, .iadd, 1, false, 0, 0), (108, .invokestatic 33, 3, false, 0, 0), (111, .putfield 70, 3, false, 0, 0), (114, .iinc 4 1, 3, false, 1, 0), (117, .goto (-76), 3, false, 0, 41), (120, .return_, 1, false, 0, 0)]
set_option maxRecDepth 100000 in
theorem ck_X1_settle : ip_chk cX1_settle tb_X1_settle = true := by decide +kernel
def tb_X1_setAt : List ip_I := [(0, .aload_n 0, 1, false, 0, 0), (1, .iload_n 1, 1, false, 0, 0), (2, .invokevirtual 15, 3, false, 0, 0), (5, .bipush 48, 2, false, 48, 0), (7, .isub, 1, false, 0, 0), (8, .bipush 10, 2, false, 10, 0), (10, .imul, 1, false, 0, 0), (11, .aload_n 0, 1, false, 0, 0), (12, .iload_n 1, 1, false, 0, 0), (13, .iconst 1, 1, false, 1, 0), (14, .iadd, 1, false, 0, 0), (15, .invokevirtual 15, 3, false, 0, 0), (18, .iadd, 1, false, 0, 0), (19, .bipush 48, 2, false, 48, 0), (21, .isub, 1, false, 0, 0), (22, .ireturn, 1, false, 0, 0)]
set_option maxRecDepth 100000 in
theorem ck_X1_setAt : ip_chk cX1_setAt tb_X1_setAt = true := by decide +kernel
def tb_X1_kindBy : List ip_I := [(0, .iload_n 0, 1, false, 0, 0), (1, .bipush 115, 2, false, 115, 0), (3, .if_icmp .ne 7, 3, false, 0, 10), (6, .iconst 2, 1, false, 2, 0), (7, .goto 14, 3, false, 0, 21), (10, .iload_n 0, 1, false, 0, 0), (11, .bipush 98, 2, false, 98, 0), (13, .if_icmp .ne 7, 3, false, 0, 20), (16, .iconst 1, 1, false, 1, 0), (17, .goto 4, 3, false, 0, 21), (20, .iconst 0, 1, false, 0, 0), (21, .ireturn, 1, false, 0, 0)]
set_option maxRecDepth 100000 in
theorem ck_X1_kindBy : ip_chk cX1_kindBy tb_X1_kindBy = true := by decide +kernel
def tb_X2_rightBy : List ip_I := [(0, .aload_n 0, 1, false, 0, 0), (1, .getfield 9, 3, false, 0, 0), (4, .lookupswitch 37 #[(1, 30), (2, 28)], 28, false, 0, 0), (32, .iconst 0, 1, false, 0, 0), (33, .ireturn, 1, false, 0, 0), (34, .aload_n 0, 1, false, 0, 0), (35, .getfield 15, 3, false, 0, 0), (38, .iload_n 1, 1, false, 0, 0), (39, .ior, 1, false, 0, 0), (40, .ireturn, 1, false, 0, 0), (41, .aload_n 0, 1, false, 0, 0), (42, .getfield 15, 3, false, 0, 0), (45, .ireturn, 1, false, 0, 0)]
set_option maxRecDepth 100000 in
theorem ck_X2_rightBy : ip_chk cX2_rightBy tb_X2_rightBy = true := by decide +kernel
def tb_X2_wrongBy : List ip_I := [(0, .aload_n 0, 1, false, 0, 0), (1, .getfield 9, 3, false, 0, 0), (4, .lookupswitch 45 #[(1, 33), (2, 28)], 28, false, 0, 0), (32, .aload_n 0, 1, false, 0, 0), (33, .getfield 15, 3, false, 0, 0), (36, .ireturn, 1, false, 0, 0), (37, .bipush 63, 2, false, 63, 0), (39, .aload_n 0, 1, false, 0, 0), (40, .getfield 15, 3, false, 0, 0), (43, .iload_n 1, 1, false, 0, 0), (44, .ior, 1, false, 0, 0), (45, .iconst (-1), 1, false, (-1), 0), (46, .ixor, 1, false, 0, 0), (47, .iand, 1, false, 0, 0), (48, .ireturn, 1, false, 0, 0), (49, .iconst 0, 1, false, 0, 0), (50, .ireturn, 1, false, 0, 0)]
set_option maxRecDepth 100000 in
theorem ck_X2_wrongBy : ip_chk cX2_wrongBy tb_X2_wrongBy = true := by decide +kernel
def tb_X3_find : List ip_I := [(0, .aload_n 0, 1, false, 0, 0), (1, .aload_n 1, 1, false, 0, 0), (2, .getfield 24, 3, false, 0, 0), (5, .bipush 6, 2, false, 6, 0), (7, .invokestatic 30, 3, false, 0, 0), (10, .putfield 36, 3, false, 0, 0), (13, .aload_n 0, 1, false, 0, 0), (14, .aload_n 1, 1, false, 0, 0), (15, .getfield 37, 3, false, 0, 0), (18, .iconst 4, 1, false, 4, 0), (19, .invokestatic 30, 3, false, 0, 0), (22, .putfield 40, 3, false, 0, 0), (25, .aload_n 0, 1, false, 0, 0), (26, .aload_n 1, 1, false, 0, 0), (27, .aload_n 2, 1, false, 0, 0), (28, .invokevirtual 43, 3, false, 0, 0), (31, .aload_n 0, 1, false, 0, 0), (32, .getfield 15, 3, false, 0, 0), (35, .iconst 0, 1, false, 0, 0), (36, .invokestatic 47, 3, false, 0, 0), (39, .aload_n 0, 1, false, 0, 0), (40, .aload_n 2, 1, false, 0, 0), (41, .getfield 53, 3, false, 0, 0), (44, .iconst 1, 1, false, 1, 0), (45, .iadd, 1, false, 0, 0), (46, .putfield 58, 3, false, 0, 0), (49, .aload_n 0, 1, false, 0, 0), (50, .iconst 0, 1, false, 0, 0), (51, .aload_n 2, 1, false, 0, 0), (52, .getfield 53, 3, false, 0, 0), (55, .invokestatic 61, 3, false, 0, 0), (58, .return_, 1, false, 0, 0)]
set_option maxRecDepth 100000 in
theorem ck_X3_find : ip_chk cX3_find tb_X3_find = true := by decide +kernel
def tb_X3_parishOf : List ip_I := [(0, .iload_n 1, 1, false, 0, 0), (1, .ifCond .lt 17, 3, false, 0, 18), (4, .iload_n 1, 1, false, 0, 0), (5, .iconst 4, 1, false, 4, 0), (6, .if_icmp .ge 12, 3, false, 0, 18), (9, .aload_n 0, 1, false, 0, 0), (10, .getfield 21, 3, false, 0, 0), (13, .iload_n 1, 1, false, 0, 0), (14, .iaload, 1, false, 0, 0), (15, .goto 5, 3, false, 0, 20), (18, .bipush (-9), 2, false, (-9), 0), (20, .ireturn, 1, false, 0, 0)]
set_option maxRecDepth 100000 in
theorem ck_X3_parishOf : ip_chk cX3_parishOf tb_X3_parishOf = true := by decide +kernel
def tb_X3_weigh : List ip_I := [(0, .aload_n 0, 1, false, 0, 0), (1, .getfield 9, 3, false, 0, 0), (4, .iconst 0, 1, false, 0, 0), (5, .invokestatic 47, 3, false, 0, 0), (8, .iconst 0, 1, false, 0, 0), (9, .istore_n 3, 1, false, 0, 0), (10, .iload_n 3, 1, true, 0, 0), (11, .bipush 16, 2, false, 16, 0), (13, .if_icmp .ge 86, 3, false, 0, 99), (16, .aload_n 1, 1, false, 0, 0), (17, .iload_n 3, 1, false, 0, 0), (18, .invokevirtual 65, 3, false, 0, 0), (21, .istore 4, 2, false, 0, 0), (23, .iconst 0, 1, false, 0, 0), (24, .istore 5, 2, false, 0, 0), (26, .iload 5, 2, true, 0, 0), (28, .aload_n 2, 1, false, 0, 0), (29, .getfield 53, 3, false, 0, 0), (32, .if_icmp .ge 61, 3, false, 0, 93), (35, .aload_n 2, 1, false, 0, 0), (36, .getfield 69, 3, false, 0, 0), (39, .iload 5, 2, false, 0, 0), (41, .iaload, 1, false, 0, 0), (42, .istore 6, 2, false, 0, 0), (44, .iload 6, 2, false, 0, 0), (46, .ifCond .lt 41, 3, false, 0, 87), (49, .iload 6, 2, false, 0, 0), (51, .bipush 6, 2, false, 6, 0), (53, .if_icmp .ge 34, 3, false, 0, 87), (56, .iload 4, 2, false, 0, 0), (58, .aload_n 2, 1, false, 0, 0), (59, .getfield 71, 3, false, 0, 0), (62, .iload 5, 2, false, 0, 0), (64, .iaload, 1, false, 0, 0), (65, .invokestatic 74, 3, false, 0, 0), (68, .ifCond .eq 19, 3, false, 0, 87), (71, .aload_n 0, 1, false, 0, 0), (72, .getfield 9, 3, false, 0, 0), (75, .iload 6, 2, false, 0, 0), (77, .bipush 16, 2, false, 16, 0), (79, .imul, 1, false, 0, 0), (80, .iload_n 3, 1, false, 0, 0), (81, .iadd, 1, false, 0, 0), (82, .dup2, 1, false, 0, 0), (83, .iaload, 1, false, 0, 0), (84, .iconst 1, 1, false, 1, 0), (85, .iadd, 1, false, 0, 0), (86, .iastore, 1, false, 0, 0), (87, .iinc 5 1, 3, false, 1, 0), (90, .goto (-64), 3, false, 0, 26), (93, .iinc 3 1, 3, false, 1, 0), (96, .goto (-86), 3, false, 0, 10), (99, .return_, 1, false, 0, 0)]
set_option maxRecDepth 100000 in
theorem ck_X3_weigh : ip_chk cX3_weigh tb_X3_weigh = true := by decide +kernel
def tb_X3_goOn : List ip_I := [(0, .iload_n 1, 1, false, 0, 0), (1, .ifCond .lt 16, 3, false, 0, 17), (4, .iload_n 1, 1, false, 0, 0), (5, .aload_n 0, 1, false, 0, 0), (6, .getfield 40, 3, false, 0, 0), (9, .if_icmp .ge 8, 3, false, 0, 17), (12, .iload_n 1, 1, false, 0, 0), (13, .iconst 4, 1, false, 4, 0), (14, .if_icmp .lt 9, 3, false, 0, 23), (17, .aload_n 0, 1, false, 0, 0), (18, .iload_n 2, 1, false, 0, 0), (19, .invokevirtual 78, 3, false, 0, 0), (22, .return_, 1, false, 0, 0), (23, .iconst 0, 1, false, 0, 0), (24, .istore_n 3, 1, false, 0, 0), (25, .iload_n 3, 1, true, 0, 0), (26, .aload_n 0, 1, false, 0, 0), (27, .getfield 36, 3, false, 0, 0), (30, .if_icmp .ge 89, 3, false, 0, 119), (33, .aload_n 0, 1, false, 0, 0), (34, .getfield 15, 3, false, 0, 0), (37, .iload_n 3, 1, false, 0, 0), (38, .iaload, 1, false, 0, 0), (39, .istore 4, 2, false, 0, 0), (41, .iload 4, 2, false, 0, 0), (43, .iconst 1, 1, false, 1, 0), (44, .iload_n 1, 1, false, 0, 0), (45, .ishl, 1, false, 0, 0), (46, .ior, 1, false, 0, 0), (47, .bipush 15, 2, false, 15, 0), (49, .iand, 1, false, 0, 0), (50, .istore 5, 2, false, 0, 0), (52, .aload_n 0, 1, false, 0, 0), (53, .getfield 9, 3, false, 0, 0), (56, .iload_n 3, 1, false, 0, 0), (57, .bipush 16, 2, false, 16, 0), (59, .imul, 1, false, 0, 0), (60, .iload 5, 2, false, 0, 0), (62, .iadd, 1, false, 0, 0), (63, .iaload, 1, false, 0, 0), (64, .aload_n 0, 1, false, 0, 0), (65, .getfield 9, 3, false, 0, 0), (68, .iload_n 3, 1, false, 0, 0), (69, .bipush 16, 2, false, 16, 0), (71, .imul, 1, false, 0, 0), (72, .iload 4, 2, false, 0, 0), (74, .iadd, 1, false, 0, 0), (75, .iaload, 1, false, 0, 0), (76, .isub, 1, false, 0, 0), (77, .istore 6, 2, false, 0, 0), (79, .aload_n 0, 1, false, 0, 0), (80, .getfield 18, 3, false, 0, 0), (83, .iload_n 1, 1, false, 0, 0), (84, .iload_n 3, 1, false, 0, 0), (85, .iastore, 1, false, 0, 0), (86, .aload_n 0, 1, false, 0, 0), (87, .getfield 15, 3, false, 0, 0), (90, .iload_n 3, 1, false, 0, 0), (91, .iload 5, 2, false, 0, 0), (93, .iastore, 1, false, 0, 0), (94, .aload_n 0, 1, false, 0, 0), (95, .iload_n 1, 1, false, 0, 0), (96, .iconst 1, 1, false, 1, 0), (97, .iadd, 1, false, 0, 0), (98, .iload_n 2, 1, false, 0, 0), (99, .iload 6, 2, false, 0, 0), (101, .iadd, 1, false, 0, 0), (102, .invokestatic 61, 3, false, 0, 0), (105, .aload_n 0, 1, false, 0, 0), (106, .getfield 15, 3, false, 0, 0), (109, .iload_n 3, 1, false, 0, 0), (110, .iload 4, 2, false, 0, 0), (112, .iastore, 1, false, 0, 0), (113, .iinc 3 1, 3, false, 1, 0), (116, .goto (-91), 3, false, 0, 25), (119, .return_, 1, false, 0, 0)]
set_option maxRecDepth 100000 in
theorem ck_X3_goOn : ip_chk cX3_goOn tb_X3_goOn = true := by decide +kernel
def tb_X3_keepIfFewer : List ip_I := [(0, .iload_n 1, 1, false, 0, 0), (1, .aload_n 0, 1, false, 0, 0), (2, .getfield 58, 3, false, 0, 0), (5, .if_icmp .ge 22, 3, false, 0, 27), (8, .aload_n 0, 1, false, 0, 0), (9, .iload_n 1, 1, false, 0, 0), (10, .putfield 58, 3, false, 0, 0), (13, .aload_n 0, 1, false, 0, 0), (14, .getfield 18, 3, false, 0, 0), (17, .iconst 0, 1, false, 0, 0), (18, .aload_n 0, 1, false, 0, 0), (19, .getfield 21, 3, false, 0, 0), (22, .iconst 0, 1, false, 0, 0), (23, .iconst 4, 1, false, 4, 0), (24, .invokestatic 82, 3, false, 0, 0), (27, .return_, 1, false, 0, 0)]
set_option maxRecDepth 100000 in
theorem ck_X3_keepIfFewer : ip_chk cX3_keepIfFewer tb_X3_keepIfFewer = true := by decide +kernel
def tb_X4_note : List ip_I := [(0, .aload_n 0, 1, false, 0, 0), (1, .getfield 22, 3, false, 0, 0), (4, .ifCond .lt 12, 3, false, 0, 16), (7, .aload_n 0, 1, false, 0, 0), (8, .getfield 22, 3, false, 0, 0), (11, .bipush 8, 2, false, 8, 0), (13, .if_icmp .lt 5, 3, false, 0, 18), (16, .iconst 0, 1, false, 0, 0), (17, .ireturn, 1, false, 0, 0), (18, .aload_n 0, 1, false, 0, 0), (19, .getfield 9, 3, false, 0, 0), (22, .aload_n 0, 1, false, 0, 0), (23, .getfield 22, 3, false, 0, 0), (26, .iload_n 1, 1, false, 0, 0), (27, .iastore, 1, false, 0, 0), (28, .aload_n 0, 1, false, 0, 0), (29, .getfield 15, 3, false, 0, 0), (32, .aload_n 0, 1, false, 0, 0), (33, .getfield 22, 3, false, 0, 0), (36, .iload_n 2, 1, false, 0, 0), (37, .iastore, 1, false, 0, 0), (38, .aload_n 0, 1, false, 0, 0), (39, .getfield 18, 3, false, 0, 0), (42, .aload_n 0, 1, false, 0, 0), (43, .getfield 22, 3, false, 0, 0), (46, .iload_n 3, 1, false, 0, 0), (47, .bastore, 1, false, 0, 0), (48, .aload_n 0, 1, false, 0, 0), (49, .dup, 1, false, 0, 0), (50, .getfield 22, 3, false, 0, 0), (53, .iconst 1, 1, false, 1, 0), (54, .iadd, 1, false, 0, 0), (55, .putfield 22, 3, false, 0, 0), (58, .iconst 1, 1, false, 1, 0), (59, .ireturn, 1, false, 0, 0)]
set_option maxRecDepth 100000 in
theorem ck_X4_note : ip_chk cX4_note tb_X4_note = true := by decide +kernel
def tb_X4_allSoIn : List ip_I := [(0, .iconst 0, 1, false, 0, 0), (1, .istore_n 2, 1, false, 0, 0), (2, .iload_n 2, 1, true, 0, 0), (3, .aload_n 0, 1, false, 0, 0), (4, .getfield 22, 3, false, 0, 0), (7, .if_icmp .ge 36, 3, false, 0, 43), (10, .aload_n 1, 1, false, 0, 0), (11, .aload_n 0, 1, false, 0, 0), (12, .getfield 9, 3, false, 0, 0), (15, .iload_n 2, 1, false, 0, 0), (16, .iaload, 1, false, 0, 0), (17, .aload_n 0, 1, false, 0, 0), (18, .getfield 15, 3, false, 0, 0), (21, .iload_n 2, 1, false, 0, 0), (22, .iaload, 1, false, 0, 0), (23, .invokevirtual 26, 3, false, 0, 0), (26, .aload_n 0, 1, false, 0, 0), (27, .getfield 18, 3, false, 0, 0), (30, .iload_n 2, 1, false, 0, 0), (31, .baload, 1, false, 0, 0), (32, .if_icmp .eq 5, 3, false, 0, 37), (35, .iconst 0, 1, false, 0, 0), (36, .ireturn, 1, false, 0, 0), (37, .iinc 2 1, 3, false, 1, 0), (40, .goto (-38), 3, false, 0, 2), (43, .iconst 1, 1, false, 1, 0), (44, .ireturn, 1, false, 0, 0)]
set_option maxRecDepth 100000 in
theorem ck_X4_allSoIn : ip_chk cX4_allSoIn tb_X4_allSoIn = true := by decide +kernel
def tb_X4_likelyTruths : List ip_I := [(0, .aload_n 1, 1, false, 0, 0), (1, .getfield 32, 3, false, 0, 0), (4, .istore_n 2, 1, false, 0, 0), (5, .lconst 0, 1, false, 0, 0), (6, .lstore_n 3, 1, false, 0, 0), (7, .iconst 0, 1, false, 0, 0), (8, .istore 5, 2, false, 0, 0), (10, .iload 5, 2, true, 0, 0), (12, .bipush 64, 2, false, 64, 0), (14, .if_icmp .ge 30, 3, false, 0, 44), (17, .aload_n 1, 1, false, 0, 0), (18, .iload 5, 2, false, 0, 0), (20, .putfield 32, 3, false, 0, 0), (23, .aload_n 0, 1, false, 0, 0), (24, .aload_n 1, 1, false, 0, 0), (25, .invokevirtual 35, 3, false, 0, 0), (28, .ifCond .eq 10, 3, false, 0, 38), (31, .lload_n 3, 1, false, 0, 0), (32, .lconst 1, 1, false, 0, 0), (33, .iload 5, 2, false, 0, 0), (35, .lshl, 1, false, 0, 0), (36, .lor, 1, false, 0, 0), (37, .lstore_n 3, 1, false, 0, 0), (38, .iinc 5 1, 3, false, 1, 0), (41, .goto (-31), 3, false, 0, 10), (44, .aload_n 1, 1, false, 0, 0), (45, .iload_n 2, 1, false, 0, 0), (46, .putfield 32, 3, false, 0, 0), (49, .lload_n 3, 1, false, 0, 0), (50, .lreturn, 1, false, 0, 0)]
set_option maxRecDepth 100000 in
theorem ck_X4_likelyTruths : ip_chk cX4_likelyTruths tb_X4_likelyTruths = true := by decide +kernel
def tb_X4_likelyParishes : List ip_I := [(0, .aload_n 2, 1, false, 0, 0), (1, .getfield 39, 3, false, 0, 0), (4, .istore_n 3, 1, false, 0, 0), (5, .iconst 0, 1, false, 0, 0), (6, .istore 4, 2, false, 0, 0), (8, .iconst 0, 1, false, 0, 0), (9, .istore 5, 2, false, 0, 0), (11, .iload 5, 2, true, 0, 0), (13, .aload_n 1, 1, false, 0, 0), (14, .getfield 44, 3, false, 0, 0), (17, .if_icmp .ge 32, 3, false, 0, 49), (20, .aload_n 2, 1, false, 0, 0), (21, .iload 5, 2, false, 0, 0), (23, .putfield 39, 3, false, 0, 0), (26, .aload_n 0, 1, false, 0, 0), (27, .aload_n 1, 1, false, 0, 0), (28, .invokevirtual 35, 3, false, 0, 0), (31, .ifCond .eq 12, 3, false, 0, 43), (34, .iload 4, 2, false, 0, 0), (36, .iconst 1, 1, false, 1, 0), (37, .iload 5, 2, false, 0, 0), (39, .ishl, 1, false, 0, 0), (40, .ior, 1, false, 0, 0), (41, .istore 4, 2, false, 0, 0), (43, .iinc 5 1, 3, false, 1, 0), (46, .goto (-35), 3, false, 0, 11), (49, .aload_n 2, 1, false, 0, 0), (50, .iload_n 3, 1, false, 0, 0), (51, .putfield 39, 3, false, 0, 0), (54, .iload 4, 2, false, 0, 0), (56, .ireturn, 1, false, 0, 0)]
set_option maxRecDepth 100000 in
theorem ck_X4_likelyParishes : ip_chk cX4_likelyParishes tb_X4_likelyParishes = true := by decide +kernel
def tb_X4_likelyKinds : List ip_I := [(0, .aload_n 2, 1, false, 0, 0), (1, .getfield 46, 3, false, 0, 0), (4, .istore_n 3, 1, false, 0, 0), (5, .iconst 0, 1, false, 0, 0), (6, .istore 4, 2, false, 0, 0), (8, .iconst 0, 1, false, 0, 0), (9, .istore 5, 2, false, 0, 0), (11, .iload 5, 2, true, 0, 0), (13, .iconst 3, 1, false, 3, 0), (14, .if_icmp .ge 32, 3, false, 0, 46), (17, .aload_n 2, 1, false, 0, 0), (18, .iload 5, 2, false, 0, 0), (20, .putfield 46, 3, false, 0, 0), (23, .aload_n 0, 1, false, 0, 0), (24, .aload_n 1, 1, false, 0, 0), (25, .invokevirtual 35, 3, false, 0, 0), (28, .ifCond .eq 12, 3, false, 0, 40), (31, .iload 4, 2, false, 0, 0), (33, .iconst 1, 1, false, 1, 0), (34, .iload 5, 2, false, 0, 0), (36, .ishl, 1, false, 0, 0), (37, .ior, 1, false, 0, 0), (38, .istore 4, 2, false, 0, 0), (40, .iinc 5 1, 3, false, 1, 0), (43, .goto (-32), 3, false, 0, 11), (46, .aload_n 2, 1, false, 0, 0), (47, .iload_n 3, 1, false, 0, 0), (48, .putfield 46, 3, false, 0, 0), (51, .iload 4, 2, false, 0, 0), (53, .ireturn, 1, false, 0, 0)]
set_option maxRecDepth 100000 in
theorem ck_X4_likelyKinds : ip_chk cX4_likelyKinds tb_X4_likelyKinds = true := by decide +kernel
def tb_X4_likelyLists : List ip_I := [(0, .aload_n 2, 1, false, 0, 0), (1, .getfield 49, 3, false, 0, 0), (4, .istore_n 3, 1, false, 0, 0), (5, .lconst 0, 1, false, 0, 0), (6, .lstore 4, 2, false, 0, 0), (8, .iconst 0, 1, false, 0, 0), (9, .istore 6, 2, false, 0, 0), (11, .iload 6, 2, true, 0, 0), (13, .bipush 64, 2, false, 64, 0), (15, .if_icmp .ge 32, 3, false, 0, 47), (18, .aload_n 2, 1, false, 0, 0), (19, .iload 6, 2, false, 0, 0), (21, .putfield 49, 3, false, 0, 0), (24, .aload_n 0, 1, false, 0, 0), (25, .aload_n 1, 1, false, 0, 0), (26, .invokevirtual 35, 3, false, 0, 0), (29, .ifCond .eq 12, 3, false, 0, 41), (32, .lload 4, 2, false, 0, 0), (34, .lconst 1, 1, false, 0, 0), (35, .iload 6, 2, false, 0, 0), (37, .lshl, 1, false, 0, 0), (38, .lor, 1, false, 0, 0), (39, .lstore 4, 2, false, 0, 0), (41, .iinc 6 1, 3, false, 1, 0), (44, .goto (-33), 3, false, 0, 11), (47, .aload_n 2, 1, false, 0, 0), (48, .iload_n 3, 1, false, 0, 0), (49, .putfield 49, 3, false, 0, 0), (52, .lload 4, 2, false, 0, 0), (54, .lreturn, 1, false, 0, 0)]
set_option maxRecDepth 100000 in
theorem ck_X4_likelyLists : ip_chk cX4_likelyLists tb_X4_likelyLists = true := by decide +kernel
def tb_X5_renew : List ip_I := [(0, .aload_n 0, 1, false, 0, 0), (1, .iconst 1, 1, false, 1, 0), (2, .putfield 15, 3, false, 0, 0), (5, .aload_n 0, 1, false, 0, 0), (6, .iload_n 1, 1, false, 0, 0), (7, .putfield 19, 3, false, 0, 0), (10, .aload_n 0, 1, false, 0, 0), (11, .iconst 0, 1, false, 0, 0), (12, .iload_n 2, 1, false, 0, 0), (13, .bipush 60, 2, false, 60, 0), (15, .invokestatic 23, 3, false, 0, 0), (18, .invokestatic 29, 3, false, 0, 0), (21, .putfield 32, 3, false, 0, 0), (24, .aload_n 0, 1, false, 0, 0), (25, .getfield 9, 3, false, 0, 0), (28, .iconst 0, 1, false, 0, 0), (29, .invokestatic 35, 3, false, 0, 0), (32, .return_, 1, false, 0, 0)]
set_option maxRecDepth 100000 in
theorem ck_X5_renew : ip_chk cX5_renew tb_X5_renew = true := by decide +kernel
def tb_X5_hasCells : List ip_I := [(0, .iload_n 2, 1, false, 0, 0), (1, .ifCond .lt 29, 3, false, 0, 30), (4, .iload_n 1, 1, false, 0, 0), (5, .ifCond .lt 25, 3, false, 0, 30), (8, .iload_n 1, 1, false, 0, 0), (9, .aload_n 0, 1, false, 0, 0), (10, .getfield 32, 3, false, 0, 0), (13, .if_icmp .gt 17, 3, false, 0, 30), (16, .iload_n 2, 1, false, 0, 0), (17, .aload_n 0, 1, false, 0, 0), (18, .getfield 32, 3, false, 0, 0), (21, .iload_n 1, 1, false, 0, 0), (22, .isub, 1, false, 0, 0), (23, .if_icmp .gt 7, 3, false, 0, 30), (26, .iconst 1, 1, false, 1, 0), (27, .goto 4, 3, false, 0, 31), (30, .iconst 0, 1, false, 0, 0), (31, .ireturn, 1, false, 0, 0)]
set_option maxRecDepth 100000 in
theorem ck_X5_hasCells : ip_chk cX5_hasCells tb_X5_hasCells = true := by decide +kernel
def tb_X5_faultOf : List ip_I := [(0, .aload_n 0, 1, false, 0, 0), (1, .getfield 15, 3, false, 0, 0), (4, .ifCond .ne 5, 3, false, 0, 9), (7, .iconst 1, 1, false, 1, 0), (8, .ireturn, 1, false, 0, 0), (9, .aload_n 0, 1, false, 0, 0), (10, .getfield 19, 3, false, 0, 0), (13, .iload_n 1, 1, false, 0, 0), (14, .if_icmp .eq 5, 3, false, 0, 19), (17, .iconst 2, 1, false, 2, 0), (18, .ireturn, 1, false, 0, 0), (19, .iload_n 3, 1, false, 0, 0), (20, .ifCond .ge 5, 3, false, 0, 25), (23, .iconst 4, 1, false, 4, 0), (24, .ireturn, 1, false, 0, 0), (25, .aload_n 0, 1, false, 0, 0), (26, .iload_n 2, 1, false, 0, 0), (27, .iload_n 3, 1, false, 0, 0), (28, .invokevirtual 41, 3, false, 0, 0), (31, .ifCond .eq 7, 3, false, 0, 38), (34, .iconst 0, 1, false, 0, 0), (35, .goto 4, 3, false, 0, 39), (38, .iconst 3, 1, false, 3, 0), (39, .ireturn, 1, false, 0, 0)]
set_option maxRecDepth 100000 in
theorem ck_X5_faultOf : ip_chk cX5_faultOf tb_X5_faultOf = true := by decide +kernel
def tb_X5_valueAt : List ip_I := [(0, .aload_n 0, 1, false, 0, 0), (1, .iload_n 1, 1, false, 0, 0), (2, .iconst 1, 1, false, 1, 0), (3, .invokevirtual 41, 3, false, 0, 0), (6, .ifCond .eq 12, 3, false, 0, 18), (9, .aload_n 0, 1, false, 0, 0), (10, .getfield 9, 3, false, 0, 0), (13, .iload_n 1, 1, false, 0, 0), (14, .iaload, 1, false, 0, 0), (15, .goto 4, 3, false, 0, 19), (18, .iconst 0, 1, false, 0, 0), (19, .ireturn, 1, false, 0, 0)]
set_option maxRecDepth 100000 in
theorem ck_X5_valueAt : ip_chk cX5_valueAt tb_X5_valueAt = true := by decide +kernel
def tb_X5_write : List ip_I := [(0, .aload_n 0, 1, false, 0, 0), (1, .iload_n 1, 1, false, 0, 0), (2, .iconst 1, 1, false, 1, 0), (3, .invokevirtual 41, 3, false, 0, 0), (6, .ifCond .eq 35, 3, false, 0, 41), (9, .aload_n 0, 1, false, 0, 0), (10, .getfield 9, 3, false, 0, 0), (13, .iload_n 1, 1, false, 0, 0), (14, .aload_n 0, 1, false, 0, 0), (15, .getfield 19, 3, false, 0, 0), (18, .ifCond .ne 8, 3, false, 0, 26), (21, .iload_n 2, 1, false, 0, 0), (22, .i2b, 1, false, 0, 0), (23, .goto 17, 3, false, 0, 40), (26, .aload_n 0, 1, false, 0, 0), (27, .getfield 19, 3, false, 0, 0), (30, .iconst 1, 1, false, 1, 0), (31, .if_icmp .ne 8, 3, false, 0, 39), (34, .iload_n 2, 1, false, 0, 0), (35, .i2s, 1, false, 0, 0), (36, .goto 4, 3, false, 0, 40), (39, .iload_n 2, 1, false, 0, 0), (40, .iastore, 1, false, 0, 0), (41, .return_, 1, false, 0, 0)]
set_option maxRecDepth 100000 in
theorem ck_X5_write : ip_chk cX5_write tb_X5_write = true := by decide +kernel
def tb_X6_add : List ip_I := [(0, .aload_n 0, 1, false, 0, 0), (1, .getfield 18, 3, false, 0, 0), (4, .ifCond .lt 42, 3, false, 0, 46), (7, .aload_n 0, 1, false, 0, 0), (8, .getfield 18, 3, false, 0, 0), (11, .bipush 20, 2, false, 20, 0), (13, .if_icmp .ge 33, 3, false, 0, 46), (16, .aload_n 0, 1, false, 0, 0), (17, .getfield 9, 3, false, 0, 0), (20, .aload_n 0, 1, false, 0, 0), (21, .getfield 18, 3, false, 0, 0), (24, .iload_n 1, 1, false, 0, 0), (25, .iastore, 1, false, 0, 0), (26, .aload_n 0, 1, false, 0, 0), (27, .getfield 15, 3, false, 0, 0), (30, .aload_n 0, 1, false, 0, 0), (31, .getfield 18, 3, false, 0, 0), (34, .iload_n 2, 1, false, 0, 0), (35, .iastore, 1, false, 0, 0), (36, .aload_n 0, 1, false, 0, 0), (37, .dup, 1, false, 0, 0), (38, .getfield 18, 3, false, 0, 0), (41, .iconst 1, 1, false, 1, 0), (42, .iadd, 1, false, 0, 0), (43, .putfield 18, 3, false, 0, 0), (46, .return_, 1, false, 0, 0)]
set_option maxRecDepth 100000 in
theorem ck_X6_add : ip_chk cX6_add tb_X6_add = true := by decide +kernel
def tb_X6_countIn : List ip_I := [(0, .iconst 0, 1, false, 0, 0), (1, .istore_n 2, 1, false, 0, 0), (2, .iconst 0, 1, false, 0, 0), (3, .istore_n 3, 1, false, 0, 0), (4, .iload_n 3, 1, true, 0, 0), (5, .aload_n 0, 1, false, 0, 0), (6, .getfield 18, 3, false, 0, 0), (9, .if_icmp .ge 31, 3, false, 0, 40), (12, .aload_n 1, 1, false, 0, 0), (13, .aload_n 0, 1, false, 0, 0), (14, .getfield 9, 3, false, 0, 0), (17, .iload_n 3, 1, false, 0, 0), (18, .iaload, 1, false, 0, 0), (19, .aload_n 0, 1, false, 0, 0), (20, .getfield 15, 3, false, 0, 0), (23, .iload_n 3, 1, false, 0, 0), (24, .iaload, 1, false, 0, 0), (25, .invokevirtual 22, 3, false, 0, 0), (28, .ifCond .eq 6, 3, false, 0, 34), (31, .iinc 2 1, 3, false, 1, 0), (34, .iinc 3 1, 3, false, 1, 0), (37, .goto (-33), 3, false, 0, 4), (40, .iload_n 2, 1, false, 0, 0), (41, .ireturn, 1, false, 0, 0)]
set_option maxRecDepth 100000 in
theorem ck_X6_countIn : ip_chk cX6_countIn tb_X6_countIn = true := by decide +kernel
def tb_X6_firstIn : List ip_I := [(0, .iconst 0, 1, false, 0, 0), (1, .istore_n 2, 1, false, 0, 0), (2, .iload_n 2, 1, true, 0, 0), (3, .aload_n 0, 1, false, 0, 0), (4, .getfield 18, 3, false, 0, 0), (7, .if_icmp .ge 30, 3, false, 0, 37), (10, .aload_n 1, 1, false, 0, 0), (11, .aload_n 0, 1, false, 0, 0), (12, .getfield 9, 3, false, 0, 0), (15, .iload_n 2, 1, false, 0, 0), (16, .iaload, 1, false, 0, 0), (17, .aload_n 0, 1, false, 0, 0), (18, .getfield 15, 3, false, 0, 0), (21, .iload_n 2, 1, false, 0, 0), (22, .iaload, 1, false, 0, 0), (23, .invokevirtual 22, 3, false, 0, 0), (26, .ifCond .eq 5, 3, false, 0, 31), (29, .iload_n 2, 1, false, 0, 0), (30, .ireturn, 1, false, 0, 0), (31, .iinc 2 1, 3, false, 1, 0), (34, .goto (-32), 3, false, 0, 2), (37, .bipush (-9), 2, false, (-9), 0), (39, .ireturn, 1, false, 0, 0)]
set_option maxRecDepth 100000 in
theorem ck_X6_firstIn : ip_chk cX6_firstIn tb_X6_firstIn = true := by decide +kernel
def tb_X6_struckIn : List ip_I := [(0, .iconst 0, 1, false, 0, 0), (1, .istore_n 2, 1, false, 0, 0), (2, .iconst 0, 1, false, 0, 0), (3, .istore_n 3, 1, false, 0, 0), (4, .iload_n 3, 1, true, 0, 0), (5, .aload_n 0, 1, false, 0, 0), (6, .getfield 18, 3, false, 0, 0), (9, .if_icmp .ge 39, 3, false, 0, 48), (12, .aload_n 1, 1, false, 0, 0), (13, .aload_n 0, 1, false, 0, 0), (14, .getfield 9, 3, false, 0, 0), (17, .iload_n 3, 1, false, 0, 0), (18, .iaload, 1, false, 0, 0), (19, .aload_n 0, 1, false, 0, 0), (20, .getfield 15, 3, false, 0, 0), (23, .iload_n 3, 1, false, 0, 0), (24, .iaload, 1, false, 0, 0), (25, .invokevirtual 22, 3, false, 0, 0), (28, .ifCond .eq 14, 3, false, 0, 42), (31, .iload_n 2, 1, false, 0, 0), (32, .iconst 1, 1, false, 1, 0), (33, .aload_n 0, 1, false, 0, 0), (34, .getfield 9, 3, false, 0, 0), (37, .iload_n 3, 1, false, 0, 0), (38, .iaload, 1, false, 0, 0), (39, .ishl, 1, false, 0, 0), (40, .ior, 1, false, 0, 0), (41, .istore_n 2, 1, false, 0, 0), (42, .iinc 3 1, 3, false, 1, 0), (45, .goto (-41), 3, false, 0, 4), (48, .iload_n 2, 1, false, 0, 0), (49, .ireturn, 1, false, 0, 0)]
set_option maxRecDepth 100000 in
theorem ck_X6_struckIn : ip_chk cX6_struckIn tb_X6_struckIn = true := by decide +kernel
def tb_X7_county : List ip_I := [(0, .aload_n 0, 1, false, 0, 0), (1, .iconst 0, 1, false, 0, 0), (2, .putfield 46, 3, false, 0, 0), (5, .aload_n 0, 1, false, 0, 0), (6, .iload_n 1, 1, false, 0, 0), (7, .invokevirtual 50, 3, false, 0, 0), (10, .astore 5, 2, false, 0, 0), (12, .aload 5, 2, false, 0, 0), (14, .ifnonnull 5, 3, false, 0, 19), (17, .iconst (-1), 1, false, (-1), 0), (18, .ireturn, 1, false, 0, 0), (19, .iload_n 2, 1, false, 0, 0), (20, .invokestatic 54, 3, false, 0, 0), (23, .ifCond .ne 6, 3, false, 0, 29), (26, .bipush (-2), 2, false, (-2), 0), (28, .ireturn, 1, false, 0, 0), (29, .aload 5, 2, false, 0, 0), (31, .iload_n 2, 1, false, 0, 0), (32, .iload_n 3, 1, false, 0, 0), (33, .iload 4, 2, false, 0, 0), (35, .invokevirtual 58, 3, false, 0, 0), (38, .istore 6, 2, false, 0, 0), (40, .iload 6, 2, false, 0, 0), (42, .ifCond .eq 10, 3, false, 0, 52), (45, .aload_n 0, 1, false, 0, 0), (46, .iload 6, 2, false, 0, 0), (48, .invokevirtual 62, 3, false, 0, 0), (51, .ireturn, 1, false, 0, 0), (52, .aload 5, 2, false, 0, 0), (54, .iload_n 3, 1, false, 0, 0), (55, .iload 4, 2, false, 0, 0), (57, .invokestatic 66, 3, false, 0, 0), (60, .istore 7, 2, false, 0, 0), (62, .iload 7, 2, false, 0, 0), (64, .iconst (-1), 1, false, (-1), 0), (65, .if_icmp .eq 9, 3, false, 0, 74), (68, .bipush (-100), 2, false, (-100), 0), (70, .iload 7, 2, false, 0, 0), (72, .isub, 1, false, 0, 0), (73, .ireturn, 1, false, 0, 0), (74, .aload 5, 2, false, 0, 0), (76, .iload_n 3, 1, false, 0, 0), (77, .iload 4, 2, false, 0, 0), (79, .aload_n 0, 1, false, 0, 0), (80, .getfield 20, 3, false, 0, 0), (83, .invokestatic 72, 3, false, 0, 0), (86, .aload_n 0, 1, false, 0, 0), (87, .getfield 27, 3, false, 0, 0), (90, .iconst 0, 1, false, 0, 0), (91, .putfield 76, 3, false, 0, 0), (94, .aload_n 0, 1, false, 0, 0), (95, .getfield 20, 3, false, 0, 0), (98, .getfield 79, 3, false, 0, 0), (101, .ireturn, 1, false, 0, 0)]
set_option maxRecDepth 100000 in
theorem ck_X7_county : ip_chk cX7_county tb_X7_county = true := by decide +kernel
def tb_X7_ofMan : List ip_I := [(0, .aload_n 0, 1, false, 0, 0), (1, .getfield 20, 3, false, 0, 0), (4, .iload_n 1, 1, false, 0, 0), (5, .invokevirtual 82, 3, false, 0, 0), (8, .astore_n 3, 1, false, 0, 0), (9, .aload_n 3, 1, false, 0, 0), (10, .ifnonnull 5, 3, false, 0, 15), (13, .iconst (-1), 1, false, (-1), 0), (14, .ireturn, 1, false, 0, 0), (15, .iload_n 2, 1, false, 0, 0), (16, .tableswitch 43 0 2 #[28, 33, 38], 28, false, 0, 0), (44, .aload_n 3, 1, false, 0, 0), (45, .getfield 86, 3, false, 0, 0), (48, .ireturn, 1, false, 0, 0), (49, .aload_n 3, 1, false, 0, 0), (50, .getfield 91, 3, false, 0, 0), (53, .ireturn, 1, false, 0, 0), (54, .aload_n 3, 1, false, 0, 0), (55, .getfield 94, 3, false, 0, 0), (58, .ireturn, 1, false, 0, 0), (59, .bipush (-2), 2, false, (-2), 0), (61, .ireturn, 1, false, 0, 0)]
set_option maxRecDepth 100000 in
theorem ck_X7_ofMan : ip_chk cX7_ofMan tb_X7_ofMan = true := by decide +kernel
def tb_X7_truth : List ip_I := [(0, .iload_n 1, 1, false, 0, 0), (1, .invokestatic 97, 3, false, 0, 0), (4, .ifCond .ne 6, 3, false, 0, 10), (7, .bipush (-2), 2, false, (-2), 0), (9, .ireturn, 1, false, 0, 0), (10, .aload_n 0, 1, false, 0, 0), (11, .getfield 20, 3, false, 0, 0), (14, .invokevirtual 100, 3, false, 0, 0), (17, .ifCond .ne 6, 3, false, 0, 23), (20, .bipush (-3), 2, false, (-3), 0), (22, .ireturn, 1, false, 0, 0), (23, .aload_n 0, 1, false, 0, 0), (24, .getfield 20, 3, false, 0, 0), (27, .getfield 104, 3, false, 0, 0), (30, .istore_n 2, 1, false, 0, 0), (31, .aload_n 0, 1, false, 0, 0), (32, .getfield 20, 3, false, 0, 0), (35, .iload_n 1, 1, false, 0, 0), (36, .putfield 104, 3, false, 0, 0), (39, .iload_n 2, 1, false, 0, 0), (40, .ireturn, 1, false, 0, 0)]
set_option maxRecDepth 100000 in
theorem ck_X7_truth : ip_chk cX7_truth tb_X7_truth = true := by decide +kernel
def tb_X7_stand : List ip_I := [(0, .aload_n 0, 1, false, 0, 0), (1, .getfield 20, 3, false, 0, 0), (4, .iload_n 1, 1, false, 0, 0), (5, .invokevirtual 82, 3, false, 0, 0), (8, .astore_n 3, 1, false, 0, 0), (9, .aload_n 3, 1, false, 0, 0), (10, .ifnull 14, 3, false, 0, 24), (13, .aload_n 0, 1, false, 0, 0), (14, .getfield 20, 3, false, 0, 0), (17, .iload_n 2, 1, false, 0, 0), (18, .invokevirtual 107, 3, false, 0, 0), (21, .ifCond .ne 5, 3, false, 0, 26), (24, .iconst (-1), 1, false, (-1), 0), (25, .ireturn, 1, false, 0, 0), (26, .aload_n 3, 1, false, 0, 0), (27, .getfield 91, 3, false, 0, 0), (30, .istore 4, 2, false, 0, 0), (32, .aload_n 3, 1, false, 0, 0), (33, .iload_n 2, 1, false, 0, 0), (34, .putfield 91, 3, false, 0, 0), (37, .iload 4, 2, false, 0, 0), (39, .ireturn, 1, false, 0, 0)]
set_option maxRecDepth 100000 in
theorem ck_X7_stand : ip_chk cX7_stand tb_X7_stand = true := by decide +kernel
def tb_X7_learn : List ip_I := [(0, .aload_n 0, 1, false, 0, 0), (1, .getfield 20, 3, false, 0, 0), (4, .iload_n 1, 1, false, 0, 0), (5, .invokevirtual 82, 3, false, 0, 0), (8, .astore_n 3, 1, false, 0, 0), (9, .aload_n 3, 1, false, 0, 0), (10, .ifnonnull 5, 3, false, 0, 15), (13, .iconst (-1), 1, false, (-1), 0), (14, .ireturn, 1, false, 0, 0), (15, .iload_n 2, 1, false, 0, 0), (16, .invokestatic 97, 3, false, 0, 0), (19, .ifCond .ne 6, 3, false, 0, 25), (22, .bipush (-2), 2, false, (-2), 0), (24, .ireturn, 1, false, 0, 0), (25, .aload_n 3, 1, false, 0, 0), (26, .getfield 94, 3, false, 0, 0), (29, .istore 4, 2, false, 0, 0), (31, .aload_n 3, 1, false, 0, 0), (32, .iload_n 2, 1, false, 0, 0), (33, .putfield 94, 3, false, 0, 0), (36, .iload 4, 2, false, 0, 0), (38, .ireturn, 1, false, 0, 0)]
set_option maxRecDepth 100000 in
theorem ck_X7_learn : ip_chk cX7_learn tb_X7_learn = true := by decide +kernel
def tb_X7_answer : List ip_I := [(0, .aload_n 0, 1, false, 0, 0), (1, .getfield 20, 3, false, 0, 0), (4, .iload_n 1, 1, false, 0, 0), (5, .invokevirtual 82, 3, false, 0, 0), (8, .astore_n 3, 1, false, 0, 0), (9, .aload_n 3, 1, false, 0, 0), (10, .ifnonnull 5, 3, false, 0, 15), (13, .iconst (-1), 1, false, (-1), 0), (14, .ireturn, 1, false, 0, 0), (15, .iload_n 2, 1, false, 0, 0), (16, .invokestatic 110, 3, false, 0, 0), (19, .ifCond .ne 6, 3, false, 0, 25), (22, .bipush (-2), 2, false, (-2), 0), (24, .ireturn, 1, false, 0, 0), (25, .aload_n 0, 1, false, 0, 0), (26, .getfield 20, 3, false, 0, 0), (29, .getfield 104, 3, false, 0, 0), (32, .iload_n 2, 1, false, 0, 0), (33, .invokestatic 113, 3, false, 0, 0), (36, .ifCond .eq 7, 3, false, 0, 43), (39, .iconst 1, 1, false, 1, 0), (40, .goto 4, 3, false, 0, 44), (43, .iconst 0, 1, false, 0, 0), (44, .istore 4, 2, false, 0, 0), (46, .aload_n 3, 1, false, 0, 0), (47, .aload_n 0, 1, false, 0, 0), (48, .getfield 20, 3, false, 0, 0), (51, .getfield 104, 3, false, 0, 0), (54, .invokevirtual 117, 3, false, 0, 0), (57, .iload_n 2, 1, false, 0, 0), (58, .invokestatic 113, 3, false, 0, 0), (61, .ifCond .eq 6, 3, false, 0, 67), (64, .iload 4, 2, false, 0, 0), (66, .ireturn, 1, false, 0, 0), (67, .aload_n 3, 1, false, 0, 0), (68, .aload_n 0, 1, false, 0, 0), (69, .getfield 20, 3, false, 0, 0), (72, .getfield 104, 3, false, 0, 0), (75, .invokevirtual 120, 3, false, 0, 0), (78, .iload_n 2, 1, false, 0, 0), (79, .invokestatic 113, 3, false, 0, 0), (82, .ifCond .eq 10, 3, false, 0, 92), (85, .iconst 1, 1, false, 1, 0), (86, .iload 4, 2, false, 0, 0), (88, .isub, 1, false, 0, 0), (89, .goto 5, 3, false, 0, 94), (92, .bipush (-9), 2, false, (-9), 0), (94, .ireturn, 1, false, 0, 0)]
set_option maxRecDepth 100000 in
theorem ck_X7_answer : ip_chk cX7_answer tb_X7_answer = true := by decide +kernel
def tb_X7_strikes : List ip_I := [(0, .aload_n 0, 1, false, 0, 0), (1, .getfield 20, 3, false, 0, 0), (4, .iload_n 1, 1, false, 0, 0), (5, .invokevirtual 107, 3, false, 0, 0), (8, .ifCond .ne 5, 3, false, 0, 13), (11, .iconst (-1), 1, false, (-1), 0), (12, .ireturn, 1, false, 0, 0), (13, .iload_n 2, 1, false, 0, 0), (14, .invokestatic 110, 3, false, 0, 0), (17, .ifCond .ne 6, 3, false, 0, 23), (20, .bipush (-2), 2, false, (-2), 0), (22, .ireturn, 1, false, 0, 0), (23, .aload_n 0, 1, false, 0, 0), (24, .getfield 20, 3, false, 0, 0), (27, .iload_n 1, 1, false, 0, 0), (28, .iload_n 2, 1, false, 0, 0), (29, .invokevirtual 123, 3, false, 0, 0), (32, .ifCond .eq 7, 3, false, 0, 39), (35, .iconst 1, 1, false, 1, 0), (36, .goto 4, 3, false, 0, 40), (39, .iconst 0, 1, false, 0, 0), (40, .ireturn, 1, false, 0, 0)]
set_option maxRecDepth 100000 in
theorem ck_X7_strikes : ip_chk cX7_strikes tb_X7_strikes = true := by decide +kernel
def tb_X7_dangers : List ip_I := [(0, .aload_n 0, 1, false, 0, 0), (1, .getfield 20, 3, false, 0, 0), (4, .iload_n 1, 1, false, 0, 0), (5, .invokevirtual 107, 3, false, 0, 0), (8, .ifCond .eq 14, 3, false, 0, 22), (11, .aload_n 0, 1, false, 0, 0), (12, .getfield 20, 3, false, 0, 0), (15, .iload_n 1, 1, false, 0, 0), (16, .invokevirtual 126, 3, false, 0, 0), (19, .goto 4, 3, false, 0, 23), (22, .iconst (-1), 1, false, (-1), 0), (23, .ireturn, 1, false, 0, 0)]
set_option maxRecDepth 100000 in
theorem ck_X7_dangers : ip_chk cX7_dangers tb_X7_dangers = true := by decide +kernel
def tb_X7_storm : List ip_I := [(0, .aload_n 0, 1, false, 0, 0), (1, .iload_n 1, 1, false, 0, 0), (2, .iload_n 2, 1, false, 0, 0), (3, .iload_n 3, 1, false, 0, 0), (4, .iload 4, 2, false, 0, 0), (6, .iload 5, 2, false, 0, 0), (8, .ifCond .lt 13, 3, false, 0, 21), (11, .iload 5, 2, false, 0, 0), (13, .iconst 2, 1, false, 2, 0), (14, .if_icmp .gt 7, 3, false, 0, 21), (17, .iconst 1, 1, false, 1, 0), (18, .goto 4, 3, false, 0, 22), (21, .iconst 0, 1, false, 0, 0), (22, .invokevirtual 129, 3, false, 0, 0), (25, .istore 6, 2, false, 0, 0), (27, .iload 6, 2, false, 0, 0), (29, .ifCond .eq 6, 3, false, 0, 35), (32, .iload 6, 2, false, 0, 0), (34, .ireturn, 1, false, 0, 0), (35, .iload 5, 2, false, 0, 0), (37, .ifCond .ne 15, 3, false, 0, 52), (40, .aload_n 0, 1, false, 0, 0), (41, .getfield 34, 3, false, 0, 0), (44, .aload_n 0, 1, false, 0, 0), (45, .getfield 20, 3, false, 0, 0), (48, .invokevirtual 133, 3, false, 0, 0), (51, .ireturn, 1, false, 0, 0), (52, .iload 5, 2, false, 0, 0), (54, .iconst 1, 1, false, 1, 0), (55, .if_icmp .ne 17, 3, false, 0, 72), (58, .aload_n 0, 1, false, 0, 0), (59, .getfield 34, 3, false, 0, 0), (62, .aload_n 0, 1, false, 0, 0), (63, .getfield 20, 3, false, 0, 0), (66, .invokevirtual 137, 3, false, 0, 0), (69, .goto 14, 3, false, 0, 83), (72, .aload_n 0, 1, false, 0, 0), (73, .getfield 34, 3, false, 0, 0), (76, .aload_n 0, 1, false, 0, 0), (77, .getfield 20, 3, false, 0, 0), (80, .invokevirtual 140, 3, false, 0, 0), (83, .ireturn, 1, false, 0, 0)]
set_option maxRecDepth 100000 in
theorem ck_X7_storm : ip_chk cX7_storm tb_X7_storm = true := by decide +kernel
def tb_X7_place : List ip_I := [(0, .aload_n 0, 1, false, 0, 0), (1, .iconst 0, 1, false, 0, 0), (2, .putfield 46, 3, false, 0, 0), (5, .iload_n 1, 1, false, 0, 0), (6, .iconst (-1), 1, false, (-1), 0), (7, .if_icmp .ge 5, 3, false, 0, 12), (10, .iconst (-1), 1, false, (-1), 0), (11, .ireturn, 1, false, 0, 0), (12, .aload_n 0, 1, false, 0, 0), (13, .iload_n 2, 1, false, 0, 0), (14, .iload_n 3, 1, false, 0, 0), (15, .iload 4, 2, false, 0, 0), (17, .iload 5, 2, false, 0, 0), (19, .iconst 1, 1, false, 1, 0), (20, .invokevirtual 129, 3, false, 0, 0), (23, .istore 6, 2, false, 0, 0), (25, .iload 6, 2, false, 0, 0), (27, .ifCond .eq 6, 3, false, 0, 33), (30, .iload 6, 2, false, 0, 0), (32, .ireturn, 1, false, 0, 0), (33, .iload_n 1, 1, false, 0, 0), (34, .aload_n 0, 1, false, 0, 0), (35, .getfield 20, 3, false, 0, 0), (38, .getfield 79, 3, false, 0, 0), (41, .if_icmp .lt 6, 3, false, 0, 47), (44, .bipush (-9), 2, false, (-9), 0), (46, .ireturn, 1, false, 0, 0), (47, .aload_n 0, 1, false, 0, 0), (48, .getfield 41, 3, false, 0, 0), (51, .aload_n 0, 1, false, 0, 0), (52, .getfield 20, 3, false, 0, 0), (55, .aload_n 0, 1, false, 0, 0), (56, .getfield 34, 3, false, 0, 0), (59, .invokevirtual 143, 3, false, 0, 0), (62, .iload_n 1, 1, false, 0, 0), (63, .ifCond .ge 13, 3, false, 0, 76), (66, .aload_n 0, 1, false, 0, 0), (67, .getfield 41, 3, false, 0, 0), (70, .getfield 147, 3, false, 0, 0), (73, .goto 11, 3, false, 0, 84), (76, .aload_n 0, 1, false, 0, 0), (77, .getfield 41, 3, false, 0, 0), (80, .iload_n 1, 1, false, 0, 0), (81, .invokevirtual 150, 3, false, 0, 0), (84, .ireturn, 1, false, 0, 0)]
set_option maxRecDepth 100000 in
theorem ck_X7_place : ip_chk cX7_place tb_X7_place = true := by decide +kernel
def tb_X7_teach : List ip_I := [(0, .aload_n 0, 1, false, 0, 0), (1, .iconst 0, 1, false, 0, 0), (2, .putfield 46, 3, false, 0, 0), (5, .aload_n 0, 1, false, 0, 0), (6, .getfield 20, 3, false, 0, 0), (9, .iload_n 1, 1, false, 0, 0), (10, .invokevirtual 82, 3, false, 0, 0), (13, .astore 6, 2, false, 0, 0), (15, .aload 6, 2, false, 0, 0), (17, .ifnonnull 5, 3, false, 0, 22), (20, .iconst (-1), 1, false, (-1), 0), (21, .ireturn, 1, false, 0, 0), (22, .aload_n 0, 1, false, 0, 0), (23, .iload_n 2, 1, false, 0, 0), (24, .iload_n 3, 1, false, 0, 0), (25, .iload 4, 2, false, 0, 0), (27, .iload 5, 2, false, 0, 0), (29, .iconst 1, 1, false, 1, 0), (30, .invokevirtual 129, 3, false, 0, 0), (33, .istore 7, 2, false, 0, 0), (35, .iload 7, 2, false, 0, 0), (37, .ifCond .eq 8, 3, false, 0, 45), (40, .iload 7, 2, false, 0, 0), (42, .goto 12, 3, false, 0, 54), (45, .aload_n 0, 1, false, 0, 0), (46, .aload 6, 2, false, 0, 0), (48, .invokevirtual 153, 3, false, 0, 0), (51, .invokestatic 157, 3, false, 0, 0), (54, .ireturn, 1, false, 0, 0)]
set_option maxRecDepth 100000 in
theorem ck_X7_teach : ip_chk cX7_teach tb_X7_teach = true := by decide +kernel
def tb_X7_worst : List ip_I := [(0, .aload_n 0, 1, false, 0, 0), (1, .getfield 20, 3, false, 0, 0), (4, .iload_n 1, 1, false, 0, 0), (5, .invokevirtual 107, 3, false, 0, 0), (8, .ifCond .ne 5, 3, false, 0, 13), (11, .iconst (-1), 1, false, (-1), 0), (12, .ireturn, 1, false, 0, 0), (13, .iload_n 2, 1, false, 0, 0), (14, .ifCond .lt 9, 3, false, 0, 23), (17, .iload_n 2, 1, false, 0, 0), (18, .bipush 12, 2, false, 12, 0), (20, .if_icmp .le 6, 3, false, 0, 26), (23, .bipush (-2), 2, false, (-2), 0), (25, .ireturn, 1, false, 0, 0), (26, .iconst 0, 1, false, 0, 0), (27, .istore_n 3, 1, false, 0, 0), (28, .iconst 0, 1, false, 0, 0), (29, .istore 4, 2, false, 0, 0), (31, .iload 4, 2, true, 0, 0), (33, .iload_n 1, 1, false, 0, 0), (34, .if_icmp .gt 58, 3, false, 0, 92), (37, .iload_n 1, 1, false, 0, 0), (38, .istore 5, 2, false, 0, 0), (40, .iload 5, 2, true, 0, 0), (42, .aload_n 0, 1, false, 0, 0), (43, .getfield 20, 3, false, 0, 0), (46, .getfield 161, 3, false, 0, 0), (49, .if_icmp .ge 37, 3, false, 0, 86), (52, .iload 4, 2, false, 0, 0), (54, .iload_n 1, 1, false, 0, 0), (55, .iload 5, 2, false, 0, 0), (57, .invokestatic 164, 3, false, 0, 0), (60, .iload_n 2, 1, false, 0, 0), (61, .if_icmp .ge 19, 3, false, 0, 80), (64, .iload_n 3, 1, false, 0, 0), (65, .aload_n 0, 1, false, 0, 0), (66, .getfield 20, 3, false, 0, 0), (69, .iload 4, 2, false, 0, 0), (71, .iload 5, 2, false, 0, 0), (73, .invokevirtual 167, 3, false, 0, 0), (76, .invokestatic 171, 3, false, 0, 0), (79, .istore_n 3, 1, false, 0, 0), (80, .iinc 5 1, 3, false, 1, 0), (83, .goto (-43), 3, false, 0, 40), (86, .iinc 4 1, 3, false, 1, 0), (89, .goto (-58), 3, false, 0, 31), (92, .iload_n 3, 1, false, 0, 0), (93, .ireturn, 1, false, 0, 0)]
set_option maxRecDepth 100000 in
theorem ck_X7_worst : ip_chk cX7_worst tb_X7_worst = true := by decide +kernel
def tb_X7_fair : List ip_I := [(0, .aload_n 0, 1, false, 0, 0), (1, .iconst 0, 1, false, 0, 0), (2, .putfield 46, 3, false, 0, 0), (5, .aload_n 0, 1, false, 0, 0), (6, .iload_n 1, 1, false, 0, 0), (7, .invokevirtual 50, 3, false, 0, 0), (10, .astore 6, 2, false, 0, 0), (12, .aload 6, 2, false, 0, 0), (14, .ifnull 30, 3, false, 0, 44), (17, .iload_n 2, 1, false, 0, 0), (18, .invokestatic 54, 3, false, 0, 0), (21, .ifCond .eq 23, 3, false, 0, 44), (24, .iload 4, 2, false, 0, 0), (26, .ifCond .lt 18, 3, false, 0, 44), (29, .iload 4, 2, false, 0, 0), (31, .bipush 20, 2, false, 20, 0), (33, .if_icmp .gt 11, 3, false, 0, 44), (36, .iload 5, 2, false, 0, 0), (38, .invokestatic 176, 3, false, 0, 0), (41, .ifCond .ne 7, 3, false, 0, 48), (44, .ldc2_w 179, 3, false, 0, 0), (47, .lreturn, 1, false, 0, 0), (48, .aload_n 0, 1, false, 0, 0), (49, .aload 6, 2, false, 0, 0), (51, .iload_n 2, 1, false, 0, 0), (52, .iload_n 3, 1, false, 0, 0), (53, .iload 4, 2, false, 0, 0), (55, .invokevirtual 58, 3, false, 0, 0), (58, .putfield 46, 3, false, 0, 0), (61, .aload_n 0, 1, false, 0, 0), (62, .getfield 46, 3, false, 0, 0), (65, .ifCond .ne 13, 3, false, 0, 78), (68, .aload_n 0, 1, false, 0, 0), (69, .getfield 20, 3, false, 0, 0), (72, .invokevirtual 100, 3, false, 0, 0), (75, .ifCond .ne 7, 3, false, 0, 82), (78, .ldc2_w 179, 3, false, 0, 0), (81, .lreturn, 1, false, 0, 0), (82, .lconst 1, 1, false, 0, 0), (83, .lstore 7, 2, false, 0, 0), (85, .lconst 1, 1, false, 0, 0), (86, .lstore 9, 2, false, 0, 0), (88, .iconst 0, 1, false, 0, 0), (89, .istore 11, 2, false, 0, 0), (91, .iload 11, 2, true, 0, 0), (93, .iload 4, 2, false, 0, 0), (95, .if_icmp .ge 65, 3, false, 0, 160), (98, .aload 6, 2, false, 0, 0), (100, .iload_n 3, 1, false, 0, 0), (101, .iload 11, 2, false, 0, 0), (103, .iadd, 1, false, 0, 0), (104, .invokevirtual 181, 3, false, 0, 0), (107, .istore 12, 2, false, 0, 0), (109, .aload_n 0, 1, false, 0, 0), (110, .getfield 20, 3, false, 0, 0), (113, .iload 12, 2, false, 0, 0), (115, .invokevirtual 107, 3, false, 0, 0), (118, .ifCond .ne 7, 3, false, 0, 125), (121, .ldc2_w 179, 3, false, 0, 0), (124, .lreturn, 1, false, 0, 0), (125, .lload 7, 2, false, 0, 0), (127, .bipush 6, 2, false, 6, 0), (129, .aload_n 0, 1, false, 0, 0), (130, .getfield 20, 3, false, 0, 0), (133, .iload 12, 2, false, 0, 0), (135, .invokevirtual 126, 3, false, 0, 0), (138, .invokestatic 184, 3, false, 0, 0), (141, .isub, 1, false, 0, 0), (142, .i2l, 1, false, 0, 0), (143, .lmul, 1, false, 0, 0), (144, .lstore 7, 2, false, 0, 0), (146, .lload 9, 2, false, 0, 0), (148, .ldc2_w 189, 3, false, 0, 0), (151, .lmul, 1, false, 0, 0), (152, .lstore 9, 2, false, 0, 0), (154, .iinc 11 1, 3, false, 1, 0), (157, .goto (-66), 3, false, 0, 91), (160, .lload 7, 2, false, 0, 0), (162, .lload 9, 2, false, 0, 0), (164, .iload 5, 2, false, 0, 0), (166, .invokestatic 191, 3, false, 0, 0), (169, .lreturn, 1, false, 0, 0)]
set_option maxRecDepth 100000 in
theorem ck_X7_fair : ip_chk cX7_fair tb_X7_fair = true := by decide +kernel
def tb_X7_worth : List ip_I := [(0, .aload_n 0, 1, false, 0, 0), (1, .getfield 20, 3, false, 0, 0), (4, .iload_n 1, 1, false, 0, 0), (5, .invokevirtual 82, 3, false, 0, 0), (8, .ifnonnull 5, 3, false, 0, 13), (11, .iconst (-1), 1, false, (-1), 0), (12, .ireturn, 1, false, 0, 0), (13, .bipush 100, 2, false, 100, 0), (15, .aload_n 0, 1, false, 0, 0), (16, .getfield 20, 3, false, 0, 0), (19, .iconst 1, 1, false, 1, 0), (20, .iload_n 1, 1, false, 0, 0), (21, .ishl, 1, false, 0, 0), (22, .invokevirtual 195, 3, false, 0, 0), (25, .iadd, 1, false, 0, 0), (26, .aload_n 0, 1, false, 0, 0), (27, .getfield 20, 3, false, 0, 0), (30, .iconst 0, 1, false, 0, 0), (31, .invokevirtual 195, 3, false, 0, 0), (34, .isub, 1, false, 0, 0), (35, .ireturn, 1, false, 0, 0)]
set_option maxRecDepth 100000 in
theorem ck_X7_worth : ip_chk cX7_worth tb_X7_worth = true := by decide +kernel
def tb_X7_reading : List ip_I := [(0, .aload_n 0, 1, false, 0, 0), (1, .getfield 20, 3, false, 0, 0), (4, .iload_n 1, 1, false, 0, 0), (5, .invokevirtual 107, 3, false, 0, 0), (8, .ifCond .ne 5, 3, false, 0, 13), (11, .iconst (-1), 1, false, (-1), 0), (12, .ireturn, 1, false, 0, 0), (13, .iload_n 2, 1, false, 0, 0), (14, .invokestatic 110, 3, false, 0, 0), (17, .ifCond .ne 6, 3, false, 0, 23), (20, .bipush (-2), 2, false, (-2), 0), (22, .ireturn, 1, false, 0, 0), (23, .aload_n 0, 1, false, 0, 0), (24, .getfield 27, 3, false, 0, 0), (27, .iload_n 1, 1, false, 0, 0), (28, .iload_n 2, 1, false, 0, 0), (29, .iload_n 3, 1, false, 0, 0), (30, .invokevirtual 198, 3, false, 0, 0), (33, .ifCond .eq 15, 3, false, 0, 48), (36, .aload_n 0, 1, false, 0, 0), (37, .getfield 27, 3, false, 0, 0), (40, .getfield 76, 3, false, 0, 0), (43, .iconst 1, 1, false, 1, 0), (44, .isub, 1, false, 0, 0), (45, .goto 5, 3, false, 0, 50), (48, .bipush (-4), 2, false, (-4), 0), (50, .ireturn, 1, false, 0, 0)]
set_option maxRecDepth 100000 in
theorem ck_X7_reading : ip_chk cX7_reading tb_X7_reading = true := by decide +kernel
def tb_X7_back : List ip_I := [(0, .iload_n 1, 1, false, 0, 0), (1, .ifCond .lt 14, 3, false, 0, 15), (4, .iload_n 1, 1, false, 0, 0), (5, .aload_n 0, 1, false, 0, 0), (6, .getfield 27, 3, false, 0, 0), (9, .getfield 76, 3, false, 0, 0), (12, .if_icmp .le 6, 3, false, 0, 18), (15, .bipush (-2), 2, false, (-2), 0), (17, .ireturn, 1, false, 0, 0), (18, .aload_n 0, 1, false, 0, 0), (19, .getfield 27, 3, false, 0, 0), (22, .dup, 1, false, 0, 0), (23, .getfield 76, 3, false, 0, 0), (26, .iload_n 1, 1, false, 0, 0), (27, .isub, 1, false, 0, 0), (28, .putfield 76, 3, false, 0, 0), (31, .aload_n 0, 1, false, 0, 0), (32, .getfield 27, 3, false, 0, 0), (35, .getfield 76, 3, false, 0, 0), (38, .ireturn, 1, false, 0, 0)]
set_option maxRecDepth 100000 in
theorem ck_X7_back : ip_chk cX7_back tb_X7_back = true := by decide +kernel
def tb_X7_truths : List ip_I := [(0, .iload_n 1, 1, false, 0, 0), (1, .bipush 10, 2, false, 10, 0), (3, .if_icmp .lt 17, 3, false, 0, 20), (6, .iload_n 1, 1, false, 0, 0), (7, .bipush 10, 2, false, 10, 0), (9, .isub, 1, false, 0, 0), (10, .invokestatic 110, 3, false, 0, 0), (13, .ifCond .eq 7, 3, false, 0, 20), (16, .iconst 1, 1, false, 1, 0), (17, .goto 4, 3, false, 0, 21), (20, .iconst 0, 1, false, 0, 0), (21, .istore_n 2, 1, false, 0, 0), (22, .iload_n 1, 1, false, 0, 0), (23, .ifCond .eq 15, 3, false, 0, 38), (26, .iload_n 1, 1, false, 0, 0), (27, .iconst 1, 1, false, 1, 0), (28, .if_icmp .eq 10, 3, false, 0, 38), (31, .iload_n 2, 1, false, 0, 0), (32, .ifCond .ne 6, 3, false, 0, 38), (35, .bipush (-2), 2, false, (-2), 0), (37, .ireturn, 1, false, 0, 0), (38, .aload_n 0, 1, false, 0, 0), (39, .getfield 20, 3, false, 0, 0), (42, .invokevirtual 100, 3, false, 0, 0), (45, .ifCond .ne 6, 3, false, 0, 51), (48, .bipush (-3), 2, false, (-3), 0), (50, .ireturn, 1, false, 0, 0), (51, .aload_n 0, 1, false, 0, 0), (52, .getfield 27, 3, false, 0, 0), (55, .aload_n 0, 1, false, 0, 0), (56, .getfield 20, 3, false, 0, 0), (59, .invokevirtual 202, 3, false, 0, 0), (62, .lstore_n 3, 1, false, 0, 0), (63, .iload_n 1, 1, false, 0, 0), (64, .ifCond .ne 8, 3, false, 0, 72), (67, .lload_n 3, 1, false, 0, 0), (68, .invokestatic 206, 3, false, 0, 0), (71, .ireturn, 1, false, 0, 0), (72, .iload_n 2, 1, false, 0, 0), (73, .ifCond .eq 14, 3, false, 0, 87), (76, .lload_n 3, 1, false, 0, 0), (77, .iload_n 1, 1, false, 0, 0), (78, .bipush 10, 2, false, 10, 0), (80, .isub, 1, false, 0, 0), (81, .invokestatic 208, 3, false, 0, 0), (84, .goto 7, 3, false, 0, 91), (87, .lload_n 3, 1, false, 0, 0), (88, .invokestatic 212, 3, false, 0, 0), (91, .ireturn, 1, false, 0, 0)]
set_option maxRecDepth 100000 in
theorem ck_X7_truths : ip_chk cX7_truths tb_X7_truths = true := by decide +kernel
def tb_X7_stood : List ip_I := [(0, .aload_n 0, 1, false, 0, 0), (1, .getfield 20, 3, false, 0, 0), (4, .iload_n 1, 1, false, 0, 0), (5, .invokevirtual 82, 3, false, 0, 0), (8, .astore_n 2, 1, false, 0, 0), (9, .aload_n 2, 1, false, 0, 0), (10, .ifnonnull 7, 3, false, 0, 17), (13, .iconst (-1), 1, false, (-1), 0), (14, .goto 15, 3, false, 0, 29), (17, .aload_n 0, 1, false, 0, 0), (18, .getfield 27, 3, false, 0, 0), (21, .aload_n 0, 1, false, 0, 0), (22, .getfield 20, 3, false, 0, 0), (25, .aload_n 2, 1, false, 0, 0), (26, .invokevirtual 215, 3, false, 0, 0), (29, .ireturn, 1, false, 0, 0)]
set_option maxRecDepth 100000 in
theorem ck_X7_stood : ip_chk cX7_stood tb_X7_stood = true := by decide +kernel
def tb_X7_kinds : List ip_I := [(0, .aload_n 0, 1, false, 0, 0), (1, .getfield 20, 3, false, 0, 0), (4, .iload_n 1, 1, false, 0, 0), (5, .invokevirtual 82, 3, false, 0, 0), (8, .astore_n 2, 1, false, 0, 0), (9, .aload_n 2, 1, false, 0, 0), (10, .ifnonnull 7, 3, false, 0, 17), (13, .iconst (-1), 1, false, (-1), 0), (14, .goto 15, 3, false, 0, 29), (17, .aload_n 0, 1, false, 0, 0), (18, .getfield 27, 3, false, 0, 0), (21, .aload_n 0, 1, false, 0, 0), (22, .getfield 20, 3, false, 0, 0), (25, .aload_n 2, 1, false, 0, 0), (26, .invokevirtual 219, 3, false, 0, 0), (29, .ireturn, 1, false, 0, 0)]
set_option maxRecDepth 100000 in
theorem ck_X7_kinds : ip_chk cX7_kinds tb_X7_kinds = true := by decide +kernel
def tb_X7_knew : List ip_I := [(0, .aload_n 0, 1, false, 0, 0), (1, .getfield 20, 3, false, 0, 0), (4, .iload_n 1, 1, false, 0, 0), (5, .invokevirtual 82, 3, false, 0, 0), (8, .astore_n 3, 1, false, 0, 0), (9, .aload_n 3, 1, false, 0, 0), (10, .ifnonnull 5, 3, false, 0, 15), (13, .iconst (-1), 1, false, (-1), 0), (14, .ireturn, 1, false, 0, 0), (15, .iload_n 2, 1, false, 0, 0), (16, .ifCond .eq 11, 3, false, 0, 27), (19, .iload_n 2, 1, false, 0, 0), (20, .iconst 1, 1, false, 1, 0), (21, .if_icmp .eq 6, 3, false, 0, 27), (24, .bipush (-2), 2, false, (-2), 0), (26, .ireturn, 1, false, 0, 0), (27, .aload_n 0, 1, false, 0, 0), (28, .getfield 27, 3, false, 0, 0), (31, .aload_n 0, 1, false, 0, 0), (32, .getfield 20, 3, false, 0, 0), (35, .aload_n 3, 1, false, 0, 0), (36, .invokevirtual 222, 3, false, 0, 0), (39, .lstore 4, 2, false, 0, 0), (41, .iload_n 2, 1, false, 0, 0), (42, .ifCond .ne 11, 3, false, 0, 53), (45, .lload 4, 2, false, 0, 0), (47, .invokestatic 206, 3, false, 0, 0), (50, .goto 8, 3, false, 0, 58), (53, .lload 4, 2, false, 0, 0), (55, .invokestatic 157, 3, false, 0, 0), (58, .ireturn, 1, false, 0, 0)]
set_option maxRecDepth 100000 in
theorem ck_X7_knew : ip_chk cX7_knew tb_X7_knew = true := by decide +kernel
def tb_X7_odds : List ip_I := [(0, .aload_n 0, 1, false, 0, 0), (1, .getfield 20, 3, false, 0, 0), (4, .iload_n 1, 1, false, 0, 0), (5, .invokevirtual 107, 3, false, 0, 0), (8, .ifCond .eq 17, 3, false, 0, 25), (11, .iload_n 2, 1, false, 0, 0), (12, .invokestatic 110, 3, false, 0, 0), (15, .ifCond .eq 10, 3, false, 0, 25), (18, .iload_n 3, 1, false, 0, 0), (19, .invokestatic 176, 3, false, 0, 0), (22, .ifCond .ne 7, 3, false, 0, 29), (25, .ldc2_w 179, 3, false, 0, 0), (28, .lreturn, 1, false, 0, 0), (29, .iconst 1, 1, false, 1, 0), (30, .aload_n 0, 1, false, 0, 0), (31, .getfield 20, 3, false, 0, 0), (34, .getfield 79, 3, false, 0, 0), (37, .ishl, 1, false, 0, 0), (38, .istore 4, 2, false, 0, 0), (40, .aload_n 0, 1, false, 0, 0), (41, .getfield 20, 3, false, 0, 0), (44, .iload_n 1, 1, false, 0, 0), (45, .invokevirtual 226, 3, false, 0, 0), (48, .istore 5, 2, false, 0, 0), (50, .iconst 0, 1, false, 0, 0), (51, .istore 6, 2, false, 0, 0), (53, .iconst 0, 1, false, 0, 0), (54, .istore 7, 2, false, 0, 0), (56, .iload 7, 2, true, 0, 0), (58, .iload 4, 2, false, 0, 0), (60, .if_icmp .ge 31, 3, false, 0, 91), (63, .aload_n 0, 1, false, 0, 0), (64, .getfield 20, 3, false, 0, 0), (67, .iload 5, 2, false, 0, 0), (69, .iload 7, 2, false, 0, 0), (71, .iand, 1, false, 0, 0), (72, .invokevirtual 229, 3, false, 0, 0), (75, .iload_n 2, 1, false, 0, 0), (76, .invokestatic 113, 3, false, 0, 0), (79, .ifCond .ne 6, 3, false, 0, 85), (82, .iinc 6 1, 3, false, 1, 0), (85, .iinc 7 1, 3, false, 1, 0), (88, .goto (-32), 3, false, 0, 56), (91, .iload 6, 2, false, 0, 0), (93, .i2l, 1, false, 0, 0), (94, .iload 4, 2, false, 0, 0), (96, .i2l, 1, false, 0, 0), (97, .iload_n 3, 1, false, 0, 0), (98, .invokestatic 191, 3, false, 0, 0), (101, .lreturn, 1, false, 0, 0)]
set_option maxRecDepth 100000 in
theorem ck_X7_odds : ip_chk cX7_odds tb_X7_odds = true := by decide +kernel
def tb_X7_sheet : List ip_I := [(0, .aload_n 0, 1, false, 0, 0), (1, .iconst 0, 1, false, 0, 0), (2, .putfield 46, 3, false, 0, 0), (5, .aload_n 0, 1, false, 0, 0), (6, .iload_n 1, 1, false, 0, 0), (7, .invokevirtual 50, 3, false, 0, 0), (10, .astore 4, 2, false, 0, 0), (12, .aload 4, 2, false, 0, 0), (14, .ifnonnull 5, 3, false, 0, 19), (17, .iconst (-1), 1, false, (-1), 0), (18, .ireturn, 1, false, 0, 0), (19, .iload_n 2, 1, false, 0, 0), (20, .invokestatic 54, 3, false, 0, 0), (23, .ifCond .eq 9, 3, false, 0, 32), (26, .iload_n 3, 1, false, 0, 0), (27, .bipush 60, 2, false, 60, 0), (29, .if_icmp .le 6, 3, false, 0, 35), (32, .bipush (-2), 2, false, (-2), 0), (34, .ireturn, 1, false, 0, 0), (35, .iload_n 3, 1, false, 0, 0), (36, .ifCond .ge 9, 3, false, 0, 45), (39, .aload_n 0, 1, false, 0, 0), (40, .iconst 4, 1, false, 4, 0), (41, .invokevirtual 62, 3, false, 0, 0), (44, .ireturn, 1, false, 0, 0), (45, .aload 4, 2, false, 0, 0), (47, .iload_n 2, 1, false, 0, 0), (48, .iload_n 3, 1, false, 0, 0), (49, .invokevirtual 232, 3, false, 0, 0), (52, .iconst 1, 1, false, 1, 0), (53, .ireturn, 1, false, 0, 0)]
set_option maxRecDepth 100000 in
theorem ck_X7_sheet : ip_chk cX7_sheet tb_X7_sheet = true := by decide +kernel
def tb_X7_lose : List ip_I := [(0, .aload_n 0, 1, false, 0, 0), (1, .iload_n 1, 1, false, 0, 0), (2, .invokevirtual 50, 3, false, 0, 0), (5, .astore_n 2, 1, false, 0, 0), (6, .aload_n 2, 1, false, 0, 0), (7, .ifnonnull 5, 3, false, 0, 12), (10, .iconst (-1), 1, false, (-1), 0), (11, .ireturn, 1, false, 0, 0), (12, .aload_n 2, 1, false, 0, 0), (13, .getfield 236, 3, false, 0, 0), (16, .istore_n 3, 1, false, 0, 0), (17, .aload_n 2, 1, false, 0, 0), (18, .iconst 0, 1, false, 0, 0), (19, .putfield 236, 3, false, 0, 0), (22, .iload_n 3, 1, false, 0, 0), (23, .ifCond .eq 7, 3, false, 0, 30), (26, .iconst 1, 1, false, 1, 0), (27, .goto 4, 3, false, 0, 31), (30, .iconst 0, 1, false, 0, 0), (31, .ireturn, 1, false, 0, 0)]
set_option maxRecDepth 100000 in
theorem ck_X7_lose : ip_chk cX7_lose tb_X7_lose = true := by decide +kernel
def tb_X7_put : List ip_I := [(0, .aload_n 0, 1, false, 0, 0), (1, .iconst 0, 1, false, 0, 0), (2, .putfield 46, 3, false, 0, 0), (5, .aload_n 0, 1, false, 0, 0), (6, .iload_n 1, 1, false, 0, 0), (7, .invokevirtual 50, 3, false, 0, 0), (10, .astore 4, 2, false, 0, 0), (12, .aload 4, 2, false, 0, 0), (14, .ifnonnull 5, 3, false, 0, 19), (17, .iconst (-1), 1, false, (-1), 0), (18, .ireturn, 1, false, 0, 0), (19, .aload 4, 2, false, 0, 0), (21, .aload 4, 2, false, 0, 0), (23, .getfield 240, 3, false, 0, 0), (26, .iload_n 2, 1, false, 0, 0), (27, .iconst 1, 1, false, 1, 0), (28, .invokevirtual 58, 3, false, 0, 0), (31, .istore 5, 2, false, 0, 0), (33, .iload 5, 2, false, 0, 0), (35, .ifCond .eq 10, 3, false, 0, 45), (38, .aload_n 0, 1, false, 0, 0), (39, .iload 5, 2, false, 0, 0), (41, .invokevirtual 62, 3, false, 0, 0), (44, .ireturn, 1, false, 0, 0), (45, .aload 4, 2, false, 0, 0), (47, .iload_n 2, 1, false, 0, 0), (48, .iload_n 3, 1, false, 0, 0), (49, .invokevirtual 243, 3, false, 0, 0), (52, .iconst 1, 1, false, 1, 0), (53, .ireturn, 1, false, 0, 0)]
set_option maxRecDepth 100000 in
theorem ck_X7_put : ip_chk cX7_put tb_X7_put = true := by decide +kernel
def tb_X7_cell : List ip_I := [(0, .aload_n 0, 1, false, 0, 0), (1, .iconst 0, 1, false, 0, 0), (2, .putfield 46, 3, false, 0, 0), (5, .aload_n 0, 1, false, 0, 0), (6, .iload_n 1, 1, false, 0, 0), (7, .invokevirtual 50, 3, false, 0, 0), (10, .astore 4, 2, false, 0, 0), (12, .aload 4, 2, false, 0, 0), (14, .ifnull 10, 3, false, 0, 24), (17, .iload_n 3, 1, false, 0, 0), (18, .invokestatic 54, 3, false, 0, 0), (21, .ifCond .ne 7, 3, false, 0, 28), (24, .ldc2_w 179, 3, false, 0, 0), (27, .lreturn, 1, false, 0, 0), (28, .aload_n 0, 1, false, 0, 0), (29, .aload 4, 2, false, 0, 0), (31, .iload_n 3, 1, false, 0, 0), (32, .iload_n 2, 1, false, 0, 0), (33, .iconst 1, 1, false, 1, 0), (34, .invokevirtual 58, 3, false, 0, 0), (37, .putfield 46, 3, false, 0, 0), (40, .aload_n 0, 1, false, 0, 0), (41, .getfield 46, 3, false, 0, 0), (44, .ifCond .ne 13, 3, false, 0, 57), (47, .aload 4, 2, false, 0, 0), (49, .iload_n 2, 1, false, 0, 0), (50, .invokevirtual 181, 3, false, 0, 0), (53, .i2l, 1, false, 0, 0), (54, .goto 6, 3, false, 0, 60), (57, .ldc2_w 179, 3, false, 0, 0), (60, .lreturn, 1, false, 0, 0)]
set_option maxRecDepth 100000 in
theorem ck_X7_cell : ip_chk cX7_cell tb_X7_cell = true := by decide +kernel
def tb_X7_copy : List ip_I := [(0, .aload_n 0, 1, false, 0, 0), (1, .iconst 0, 1, false, 0, 0), (2, .putfield 46, 3, false, 0, 0), (5, .aload_n 0, 1, false, 0, 0), (6, .iload_n 1, 1, false, 0, 0), (7, .invokevirtual 50, 3, false, 0, 0), (10, .astore 6, 2, false, 0, 0), (12, .aload_n 0, 1, false, 0, 0), (13, .iload_n 3, 1, false, 0, 0), (14, .invokevirtual 50, 3, false, 0, 0), (17, .astore 7, 2, false, 0, 0), (19, .aload 6, 2, false, 0, 0), (21, .ifnull 8, 3, false, 0, 29), (24, .aload 7, 2, false, 0, 0), (26, .ifnonnull 5, 3, false, 0, 31), (29, .iconst (-1), 1, false, (-1), 0), (30, .ireturn, 1, false, 0, 0), (31, .aload 6, 2, false, 0, 0), (33, .getfield 236, 3, false, 0, 0), (36, .ifCond .eq 11, 3, false, 0, 47), (39, .aload 7, 2, false, 0, 0), (41, .getfield 236, 3, false, 0, 0), (44, .ifCond .ne 9, 3, false, 0, 53), (47, .aload_n 0, 1, false, 0, 0), (48, .iconst 1, 1, false, 1, 0), (49, .invokevirtual 62, 3, false, 0, 0), (52, .ireturn, 1, false, 0, 0), (53, .aload 6, 2, false, 0, 0), (55, .getfield 240, 3, false, 0, 0), (58, .aload 7, 2, false, 0, 0), (60, .getfield 240, 3, false, 0, 0), (63, .if_icmp .eq 9, 3, false, 0, 72), (66, .aload_n 0, 1, false, 0, 0), (67, .iconst 2, 1, false, 2, 0), (68, .invokevirtual 62, 3, false, 0, 0), (71, .ireturn, 1, false, 0, 0), (72, .aload 6, 2, false, 0, 0), (74, .iload_n 2, 1, false, 0, 0), (75, .iload 5, 2, false, 0, 0), (77, .invokevirtual 246, 3, false, 0, 0), (80, .ifCond .eq 15, 3, false, 0, 95), (83, .aload 7, 2, false, 0, 0), (85, .iload 4, 2, false, 0, 0), (87, .iload 5, 2, false, 0, 0), (89, .invokevirtual 246, 3, false, 0, 0), (92, .ifCond .ne 9, 3, false, 0, 101), (95, .aload_n 0, 1, false, 0, 0), (96, .iconst 3, 1, false, 3, 0), (97, .invokevirtual 62, 3, false, 0, 0), (100, .ireturn, 1, false, 0, 0), (101, .aload 6, 2, false, 0, 0), (103, .getfield 249, 3, false, 0, 0), (106, .iload_n 2, 1, false, 0, 0), (107, .aload 7, 2, false, 0, 0), (109, .getfield 249, 3, false, 0, 0), (112, .iload 4, 2, false, 0, 0), (114, .iload 5, 2, false, 0, 0), (116, .invokestatic 253, 3, false, 0, 0), (119, .iload 5, 2, false, 0, 0), (121, .ireturn, 1, false, 0, 0)]
set_option maxRecDepth 100000 in
theorem ck_X7_copy : ip_chk cX7_copy tb_X7_copy = true := by decide +kernel
def tb_X7_tell : List ip_I := [(0, .aload_n 0, 1, false, 0, 0), (1, .getfield 20, 3, false, 0, 0), (4, .iload_n 1, 1, false, 0, 0), (5, .invokevirtual 82, 3, false, 0, 0), (8, .astore_n 2, 1, false, 0, 0), (9, .aload_n 2, 1, false, 0, 0), (10, .ifnonnull 5, 3, false, 0, 15), (13, .iconst (-1), 1, false, (-1), 0), (14, .ireturn, 1, false, 0, 0), (15, .aload_n 2, 1, false, 0, 0), (16, .getfield 86, 3, false, 0, 0), (19, .lookupswitch 37 #[(1, 31), (2, 25)], 25, false, 0, 0), (44, .aload_n 0, 1, false, 0, 0), (45, .aload_n 2, 1, false, 0, 0), (46, .invokevirtual 259, 3, false, 0, 0), (49, .ireturn, 1, false, 0, 0), (50, .aload_n 0, 1, false, 0, 0), (51, .aload_n 2, 1, false, 0, 0), (52, .invokevirtual 263, 3, false, 0, 0), (55, .ireturn, 1, false, 0, 0), (56, .aload_n 0, 1, false, 0, 0), (57, .aload_n 2, 1, false, 0, 0), (58, .invokevirtual 266, 3, false, 0, 0), (61, .ireturn, 1, false, 0, 0)]
set_option maxRecDepth 100000 in
theorem ck_X7_tell : ip_chk cX7_tell tb_X7_tell = true := by decide +kernel
def tb_X7_hail : List ip_I := [(0, .aload_n 0, 1, false, 0, 0), (1, .getfield 20, 3, false, 0, 0), (4, .iload_n 1, 1, false, 0, 0), (5, .invokevirtual 82, 3, false, 0, 0), (8, .astore_n 2, 1, false, 0, 0), (9, .aload_n 2, 1, false, 0, 0), (10, .ifnonnull 5, 3, false, 0, 15), (13, .iconst (-1), 1, false, (-1), 0), (14, .ireturn, 1, false, 0, 0), (15, .aload_n 2, 1, false, 0, 0), (16, .getfield 86, 3, false, 0, 0), (19, .iconst 2, 1, false, 2, 0), (20, .if_icmp .ne 11, 3, false, 0, 31), (23, .aload_n 0, 1, false, 0, 0), (24, .iconst 5, 1, false, 5, 0), (25, .invokevirtual 269, 3, false, 0, 0), (28, .bipush 60, 2, false, 60, 0), (30, .ireturn, 1, false, 0, 0), (31, .aload_n 0, 1, false, 0, 0), (32, .iconst 4, 1, false, 4, 0), (33, .invokevirtual 269, 3, false, 0, 0), (36, .iload_n 1, 1, false, 0, 0), (37, .ireturn, 1, false, 0, 0)]
set_option maxRecDepth 100000 in
theorem ck_X7_hail : ip_chk cX7_hail tb_X7_hail = true := by decide +kernel
def tb_X7_as : List ip_I := [(0, .aload_n 0, 1, false, 0, 0), (1, .iconst 0, 1, false, 0, 0), (2, .putfield 46, 3, false, 0, 0), (5, .aload_n 0, 1, false, 0, 0), (6, .getfield 20, 3, false, 0, 0), (9, .iload_n 1, 1, false, 0, 0), (10, .invokevirtual 82, 3, false, 0, 0), (13, .astore_n 3, 1, false, 0, 0), (14, .aload_n 3, 1, false, 0, 0), (15, .ifnonnull 5, 3, false, 0, 20), (18, .iconst (-1), 1, false, (-1), 0), (19, .ireturn, 1, false, 0, 0), (20, .iload_n 2, 1, false, 0, 0), (21, .ifCond .lt 8, 3, false, 0, 29), (24, .iload_n 2, 1, false, 0, 0), (25, .iconst 3, 1, false, 3, 0), (26, .if_icmp .lt 6, 3, false, 0, 32), (29, .bipush (-2), 2, false, (-2), 0), (31, .ireturn, 1, false, 0, 0), (32, .iload_n 2, 1, false, 0, 0), (33, .aload_n 3, 1, false, 0, 0), (34, .getfield 86, 3, false, 0, 0), (37, .if_icmp .gt 7, 3, false, 0, 44), (40, .iconst 1, 1, false, 1, 0), (41, .goto 8, 3, false, 0, 49), (44, .aload_n 0, 1, false, 0, 0), (45, .iconst 2, 1, false, 2, 0), (46, .invokevirtual 62, 3, false, 0, 0), (49, .ireturn, 1, false, 0, 0)]
set_option maxRecDepth 100000 in
theorem ck_X7_as : ip_chk cX7_as tb_X7_as = true := by decide +kernel
def tb_X7_trace : List ip_I := [(0, .aload_n 0, 1, false, 0, 0), (1, .getfield 273, 3, false, 0, 0), (4, .ireturn, 1, false, 0, 0)]
set_option maxRecDepth 100000 in
theorem ck_X7_trace : ip_chk cX7_trace tb_X7_trace = true := by decide +kernel
def tb_X7_fault : List ip_I := [(0, .aload_n 0, 1, false, 0, 0), (1, .getfield 46, 3, false, 0, 0), (4, .ireturn, 1, false, 0, 0)]
set_option maxRecDepth 100000 in
theorem ck_X7_fault : ip_chk cX7_fault tb_X7_fault = true := by decide +kernel
def tb_X7_many : List ip_I := [(0, .iload_n 1, 1, false, 0, 0), (1, .tableswitch 63 0 3 #[31, 39, 47, 55], 31, false, 0, 0), (32, .aload_n 0, 1, false, 0, 0), (33, .getfield 20, 3, false, 0, 0), (36, .getfield 79, 3, false, 0, 0), (39, .ireturn, 1, false, 0, 0), (40, .aload_n 0, 1, false, 0, 0), (41, .getfield 20, 3, false, 0, 0), (44, .getfield 161, 3, false, 0, 0), (47, .ireturn, 1, false, 0, 0), (48, .aload_n 0, 1, false, 0, 0), (49, .getfield 20, 3, false, 0, 0), (52, .getfield 104, 3, false, 0, 0), (55, .ireturn, 1, false, 0, 0), (56, .aload_n 0, 1, false, 0, 0), (57, .getfield 27, 3, false, 0, 0), (60, .getfield 76, 3, false, 0, 0), (63, .ireturn, 1, false, 0, 0), (64, .bipush (-2), 2, false, (-2), 0), (66, .ireturn, 1, false, 0, 0)]
set_option maxRecDepth 100000 in
theorem ck_X7_many : ip_chk cX7_many tb_X7_many = true := by decide +kernel
def tb_X7_sheetOf : List ip_I := [(0, .iload_n 1, 1, false, 0, 0), (1, .ifCond .lt 8, 3, false, 0, 9), (4, .iload_n 1, 1, false, 0, 0), (5, .iconst 4, 1, false, 4, 0), (6, .if_icmp .lt 7, 3, false, 0, 13), (9, .aconst_null, 1, false, 0, 0), (10, .goto 9, 3, false, 0, 19), (13, .aload_n 0, 1, false, 0, 0), (14, .getfield 13, 3, false, 0, 0), (17, .iload_n 1, 1, false, 0, 0), (18, .aaload, 1, false, 0, 0), (19, .areturn, 1, false, 0, 0)]
set_option maxRecDepth 100000 in
theorem ck_X7_sheetOf : ip_chk cX7_sheetOf tb_X7_sheetOf = true := by decide +kernel
def tb_X7_faulty : List ip_I := [(0, .aload_n 0, 1, false, 0, 0), (1, .iload_n 1, 1, false, 0, 0), (2, .putfield 46, 3, false, 0, 0), (5, .bipush (-10), 2, false, (-10), 0), (7, .iload_n 1, 1, false, 0, 0), (8, .isub, 1, false, 0, 0), (9, .ireturn, 1, false, 0, 0)]
set_option maxRecDepth 100000 in
theorem ck_X7_faulty : ip_chk cX7_faulty tb_X7_faulty = true := by decide +kernel
def tb_X7_hearStorm : List ip_I := [(0, .aload_n 0, 1, false, 0, 0), (1, .iconst 0, 1, false, 0, 0), (2, .putfield 46, 3, false, 0, 0), (5, .aload_n 0, 1, false, 0, 0), (6, .iload_n 1, 1, false, 0, 0), (7, .invokevirtual 50, 3, false, 0, 0), (10, .astore 6, 2, false, 0, 0), (12, .aload 6, 2, false, 0, 0), (14, .ifnonnull 5, 3, false, 0, 19), (17, .iconst (-1), 1, false, (-1), 0), (18, .ireturn, 1, false, 0, 0), (19, .iload_n 2, 1, false, 0, 0), (20, .invokestatic 54, 3, false, 0, 0), (23, .ifCond .eq 20, 3, false, 0, 43), (26, .iload 4, 2, false, 0, 0), (28, .ifCond .lt 15, 3, false, 0, 43), (31, .iload 4, 2, false, 0, 0), (33, .bipush 20, 2, false, 20, 0), (35, .if_icmp .gt 8, 3, false, 0, 43), (38, .iload 5, 2, false, 0, 0), (40, .ifCond .ne 6, 3, false, 0, 46), (43, .bipush (-2), 2, false, (-2), 0), (45, .ireturn, 1, false, 0, 0), (46, .aload 6, 2, false, 0, 0), (48, .iload_n 2, 1, false, 0, 0), (49, .iload_n 3, 1, false, 0, 0), (50, .iconst 2, 1, false, 2, 0), (51, .iload 4, 2, false, 0, 0), (53, .imul, 1, false, 0, 0), (54, .invokevirtual 58, 3, false, 0, 0), (57, .istore 7, 2, false, 0, 0), (59, .iload 7, 2, false, 0, 0), (61, .ifCond .eq 10, 3, false, 0, 71), (64, .aload_n 0, 1, false, 0, 0), (65, .iload 7, 2, false, 0, 0), (67, .invokevirtual 62, 3, false, 0, 0), (70, .ireturn, 1, false, 0, 0), (71, .aload_n 0, 1, false, 0, 0), (72, .getfield 20, 3, false, 0, 0), (75, .invokevirtual 100, 3, false, 0, 0), (78, .ifCond .eq 15, 3, false, 0, 93), (81, .aload_n 0, 1, false, 0, 0), (82, .aload 6, 2, false, 0, 0), (84, .iload_n 3, 1, false, 0, 0), (85, .iload 4, 2, false, 0, 0), (87, .invokevirtual 276, 3, false, 0, 0), (90, .goto 5, 3, false, 0, 95), (93, .bipush (-3), 2, false, (-3), 0), (95, .ireturn, 1, false, 0, 0)]
set_option maxRecDepth 100000 in
theorem ck_X7_hearStorm : ip_chk cX7_hearStorm tb_X7_hearStorm = true := by decide +kernel
def tb_X7_hearPairs : List ip_I := [(0, .aload_n 0, 1, false, 0, 0), (1, .getfield 34, 3, false, 0, 0), (4, .iconst 0, 1, false, 0, 0), (5, .putfield 279, 3, false, 0, 0), (8, .iconst 0, 1, false, 0, 0), (9, .istore 4, 2, false, 0, 0), (11, .iload 4, 2, true, 0, 0), (13, .iload_n 3, 1, false, 0, 0), (14, .if_icmp .ge 71, 3, false, 0, 85), (17, .aload_n 1, 1, false, 0, 0), (18, .iload_n 2, 1, false, 0, 0), (19, .iconst 2, 1, false, 2, 0), (20, .iload 4, 2, false, 0, 0), (22, .imul, 1, false, 0, 0), (23, .iadd, 1, false, 0, 0), (24, .invokevirtual 181, 3, false, 0, 0), (27, .istore 5, 2, false, 0, 0), (29, .aload_n 1, 1, false, 0, 0), (30, .iload_n 2, 1, false, 0, 0), (31, .iconst 2, 1, false, 2, 0), (32, .iload 4, 2, false, 0, 0), (34, .imul, 1, false, 0, 0), (35, .iadd, 1, false, 0, 0), (36, .iconst 1, 1, false, 1, 0), (37, .iadd, 1, false, 0, 0), (38, .invokevirtual 181, 3, false, 0, 0), (41, .istore 6, 2, false, 0, 0), (43, .aload_n 0, 1, false, 0, 0), (44, .getfield 20, 3, false, 0, 0), (47, .iload 5, 2, false, 0, 0), (49, .invokevirtual 107, 3, false, 0, 0), (52, .ifCond .ne 5, 3, false, 0, 57), (55, .iconst (-1), 1, false, (-1), 0), (56, .ireturn, 1, false, 0, 0), (57, .iload 6, 2, false, 0, 0), (59, .invokestatic 110, 3, false, 0, 0), (62, .ifCond .ne 6, 3, false, 0, 68), (65, .bipush (-2), 2, false, (-2), 0), (67, .ireturn, 1, false, 0, 0), (68, .aload_n 0, 1, false, 0, 0), (69, .getfield 34, 3, false, 0, 0), (72, .iload 5, 2, false, 0, 0), (74, .iload 6, 2, false, 0, 0), (76, .invokevirtual 282, 3, false, 0, 0), (79, .iinc 4 1, 3, false, 1, 0), (82, .goto (-71), 3, false, 0, 11), (85, .iconst 0, 1, false, 0, 0), (86, .ireturn, 1, false, 0, 0)]
set_option maxRecDepth 100000 in
theorem ck_X7_hearPairs : ip_chk cX7_hearPairs tb_X7_hearPairs = true := by decide +kernel
def tb_X7_lessons : List ip_I := [(0, .aload_n 1, 1, false, 0, 0), (1, .getfield 94, 3, false, 0, 0), (4, .istore_n 2, 1, false, 0, 0), (5, .lconst 0, 1, false, 0, 0), (6, .lstore_n 3, 1, false, 0, 0), (7, .iconst 0, 1, false, 0, 0), (8, .istore 5, 2, false, 0, 0), (10, .iload 5, 2, true, 0, 0), (12, .bipush 64, 2, false, 64, 0), (14, .if_icmp .ge 47, 3, false, 0, 61), (17, .aload_n 1, 1, false, 0, 0), (18, .iload_n 2, 1, false, 0, 0), (19, .iload 5, 2, false, 0, 0), (21, .ior, 1, false, 0, 0), (22, .putfield 94, 3, false, 0, 0), (25, .iload_n 2, 1, false, 0, 0), (26, .iload 5, 2, false, 0, 0), (28, .iand, 1, false, 0, 0), (29, .ifCond .ne 26, 3, false, 0, 55), (32, .aload_n 0, 1, false, 0, 0), (33, .getfield 34, 3, false, 0, 0), (36, .aload_n 0, 1, false, 0, 0), (37, .getfield 20, 3, false, 0, 0), (40, .invokevirtual 137, 3, false, 0, 0), (43, .bipush (-9), 2, false, (-9), 0), (45, .if_icmp .ne 10, 3, false, 0, 55), (48, .lload_n 3, 1, false, 0, 0), (49, .lconst 1, 1, false, 0, 0), (50, .iload 5, 2, false, 0, 0), (52, .lshl, 1, false, 0, 0), (53, .lor, 1, false, 0, 0), (54, .lstore_n 3, 1, false, 0, 0), (55, .iinc 5 1, 3, false, 1, 0), (58, .goto (-48), 3, false, 0, 10), (61, .aload_n 1, 1, false, 0, 0), (62, .iload_n 2, 1, false, 0, 0), (63, .putfield 94, 3, false, 0, 0), (66, .lload_n 3, 1, false, 0, 0), (67, .lreturn, 1, false, 0, 0)]
set_option maxRecDepth 100000 in
theorem ck_X7_lessons : ip_chk cX7_lessons tb_X7_lessons = true := by decide +kernel
def tb_X7_stepsOver : List ip_I := [(0, .iload_n 2, 1, false, 0, 0), (1, .iload_n 0, 1, false, 0, 0), (2, .isub, 1, false, 0, 0), (3, .iload_n 1, 1, false, 0, 0), (4, .iload_n 0, 1, false, 0, 0), (5, .isub, 1, false, 0, 0), (6, .iload_n 2, 1, false, 0, 0), (7, .iload_n 1, 1, false, 0, 0), (8, .isub, 1, false, 0, 0), (9, .invokestatic 285, 3, false, 0, 0), (12, .iadd, 1, false, 0, 0), (13, .ireturn, 1, false, 0, 0)]
set_option maxRecDepth 100000 in
theorem ck_X7_stepsOver : ip_chk cX7_stepsOver tb_X7_stepsOver = true := by decide +kernel
def tb_X7_manTells : List ip_I := [(0, .aload_n 0, 1, false, 0, 0), (1, .iconst 1, 1, false, 1, 0), (2, .invokevirtual 269, 3, false, 0, 0), (5, .aload_n 1, 1, false, 0, 0), (6, .getfield 91, 3, false, 0, 0), (9, .ireturn, 1, false, 0, 0)]
set_option maxRecDepth 100000 in
theorem ck_X7_manTells : ip_chk cX7_manTells tb_X7_manTells = true := by decide +kernel
def tb_X7_boldTells : List ip_I := [(0, .aload_n 0, 1, false, 0, 0), (1, .iconst 2, 1, false, 2, 0), (2, .invokevirtual 269, 3, false, 0, 0), (5, .aload_n 0, 1, false, 0, 0), (6, .aload_n 1, 1, false, 0, 0), (7, .invokevirtual 266, 3, false, 0, 0), (10, .bipush 100, 2, false, 100, 0), (12, .iadd, 1, false, 0, 0), (13, .ireturn, 1, false, 0, 0)]
set_option maxRecDepth 100000 in
theorem ck_X7_boldTells : ip_chk cX7_boldTells tb_X7_boldTells = true := by decide +kernel
def tb_X7_spitefulTells : List ip_I := [(0, .aload_n 0, 1, false, 0, 0), (1, .iconst 3, 1, false, 3, 0), (2, .invokevirtual 269, 3, false, 0, 0), (5, .aload_n 0, 1, false, 0, 0), (6, .aload_n 1, 1, false, 0, 0), (7, .invokevirtual 263, 3, false, 0, 0), (10, .istore_n 2, 1, false, 0, 0), (11, .iload_n 2, 1, false, 0, 0), (12, .aload_n 0, 1, false, 0, 0), (13, .aload_n 1, 1, false, 0, 0), (14, .invokevirtual 266, 3, false, 0, 0), (17, .iadd, 1, false, 0, 0), (18, .ireturn, 1, false, 0, 0)]
set_option maxRecDepth 100000 in
theorem ck_X7_spitefulTells : ip_chk cX7_spitefulTells tb_X7_spitefulTells = true := by decide +kernel
def tb_X7_begin : List ip_I := [(0, .aload_n 0, 1, false, 0, 0), (1, .bipush 31, 2, false, 31, 0), (3, .aload_n 0, 1, false, 0, 0), (4, .getfield 273, 3, false, 0, 0), (7, .imul, 1, false, 0, 0), (8, .iload_n 1, 1, false, 0, 0), (9, .iadd, 1, false, 0, 0), (10, .putfield 273, 3, false, 0, 0), (13, .return_, 1, false, 0, 0)]
set_option maxRecDepth 100000 in
theorem ck_X7_begin : ip_chk cX7_begin tb_X7_begin = true := by decide +kernel
def tb_X7_isLane : List ip_I := [(0, .iload_n 0, 1, false, 0, 0), (1, .ifCond .lt 12, 3, false, 0, 13), (4, .iload_n 0, 1, false, 0, 0), (5, .iconst 3, 1, false, 3, 0), (6, .if_icmp .ge 7, 3, false, 0, 13), (9, .iconst 1, 1, false, 1, 0), (10, .goto 4, 3, false, 0, 14), (13, .iconst 0, 1, false, 0, 0), (14, .ireturn, 1, false, 0, 0)]
set_option maxRecDepth 100000 in
theorem ck_X7_isLane : ip_chk cX7_isLane tb_X7_isLane = true := by decide +kernel
def tb_X7_isSet : List ip_I := [(0, .iload_n 0, 1, false, 0, 0), (1, .ifCond .lt 13, 3, false, 0, 14), (4, .iload_n 0, 1, false, 0, 0), (5, .bipush 64, 2, false, 64, 0), (7, .if_icmp .ge 7, 3, false, 0, 14), (10, .iconst 1, 1, false, 1, 0), (11, .goto 4, 3, false, 0, 15), (14, .iconst 0, 1, false, 0, 0), (15, .ireturn, 1, false, 0, 0)]
set_option maxRecDepth 100000 in
theorem ck_X7_isSet : ip_chk cX7_isSet tb_X7_isSet = true := by decide +kernel
def tb_X7_isQuestion : List ip_I := [(0, .iload_n 0, 1, false, 0, 0), (1, .ifCond .lt 13, 3, false, 0, 14), (4, .iload_n 0, 1, false, 0, 0), (5, .bipush 6, 2, false, 6, 0), (7, .if_icmp .ge 7, 3, false, 0, 14), (10, .iconst 1, 1, false, 1, 0), (11, .goto 4, 3, false, 0, 15), (14, .iconst 0, 1, false, 0, 0), (15, .ireturn, 1, false, 0, 0)]
set_option maxRecDepth 100000 in
theorem ck_X7_isQuestion : ip_chk cX7_isQuestion tb_X7_isQuestion = true := by decide +kernel
def tb_X7_isWhich : List ip_I := [(0, .iload_n 0, 1, false, 0, 0), (1, .ifCond .eq 8, 3, false, 0, 9), (4, .iload_n 0, 1, false, 0, 0), (5, .iconst 1, 1, false, 1, 0), (6, .if_icmp .ne 7, 3, false, 0, 13), (9, .iconst 1, 1, false, 1, 0), (10, .goto 4, 3, false, 0, 14), (13, .iconst 0, 1, false, 0, 0), (14, .ireturn, 1, false, 0, 0)]
set_option maxRecDepth 100000 in
theorem ck_X7_isWhich : ip_chk cX7_isWhich tb_X7_isWhich = true := by decide +kernel
def tb_X7_holds : List ip_I := [(0, .iload_n 0, 1, false, 0, 0), (1, .iload_n 1, 1, false, 0, 0), (2, .ishr, 1, false, 0, 0), (3, .iconst 1, 1, false, 1, 0), (4, .iand, 1, false, 0, 0), (5, .ifCond .eq 7, 3, false, 0, 12), (8, .iconst 1, 1, false, 1, 0), (9, .goto 4, 3, false, 0, 13), (12, .iconst 0, 1, false, 0, 0), (13, .ireturn, 1, false, 0, 0)]
set_option maxRecDepth 100000 in
theorem ck_X7_holds : ip_chk cX7_holds tb_X7_holds = true := by decide +kernel
def tb_X7_holdsSet : List ip_I := [(0, .lload_n 0, 1, false, 0, 0), (1, .iload_n 2, 1, false, 0, 0), (2, .lshr, 1, false, 0, 0), (3, .lconst 1, 1, false, 0, 0), (4, .land, 1, false, 0, 0), (5, .lconst 0, 1, false, 0, 0), (6, .lcmp, 1, false, 0, 0), (7, .ifCond .eq 7, 3, false, 0, 14), (10, .iconst 1, 1, false, 1, 0), (11, .goto 4, 3, false, 0, 15), (14, .iconst 0, 1, false, 0, 0), (15, .ireturn, 1, false, 0, 0)]
set_option maxRecDepth 100000 in
theorem ck_X7_holdsSet : ip_chk cX7_holdsSet tb_X7_holdsSet = true := by decide +kernel
def tb_X7_leastOf : List ip_I := [(0, .iconst 0, 1, false, 0, 0), (1, .istore_n 2, 1, false, 0, 0), (2, .iload_n 2, 1, true, 0, 0), (3, .bipush 64, 2, false, 64, 0), (5, .if_icmp .ge 19, 3, false, 0, 24), (8, .lload_n 0, 1, false, 0, 0), (9, .iload_n 2, 1, false, 0, 0), (10, .invokestatic 288, 3, false, 0, 0), (13, .ifCond .eq 5, 3, false, 0, 18), (16, .iload_n 2, 1, false, 0, 0), (17, .ireturn, 1, false, 0, 0), (18, .iinc 2 1, 3, false, 1, 0), (21, .goto (-19), 3, false, 0, 2), (24, .bipush (-9), 2, false, (-9), 0), (26, .ireturn, 1, false, 0, 0)]
set_option maxRecDepth 100000 in
theorem ck_X7_leastOf : ip_chk cX7_leastOf tb_X7_leastOf = true := by decide +kernel
def tb_X7_countHolding : List ip_I := [(0, .iconst 0, 1, false, 0, 0), (1, .istore_n 3, 1, false, 0, 0), (2, .iconst 0, 1, false, 0, 0), (3, .istore 4, 2, false, 0, 0), (5, .iload 4, 2, true, 0, 0), (7, .bipush 64, 2, false, 64, 0), (9, .if_icmp .ge 30, 3, false, 0, 39), (12, .lload_n 0, 1, false, 0, 0), (13, .iload 4, 2, false, 0, 0), (15, .invokestatic 288, 3, false, 0, 0), (18, .ifCond .eq 15, 3, false, 0, 33), (21, .iload 4, 2, false, 0, 0), (23, .iload_n 2, 1, false, 0, 0), (24, .invokestatic 113, 3, false, 0, 0), (27, .ifCond .eq 6, 3, false, 0, 33), (30, .iinc 3 1, 3, false, 1, 0), (33, .iinc 4 1, 3, false, 1, 0), (36, .goto (-31), 3, false, 0, 5), (39, .iload_n 3, 1, false, 0, 0), (40, .ireturn, 1, false, 0, 0)]
set_option maxRecDepth 100000 in
theorem ck_X7_countHolding : ip_chk cX7_countHolding tb_X7_countHolding = true := by decide +kernel
def tb_X7_fewestQuestions : List ip_I := [(0, .bipush (-9), 2, false, (-9), 0), (2, .istore_n 2, 1, false, 0, 0), (3, .bipush 7, 2, false, 7, 0), (5, .istore_n 3, 1, false, 0, 0), (6, .iconst 0, 1, false, 0, 0), (7, .istore 4, 2, false, 0, 0), (9, .iload 4, 2, true, 0, 0), (11, .bipush 64, 2, false, 64, 0), (13, .if_icmp .ge 36, 3, false, 0, 49), (16, .lload_n 0, 1, false, 0, 0), (17, .iload 4, 2, false, 0, 0), (19, .invokestatic 288, 3, false, 0, 0), (22, .ifCond .eq 21, 3, false, 0, 43), (25, .iload 4, 2, false, 0, 0), (27, .invokestatic 184, 3, false, 0, 0), (30, .iload_n 3, 1, false, 0, 0), (31, .if_icmp .ge 12, 3, false, 0, 43), (34, .iload 4, 2, false, 0, 0), (36, .istore_n 2, 1, false, 0, 0), (37, .iload 4, 2, false, 0, 0), (39, .invokestatic 184, 3, false, 0, 0), (42, .istore_n 3, 1, false, 0, 0), (43, .iinc 4 1, 3, false, 1, 0), (46, .goto (-37), 3, false, 0, 9), (49, .iload_n 2, 1, false, 0, 0), (50, .ireturn, 1, false, 0, 0)]
set_option maxRecDepth 100000 in
theorem ck_X7_fewestQuestions : ip_chk cX7_fewestQuestions tb_X7_fewestQuestions = true := by decide +kernel
def tb_X7_inLeastTerms : List ip_I := [(0, .lload_n 2, 1, false, 0, 0), (1, .lload_n 0, 1, false, 0, 0), (2, .invokestatic 292, 3, false, 0, 0), (5, .lstore 5, 2, false, 0, 0), (7, .iload 4, 2, false, 0, 0), (9, .ifCond .ne 7, 3, false, 0, 16), (12, .lload_n 0, 1, false, 0, 0), (13, .goto 4, 3, false, 0, 17), (16, .lload_n 2, 1, false, 0, 0), (17, .lstore 7, 2, false, 0, 0), (19, .lload 5, 2, false, 0, 0), (21, .lconst 0, 1, false, 0, 0), (22, .lcmp, 1, false, 0, 0), (23, .ifCond .ne 8, 3, false, 0, 31), (26, .lload 7, 2, false, 0, 0), (28, .goto 8, 3, false, 0, 36), (31, .lload 7, 2, false, 0, 0), (33, .lload 5, 2, false, 0, 0), (35, .ldiv, 1, false, 0, 0), (36, .lreturn, 1, false, 0, 0)]
set_option maxRecDepth 100000 in
theorem ck_X7_inLeastTerms : ip_chk cX7_inLeastTerms tb_X7_inLeastTerms = true := by decide +kernel
def tb_X7_commonDivisor : List ip_I := [(0, .lload_n 0, 1, false, 0, 0), (1, .lstore 4, 2, false, 0, 0), (3, .lload_n 2, 1, false, 0, 0), (4, .lstore 6, 2, false, 0, 0), (6, .iconst 0, 1, false, 0, 0), (7, .istore 8, 2, false, 0, 0), (9, .iload 8, 2, true, 0, 0), (11, .bipush 100, 2, false, 100, 0), (13, .if_icmp .ge 31, 3, false, 0, 44), (16, .lload 6, 2, false, 0, 0), (18, .lconst 0, 1, false, 0, 0), (19, .lcmp, 1, false, 0, 0), (20, .ifCond .eq 24, 3, false, 0, 44), (23, .lload 4, 2, false, 0, 0), (25, .lload 6, 2, false, 0, 0), (27, .lrem, 1, false, 0, 0), (28, .lstore 9, 2, false, 0, 0), (30, .lload 6, 2, false, 0, 0), (32, .lstore 4, 2, false, 0, 0), (34, .lload 9, 2, false, 0, 0), (36, .lstore 6, 2, false, 0, 0), (38, .iinc 8 1, 3, false, 1, 0), (41, .goto (-32), 3, false, 0, 9), (44, .lload 4, 2, false, 0, 0), (46, .lreturn, 1, false, 0, 0)]
set_option maxRecDepth 100000 in
theorem ck_X7_commonDivisor : ip_chk cX7_commonDivisor tb_X7_commonDivisor = true := by decide +kernel
def tb_X8_fails : List ip_I := [(0, .aload_n 0, 1, false, 0, 0), (1, .iload_n 1, 1, false, 0, 0), (2, .putfield 59, 3, false, 0, 0), (5, .bipush (-10), 2, false, (-10), 0), (7, .iload_n 1, 1, false, 0, 0), (8, .isub, 1, false, 0, 0), (9, .ireturn, 1, false, 0, 0)]
set_option maxRecDepth 100000 in
theorem ck_X8_fails : ip_chk cX8_fails tb_X8_fails = true := by decide +kernel
def tb_X8_lost : List ip_I := [(0, .aload_n 0, 1, false, 0, 0), (1, .iload_n 1, 1, false, 0, 0), (2, .putfield 59, 3, false, 0, 0), (5, .ldc2_w 63, 3, false, 0, 0), (8, .lreturn, 1, false, 0, 0)]
set_option maxRecDepth 100000 in
theorem ck_X8_lost : ip_chk cX8_lost tb_X8_lost = true := by decide +kernel
def tb_X8_within : List ip_I := [(0, .iload_n 0, 1, false, 0, 0), (1, .iload_n 1, 1, false, 0, 0), (2, .if_icmp .lt 12, 3, false, 0, 14), (5, .iload_n 0, 1, false, 0, 0), (6, .iload_n 2, 1, false, 0, 0), (7, .if_icmp .gt 7, 3, false, 0, 14), (10, .iconst 1, 1, false, 1, 0), (11, .goto 4, 3, false, 0, 15), (14, .iconst 0, 1, false, 0, 0), (15, .ireturn, 1, false, 0, 0)]
set_option maxRecDepth 100000 in
theorem ck_X8_within : ip_chk cX8_within tb_X8_within = true := by decide +kernel
def tb_X8_isSheet : List ip_I := [(0, .iload_n 0, 1, false, 0, 0), (1, .iconst 0, 1, false, 0, 0), (2, .iconst 3, 1, false, 3, 0), (3, .invokestatic 65, 3, false, 0, 0), (6, .ireturn, 1, false, 0, 0)]
set_option maxRecDepth 100000 in
theorem ck_X8_isSheet : ip_chk cX8_isSheet tb_X8_isSheet = true := by decide +kernel
def tb_X8_isSort : List ip_I := [(0, .iload_n 0, 1, false, 0, 0), (1, .iconst 0, 1, false, 0, 0), (2, .iconst 2, 1, false, 2, 0), (3, .invokestatic 65, 3, false, 0, 0), (6, .ireturn, 1, false, 0, 0)]
set_option maxRecDepth 100000 in
theorem ck_X8_isSort : ip_chk cX8_isSort tb_X8_isSort = true := by decide +kernel
def tb_X8_against : List ip_I := [(0, .aload_n 0, 1, false, 0, 0), (1, .getfield 9, 3, false, 0, 0), (4, .iload_n 1, 1, false, 0, 0), (5, .iaload, 1, false, 0, 0), (6, .bipush (-9), 2, false, (-9), 0), (8, .if_icmp .eq 15, 3, false, 0, 23), (11, .aload_n 0, 1, false, 0, 0), (12, .getfield 9, 3, false, 0, 0), (15, .iload_n 1, 1, false, 0, 0), (16, .iaload, 1, false, 0, 0), (17, .iload_n 2, 1, false, 0, 0), (18, .if_icmp .eq 5, 3, false, 0, 23), (21, .iconst 2, 1, false, 2, 0), (22, .ireturn, 1, false, 0, 0), (23, .aload_n 0, 1, false, 0, 0), (24, .getfield 9, 3, false, 0, 0), (27, .iload_n 1, 1, false, 0, 0), (28, .iaload, 1, false, 0, 0), (29, .bipush (-9), 2, false, (-9), 0), (31, .if_icmp .ne 5, 3, false, 0, 36), (34, .iconst 1, 1, false, 1, 0), (35, .ireturn, 1, false, 0, 0), (36, .iload 4, 2, false, 0, 0), (38, .ifCond .ge 5, 3, false, 0, 43), (41, .iconst 4, 1, false, 4, 0), (42, .ireturn, 1, false, 0, 0), (43, .iload_n 3, 1, false, 0, 0), (44, .ifCond .lt 26, 3, false, 0, 70), (47, .iload_n 3, 1, false, 0, 0), (48, .aload_n 0, 1, false, 0, 0), (49, .getfield 13, 3, false, 0, 0), (52, .iload_n 1, 1, false, 0, 0), (53, .iaload, 1, false, 0, 0), (54, .if_icmp .gt 16, 3, false, 0, 70), (57, .iload 4, 2, false, 0, 0), (59, .aload_n 0, 1, false, 0, 0), (60, .getfield 13, 3, false, 0, 0), (63, .iload_n 1, 1, false, 0, 0), (64, .iaload, 1, false, 0, 0), (65, .iload_n 3, 1, false, 0, 0), (66, .isub, 1, false, 0, 0), (67, .if_icmp .le 7, 3, false, 0, 74), (70, .iconst 3, 1, false, 3, 0), (71, .goto 4, 3, false, 0, 75), (74, .iconst 0, 1, false, 0, 0), (75, .ireturn, 1, false, 0, 0)]
set_option maxRecDepth 100000 in
theorem ck_X8_against : ip_chk cX8_against tb_X8_against = true := by decide +kernel
def tb_X8_isMan : List ip_I := [(0, .iload_n 1, 1, false, 0, 0), (1, .ifCond .lt 15, 3, false, 0, 16), (4, .iload_n 1, 1, false, 0, 0), (5, .aload_n 0, 1, false, 0, 0), (6, .getfield 69, 3, false, 0, 0), (9, .if_icmp .ge 7, 3, false, 0, 16), (12, .iconst 1, 1, false, 1, 0), (13, .goto 4, 3, false, 0, 17), (16, .iconst 0, 1, false, 0, 0), (17, .ireturn, 1, false, 0, 0)]
set_option maxRecDepth 100000 in
theorem ck_X8_isMan : ip_chk cX8_isMan tb_X8_isMan = true := by decide +kernel
def tb_X8_isParish : List ip_I := [(0, .iload_n 1, 1, false, 0, 0), (1, .ifCond .lt 15, 3, false, 0, 16), (4, .iload_n 1, 1, false, 0, 0), (5, .aload_n 0, 1, false, 0, 0), (6, .getfield 72, 3, false, 0, 0), (9, .if_icmp .ge 7, 3, false, 0, 16), (12, .iconst 1, 1, false, 1, 0), (13, .goto 4, 3, false, 0, 17), (16, .iconst 0, 1, false, 0, 0), (17, .ireturn, 1, false, 0, 0)]
set_option maxRecDepth 100000 in
theorem ck_X8_isParish : ip_chk cX8_isParish tb_X8_isParish = true := by decide +kernel
def tb_X8_isQuestion : List ip_I := [(0, .iload_n 0, 1, false, 0, 0), (1, .iconst 0, 1, false, 0, 0), (2, .iconst 5, 1, false, 5, 0), (3, .invokestatic 65, 3, false, 0, 0), (6, .ireturn, 1, false, 0, 0)]
set_option maxRecDepth 100000 in
theorem ck_X8_isQuestion : ip_chk cX8_isQuestion tb_X8_isQuestion = true := by decide +kernel
def tb_X8_isSet : List ip_I := [(0, .iload_n 0, 1, false, 0, 0), (1, .iconst 0, 1, false, 0, 0), (2, .bipush 63, 2, false, 63, 0), (4, .invokestatic 65, 3, false, 0, 0), (7, .ireturn, 1, false, 0, 0)]
set_option maxRecDepth 100000 in
theorem ck_X8_isSet : ip_chk cX8_isSet tb_X8_isSet = true := by decide +kernel
def tb_X8_digit : List ip_I := [(0, .aload_n 0, 1, false, 0, 0), (1, .getfield 75, 3, false, 0, 0), (4, .iload_n 1, 1, false, 0, 0), (5, .if_icmp .ge 26, 3, false, 0, 31), (8, .aload_n 0, 1, false, 0, 0), (9, .getfield 16, 3, false, 0, 0), (12, .aload_n 0, 1, false, 0, 0), (13, .getfield 75, 3, false, 0, 0), (16, .iaload, 1, false, 0, 0), (17, .bipush 48, 2, false, 48, 0), (19, .iload_n 2, 1, false, 0, 0), (20, .iadd, 1, false, 0, 0), (21, .bipush 48, 2, false, 48, 0), (23, .iload_n 3, 1, false, 0, 0), (24, .iadd, 1, false, 0, 0), (25, .invokestatic 65, 3, false, 0, 0), (28, .ifCond .ne 6, 3, false, 0, 34), (31, .bipush (-9), 2, false, (-9), 0), (33, .ireturn, 1, false, 0, 0), (34, .aload_n 0, 1, false, 0, 0), (35, .dup, 1, false, 0, 0), (36, .getfield 75, 3, false, 0, 0), (39, .iconst 1, 1, false, 1, 0), (40, .iadd, 1, false, 0, 0), (41, .putfield 75, 3, false, 0, 0), (44, .aload_n 0, 1, false, 0, 0), (45, .getfield 16, 3, false, 0, 0), (48, .aload_n 0, 1, false, 0, 0), (49, .getfield 75, 3, false, 0, 0), (52, .iconst 1, 1, false, 1, 0), (53, .isub, 1, false, 0, 0), (54, .iaload, 1, false, 0, 0), (55, .bipush 48, 2, false, 48, 0), (57, .isub, 1, false, 0, 0), (58, .ireturn, 1, false, 0, 0)]
set_option maxRecDepth 100000 in
theorem ck_X8_digit : ip_chk cX8_digit tb_X8_digit = true := by decide +kernel
def tb_X8_isSign : List ip_I := [(0, .aload_n 0, 1, false, 0, 0), (1, .getfield 75, 3, false, 0, 0), (4, .iload_n 1, 1, false, 0, 0), (5, .if_icmp .ge 16, 3, false, 0, 21), (8, .aload_n 0, 1, false, 0, 0), (9, .getfield 16, 3, false, 0, 0), (12, .aload_n 0, 1, false, 0, 0), (13, .getfield 75, 3, false, 0, 0), (16, .iaload, 1, false, 0, 0), (17, .iload_n 2, 1, false, 0, 0), (18, .if_icmp .eq 5, 3, false, 0, 23), (21, .iconst 0, 1, false, 0, 0), (22, .ireturn, 1, false, 0, 0), (23, .aload_n 0, 1, false, 0, 0), (24, .dup, 1, false, 0, 0), (25, .getfield 75, 3, false, 0, 0), (28, .iconst 1, 1, false, 1, 0), (29, .iadd, 1, false, 0, 0), (30, .putfield 75, 3, false, 0, 0), (33, .iconst 1, 1, false, 1, 0), (34, .ireturn, 1, false, 0, 0)]
set_option maxRecDepth 100000 in
theorem ck_X8_isSign : ip_chk cX8_isSign tb_X8_isSign = true := by decide +kernel
def tb_X8_readSet : List ip_I := [(0, .aload_n 0, 1, false, 0, 0), (1, .iload_n 1, 1, false, 0, 0), (2, .iconst 0, 1, false, 0, 0), (3, .bipush 6, 2, false, 6, 0), (5, .invokevirtual 78, 3, false, 0, 0), (8, .istore_n 2, 1, false, 0, 0), (9, .iload_n 2, 1, false, 0, 0), (10, .bipush (-9), 2, false, (-9), 0), (12, .if_icmp .ne 6, 3, false, 0, 18), (15, .bipush (-9), 2, false, (-9), 0), (17, .ireturn, 1, false, 0, 0), (18, .aload_n 0, 1, false, 0, 0), (19, .iload_n 1, 1, false, 0, 0), (20, .iconst 0, 1, false, 0, 0), (21, .iload_n 2, 1, false, 0, 0), (22, .bipush 6, 2, false, 6, 0), (24, .if_icmp .ne 7, 3, false, 0, 31), (27, .iconst 3, 1, false, 3, 0), (28, .goto 5, 3, false, 0, 33), (31, .bipush 9, 2, false, 9, 0), (33, .invokevirtual 78, 3, false, 0, 0), (36, .istore_n 3, 1, false, 0, 0), (37, .iload_n 3, 1, false, 0, 0), (38, .bipush (-9), 2, false, (-9), 0), (40, .if_icmp .ne 8, 3, false, 0, 48), (43, .bipush (-9), 2, false, (-9), 0), (45, .goto 9, 3, false, 0, 54), (48, .bipush 10, 2, false, 10, 0), (50, .iload_n 2, 1, false, 0, 0), (51, .imul, 1, false, 0, 0), (52, .iload_n 3, 1, false, 0, 0), (53, .iadd, 1, false, 0, 0), (54, .ireturn, 1, false, 0, 0)]
set_option maxRecDepth 100000 in
theorem ck_X8_readSet : ip_chk cX8_readSet tb_X8_readSet = true := by decide +kernel
def tb_X8_county : List ip_I := [(0, .aload_n 0, 1, false, 0, 0), (1, .iconst 0, 1, false, 0, 0), (2, .putfield 59, 3, false, 0, 0), (5, .iload_n 1, 1, false, 0, 0), (6, .invokestatic 82, 3, false, 0, 0), (9, .ifCond .ne 5, 3, false, 0, 14), (12, .iconst (-1), 1, false, (-1), 0), (13, .ireturn, 1, false, 0, 0), (14, .iload_n 2, 1, false, 0, 0), (15, .invokestatic 86, 3, false, 0, 0), (18, .ifCond .ne 6, 3, false, 0, 24), (21, .bipush (-2), 2, false, (-2), 0), (23, .ireturn, 1, false, 0, 0), (24, .aload_n 0, 1, false, 0, 0), (25, .iload_n 1, 1, false, 0, 0), (26, .iload_n 2, 1, false, 0, 0), (27, .iload_n 3, 1, false, 0, 0), (28, .iload 4, 2, false, 0, 0), (30, .invokevirtual 89, 3, false, 0, 0), (33, .istore 5, 2, false, 0, 0), (35, .iload 5, 2, false, 0, 0), (37, .ifCond .eq 10, 3, false, 0, 47), (40, .aload_n 0, 1, false, 0, 0), (41, .iload 5, 2, false, 0, 0), (43, .invokevirtual 93, 3, false, 0, 0), (46, .ireturn, 1, false, 0, 0), (47, .bipush 60, 2, false, 60, 0), (49, .iload_n 1, 1, false, 0, 0), (50, .imul, 1, false, 0, 0), (51, .iload_n 3, 1, false, 0, 0), (52, .iadd, 1, false, 0, 0), (53, .istore 6, 2, false, 0, 0), (55, .aload_n 0, 1, false, 0, 0), (56, .iload 6, 2, false, 0, 0), (58, .putfield 75, 3, false, 0, 0), (61, .aload_n 0, 1, false, 0, 0), (62, .iload 6, 2, false, 0, 0), (64, .iload 4, 2, false, 0, 0), (66, .iadd, 1, false, 0, 0), (67, .invokevirtual 97, 3, false, 0, 0), (70, .ifCond .ne 14, 3, false, 0, 84), (73, .bipush (-100), 2, false, (-100), 0), (75, .aload_n 0, 1, false, 0, 0), (76, .getfield 75, 3, false, 0, 0), (79, .iload 6, 2, false, 0, 0), (81, .isub, 1, false, 0, 0), (82, .isub, 1, false, 0, 0), (83, .ireturn, 1, false, 0, 0), (84, .aload_n 0, 1, false, 0, 0), (85, .aload_n 0, 1, false, 0, 0), (86, .getfield 100, 3, false, 0, 0), (89, .putfield 103, 3, false, 0, 0), (92, .aload_n 0, 1, false, 0, 0), (93, .aload_n 0, 1, false, 0, 0), (94, .getfield 106, 3, false, 0, 0), (97, .putfield 72, 3, false, 0, 0), (100, .aload_n 0, 1, false, 0, 0), (101, .aload_n 0, 1, false, 0, 0), (102, .getfield 109, 3, false, 0, 0), (105, .putfield 69, 3, false, 0, 0), (108, .iconst 0, 1, false, 0, 0), (109, .istore 7, 2, false, 0, 0), (111, .iload 7, 2, true, 0, 0), (113, .aload_n 0, 1, false, 0, 0), (114, .getfield 69, 3, false, 0, 0), (117, .if_icmp .ge 61, 3, false, 0, 178), (120, .aload_n 0, 1, false, 0, 0), (121, .getfield 19, 3, false, 0, 0), (124, .iload 7, 2, false, 0, 0), (126, .aload_n 0, 1, false, 0, 0), (127, .getfield 28, 3, false, 0, 0), (130, .iconst 3, 1, false, 3, 0), (131, .iload 7, 2, false, 0, 0), (133, .imul, 1, false, 0, 0), (134, .iaload, 1, false, 0, 0), (135, .iastore, 1, false, 0, 0), (136, .aload_n 0, 1, false, 0, 0), (137, .getfield 22, 3, false, 0, 0), (140, .iload 7, 2, false, 0, 0), (142, .aload_n 0, 1, false, 0, 0), (143, .getfield 28, 3, false, 0, 0), (146, .iconst 3, 1, false, 3, 0), (147, .iload 7, 2, false, 0, 0), (149, .imul, 1, false, 0, 0), (150, .iconst 1, 1, false, 1, 0), (151, .iadd, 1, false, 0, 0), (152, .iaload, 1, false, 0, 0), (153, .iastore, 1, false, 0, 0), (154, .aload_n 0, 1, false, 0, 0), (155, .getfield 25, 3, false, 0, 0), (158, .iload 7, 2, false, 0, 0), (160, .aload_n 0, 1, false, 0, 0), (161, .getfield 28, 3, false, 0, 0), (164, .iconst 3, 1, false, 3, 0), (165, .iload 7, 2, false, 0, 0), (167, .imul, 1, false, 0, 0), (168, .iconst 2, 1, false, 2, 0), (169, .iadd, 1, false, 0, 0), (170, .iaload, 1, false, 0, 0), (171, .iastore, 1, false, 0, 0), (172, .iinc 7 1, 3, false, 1, 0), (175, .goto (-64), 3, false, 0, 111), (178, .aload_n 0, 1, false, 0, 0), (179, .iconst 0, 1, false, 0, 0), (180, .putfield 112, 3, false, 0, 0), (183, .aload_n 0, 1, false, 0, 0), (184, .getfield 69, 3, false, 0, 0), (187, .ireturn, 1, false, 0, 0)]
set_option maxRecDepth 100000 in
theorem ck_X8_county : ip_chk cX8_county tb_X8_county = true := by decide +kernel
def tb_X8_readCounty : List ip_I := [(0, .aload_n 0, 1, false, 0, 0), (1, .iconst 0, 1, false, 0, 0), (2, .putfield 109, 3, false, 0, 0), (5, .aload_n 0, 1, false, 0, 0), (6, .iload_n 1, 1, false, 0, 0), (7, .bipush 100, 2, false, 100, 0), (9, .invokevirtual 115, 3, false, 0, 0), (12, .ifCond .ne 5, 3, false, 0, 17), (15, .iconst 0, 1, false, 0, 0), (16, .ireturn, 1, false, 0, 0), (17, .aload_n 0, 1, false, 0, 0), (18, .aload_n 0, 1, false, 0, 0), (19, .iload_n 1, 1, false, 0, 0), (20, .invokevirtual 119, 3, false, 0, 0), (23, .putfield 100, 3, false, 0, 0), (26, .aload_n 0, 1, false, 0, 0), (27, .getfield 100, 3, false, 0, 0), (30, .bipush (-9), 2, false, (-9), 0), (32, .if_icmp .ne 5, 3, false, 0, 37), (35, .iconst 0, 1, false, 0, 0), (36, .ireturn, 1, false, 0, 0), (37, .aload_n 0, 1, false, 0, 0), (38, .aload_n 0, 1, false, 0, 0), (39, .iload_n 1, 1, false, 0, 0), (40, .iconst 2, 1, false, 2, 0), (41, .bipush 6, 2, false, 6, 0), (43, .invokevirtual 78, 3, false, 0, 0), (46, .putfield 106, 3, false, 0, 0), (49, .aload_n 0, 1, false, 0, 0), (50, .getfield 106, 3, false, 0, 0), (53, .bipush (-9), 2, false, (-9), 0), (55, .if_icmp .ne 5, 3, false, 0, 60), (58, .iconst 0, 1, false, 0, 0), (59, .ireturn, 1, false, 0, 0), (60, .aload_n 0, 1, true, 0, 0), (61, .getfield 109, 3, false, 0, 0), (64, .ifCond .eq 19, 3, false, 0, 83), (67, .aload_n 0, 1, false, 0, 0), (68, .getfield 109, 3, false, 0, 0), (71, .iconst 4, 1, false, 4, 0), (72, .if_icmp .ge 31, 3, false, 0, 103), (75, .aload_n 0, 1, false, 0, 0), (76, .getfield 75, 3, false, 0, 0), (79, .iload_n 1, 1, false, 0, 0), (80, .if_icmp .ge 23, 3, false, 0, 103), (83, .aload_n 0, 1, false, 0, 0), (84, .iload_n 1, 1, false, 0, 0), (85, .bipush 44, 2, false, 44, 0), (87, .invokevirtual 115, 3, false, 0, 0), (90, .ifCond .eq 11, 3, false, 0, 101), (93, .aload_n 0, 1, false, 0, 0), (94, .iload_n 1, 1, false, 0, 0), (95, .invokevirtual 122, 3, false, 0, 0), (98, .ifCond .ne (-38), 3, false, 0, 60), (101, .iconst 0, 1, false, 0, 0), (102, .ireturn, 1, false, 0, 0), (103, .aload_n 0, 1, false, 0, 0), (104, .getfield 75, 3, false, 0, 0), (107, .iload_n 1, 1, false, 0, 0), (108, .if_icmp .ne 7, 3, false, 0, 115), (111, .iconst 1, 1, false, 1, 0), (112, .goto 4, 3, false, 0, 116), (115, .iconst 0, 1, false, 0, 0), (116, .ireturn, 1, false, 0, 0)]
set_option maxRecDepth 100000 in
theorem ck_X8_readCounty : ip_chk cX8_readCounty tb_X8_readCounty = true := by decide +kernel
def tb_X8_readMan : List ip_I := [(0, .iconst 3, 1, false, 3, 0), (1, .aload_n 0, 1, false, 0, 0), (2, .getfield 109, 3, false, 0, 0), (5, .imul, 1, false, 0, 0), (6, .istore_n 2, 1, false, 0, 0), (7, .aload_n 0, 1, false, 0, 0), (8, .getfield 75, 3, false, 0, 0), (11, .iload_n 1, 1, false, 0, 0), (12, .if_icmp .ge 15, 3, false, 0, 27), (15, .aload_n 0, 1, false, 0, 0), (16, .getfield 16, 3, false, 0, 0), (19, .aload_n 0, 1, false, 0, 0), (20, .getfield 75, 3, false, 0, 0), (23, .iaload, 1, false, 0, 0), (24, .goto 4, 3, false, 0, 28), (27, .iconst 0, 1, false, 0, 0), (28, .istore_n 3, 1, false, 0, 0), (29, .aload_n 0, 1, false, 0, 0), (30, .getfield 28, 3, false, 0, 0), (33, .iload_n 2, 1, false, 0, 0), (34, .iload_n 3, 1, false, 0, 0), (35, .bipush 109, 2, false, 109, 0), (37, .if_icmp .ne 7, 3, false, 0, 44), (40, .iconst 0, 1, false, 0, 0), (41, .goto 25, 3, false, 0, 66), (44, .iload_n 3, 1, false, 0, 0), (45, .bipush 98, 2, false, 98, 0), (47, .if_icmp .ne 7, 3, false, 0, 54), (50, .iconst 1, 1, false, 1, 0), (51, .goto 15, 3, false, 0, 66), (54, .iload_n 3, 1, false, 0, 0), (55, .bipush 115, 2, false, 115, 0), (57, .if_icmp .ne 7, 3, false, 0, 64), (60, .iconst 2, 1, false, 2, 0), (61, .goto 5, 3, false, 0, 66), (64, .bipush (-9), 2, false, (-9), 0), (66, .iastore, 1, false, 0, 0), (67, .aload_n 0, 1, false, 0, 0), (68, .getfield 28, 3, false, 0, 0), (71, .iload_n 2, 1, false, 0, 0), (72, .iaload, 1, false, 0, 0), (73, .bipush (-9), 2, false, (-9), 0), (75, .if_icmp .ne 5, 3, false, 0, 80), (78, .iconst 0, 1, false, 0, 0), (79, .ireturn, 1, false, 0, 0), (80, .aload_n 0, 1, false, 0, 0), (81, .dup, 1, false, 0, 0), (82, .getfield 75, 3, false, 0, 0), (85, .iconst 1, 1, false, 1, 0), (86, .iadd, 1, false, 0, 0), (87, .putfield 75, 3, false, 0, 0), (90, .aload_n 0, 1, false, 0, 0), (91, .getfield 28, 3, false, 0, 0), (94, .iload_n 2, 1, false, 0, 0), (95, .iconst 1, 1, false, 1, 0), (96, .iadd, 1, false, 0, 0), (97, .aload_n 0, 1, false, 0, 0), (98, .iload_n 1, 1, false, 0, 0), (99, .iconst 0, 1, false, 0, 0), (100, .aload_n 0, 1, false, 0, 0), (101, .getfield 106, 3, false, 0, 0), (104, .iconst 1, 1, false, 1, 0), (105, .isub, 1, false, 0, 0), (106, .invokevirtual 78, 3, false, 0, 0), (109, .iastore, 1, false, 0, 0), (110, .aload_n 0, 1, false, 0, 0), (111, .getfield 28, 3, false, 0, 0), (114, .iload_n 2, 1, false, 0, 0), (115, .iconst 1, 1, false, 1, 0), (116, .iadd, 1, false, 0, 0), (117, .iaload, 1, false, 0, 0), (118, .bipush (-9), 2, false, (-9), 0), (120, .if_icmp .ne 5, 3, false, 0, 125), (123, .iconst 0, 1, false, 0, 0), (124, .ireturn, 1, false, 0, 0), (125, .aload_n 0, 1, false, 0, 0), (126, .getfield 28, 3, false, 0, 0), (129, .iload_n 2, 1, false, 0, 0), (130, .iconst 2, 1, false, 2, 0), (131, .iadd, 1, false, 0, 0), (132, .aload_n 0, 1, false, 0, 0), (133, .iload_n 1, 1, false, 0, 0), (134, .invokevirtual 119, 3, false, 0, 0), (137, .iastore, 1, false, 0, 0), (138, .aload_n 0, 1, false, 0, 0), (139, .dup, 1, false, 0, 0), (140, .getfield 109, 3, false, 0, 0), (143, .iconst 1, 1, false, 1, 0), (144, .iadd, 1, false, 0, 0), (145, .putfield 109, 3, false, 0, 0), (148, .aload_n 0, 1, false, 0, 0), (149, .getfield 28, 3, false, 0, 0), (152, .iload_n 2, 1, false, 0, 0), (153, .iconst 2, 1, false, 2, 0), (154, .iadd, 1, false, 0, 0), (155, .iaload, 1, false, 0, 0), (156, .bipush (-9), 2, false, (-9), 0), (158, .if_icmp .eq 7, 3, false, 0, 165), (161, .iconst 1, 1, false, 1, 0), (162, .goto 4, 3, false, 0, 166), (165, .iconst 0, 1, false, 0, 0), (166, .ireturn, 1, false, 0, 0)]
set_option maxRecDepth 100000 in
theorem ck_X8_readMan : ip_chk cX8_readMan tb_X8_readMan = true := by decide +kernel
def tb_X8_ofMan : List ip_I := [(0, .aload_n 0, 1, false, 0, 0), (1, .iload_n 1, 1, false, 0, 0), (2, .invokevirtual 125, 3, false, 0, 0), (5, .ifCond .ne 5, 3, false, 0, 10), (8, .iconst (-1), 1, false, (-1), 0), (9, .ireturn, 1, false, 0, 0), (10, .iload_n 2, 1, false, 0, 0), (11, .ifCond .ne 12, 3, false, 0, 23), (14, .aload_n 0, 1, false, 0, 0), (15, .getfield 19, 3, false, 0, 0), (18, .iload_n 1, 1, false, 0, 0), (19, .iaload, 1, false, 0, 0), (20, .goto 33, 3, false, 0, 53), (23, .iload_n 2, 1, false, 0, 0), (24, .iconst 1, 1, false, 1, 0), (25, .if_icmp .ne 12, 3, false, 0, 37), (28, .aload_n 0, 1, false, 0, 0), (29, .getfield 22, 3, false, 0, 0), (32, .iload_n 1, 1, false, 0, 0), (33, .iaload, 1, false, 0, 0), (34, .goto 19, 3, false, 0, 53), (37, .iload_n 2, 1, false, 0, 0), (38, .iconst 2, 1, false, 2, 0), (39, .if_icmp .ne 12, 3, false, 0, 51), (42, .aload_n 0, 1, false, 0, 0), (43, .getfield 25, 3, false, 0, 0), (46, .iload_n 1, 1, false, 0, 0), (47, .iaload, 1, false, 0, 0), (48, .goto 5, 3, false, 0, 53), (51, .bipush (-2), 2, false, (-2), 0), (53, .ireturn, 1, false, 0, 0)]
set_option maxRecDepth 100000 in
theorem ck_X8_ofMan : ip_chk cX8_ofMan tb_X8_ofMan = true := by decide +kernel
def tb_X8_truth : List ip_I := [(0, .iload_n 1, 1, false, 0, 0), (1, .invokestatic 128, 3, false, 0, 0), (4, .ifCond .ne 6, 3, false, 0, 10), (7, .bipush (-2), 2, false, (-2), 0), (9, .ireturn, 1, false, 0, 0), (10, .aload_n 0, 1, false, 0, 0), (11, .getfield 69, 3, false, 0, 0), (14, .ifCond .ne 6, 3, false, 0, 20), (17, .bipush (-3), 2, false, (-3), 0), (19, .ireturn, 1, false, 0, 0), (20, .aload_n 0, 1, false, 0, 0), (21, .getfield 103, 3, false, 0, 0), (24, .istore_n 2, 1, false, 0, 0), (25, .aload_n 0, 1, false, 0, 0), (26, .iload_n 1, 1, false, 0, 0), (27, .putfield 103, 3, false, 0, 0), (30, .iload_n 2, 1, false, 0, 0), (31, .ireturn, 1, false, 0, 0)]
set_option maxRecDepth 100000 in
theorem ck_X8_truth : ip_chk cX8_truth tb_X8_truth = true := by decide +kernel
def tb_X8_stand : List ip_I := [(0, .aload_n 0, 1, false, 0, 0), (1, .iload_n 1, 1, false, 0, 0), (2, .invokevirtual 125, 3, false, 0, 0), (5, .ifCond .eq 11, 3, false, 0, 16), (8, .aload_n 0, 1, false, 0, 0), (9, .iload_n 2, 1, false, 0, 0), (10, .invokevirtual 131, 3, false, 0, 0), (13, .ifCond .ne 5, 3, false, 0, 18), (16, .iconst (-1), 1, false, (-1), 0), (17, .ireturn, 1, false, 0, 0), (18, .aload_n 0, 1, false, 0, 0), (19, .getfield 22, 3, false, 0, 0), (22, .iload_n 1, 1, false, 0, 0), (23, .iaload, 1, false, 0, 0), (24, .istore_n 3, 1, false, 0, 0), (25, .aload_n 0, 1, false, 0, 0), (26, .getfield 22, 3, false, 0, 0), (29, .iload_n 1, 1, false, 0, 0), (30, .iload_n 2, 1, false, 0, 0), (31, .iastore, 1, false, 0, 0), (32, .iload_n 3, 1, false, 0, 0), (33, .ireturn, 1, false, 0, 0)]
set_option maxRecDepth 100000 in
theorem ck_X8_stand : ip_chk cX8_stand tb_X8_stand = true := by decide +kernel
def tb_X8_learn : List ip_I := [(0, .aload_n 0, 1, false, 0, 0), (1, .iload_n 1, 1, false, 0, 0), (2, .invokevirtual 125, 3, false, 0, 0), (5, .ifCond .ne 5, 3, false, 0, 10), (8, .iconst (-1), 1, false, (-1), 0), (9, .ireturn, 1, false, 0, 0), (10, .iload_n 2, 1, false, 0, 0), (11, .invokestatic 128, 3, false, 0, 0), (14, .ifCond .ne 6, 3, false, 0, 20), (17, .bipush (-2), 2, false, (-2), 0), (19, .ireturn, 1, false, 0, 0), (20, .aload_n 0, 1, false, 0, 0), (21, .getfield 25, 3, false, 0, 0), (24, .iload_n 1, 1, false, 0, 0), (25, .iaload, 1, false, 0, 0), (26, .istore_n 3, 1, false, 0, 0), (27, .aload_n 0, 1, false, 0, 0), (28, .getfield 25, 3, false, 0, 0), (31, .iload_n 1, 1, false, 0, 0), (32, .iload_n 2, 1, false, 0, 0), (33, .iastore, 1, false, 0, 0), (34, .iload_n 3, 1, false, 0, 0), (35, .ireturn, 1, false, 0, 0)]
set_option maxRecDepth 100000 in
theorem ck_X8_learn : ip_chk cX8_learn tb_X8_learn = true := by decide +kernel
def tb_X8_right : List ip_I := [(0, .aload_n 0, 1, false, 0, 0), (1, .getfield 103, 3, false, 0, 0), (4, .iload_n 1, 1, false, 0, 0), (5, .ishr, 1, false, 0, 0), (6, .iconst 1, 1, false, 1, 0), (7, .iand, 1, false, 0, 0), (8, .ireturn, 1, false, 0, 0)]
set_option maxRecDepth 100000 in
theorem ck_X8_right : ip_chk cX8_right tb_X8_right = true := by decide +kernel
def tb_X8_answerOf : List ip_I := [(0, .aload_n 0, 1, false, 0, 0), (1, .getfield 25, 3, false, 0, 0), (4, .iload_n 1, 1, false, 0, 0), (5, .iaload, 1, false, 0, 0), (6, .iload_n 2, 1, false, 0, 0), (7, .ishr, 1, false, 0, 0), (8, .iconst 1, 1, false, 1, 0), (9, .iand, 1, false, 0, 0), (10, .iconst 1, 1, false, 1, 0), (11, .if_icmp .ne 7, 3, false, 0, 18), (14, .iconst 1, 1, false, 1, 0), (15, .goto 4, 3, false, 0, 19), (18, .iconst 0, 1, false, 0, 0), (19, .istore_n 3, 1, false, 0, 0), (20, .aload_n 0, 1, false, 0, 0), (21, .getfield 19, 3, false, 0, 0), (24, .iload_n 1, 1, false, 0, 0), (25, .iaload, 1, false, 0, 0), (26, .iconst 2, 1, false, 2, 0), (27, .if_icmp .ne 20, 3, false, 0, 47), (30, .iload_n 3, 1, false, 0, 0), (31, .ifCond .eq 13, 3, false, 0, 44), (34, .iconst 1, 1, false, 1, 0), (35, .aload_n 0, 1, false, 0, 0), (36, .iload_n 2, 1, false, 0, 0), (37, .invokevirtual 134, 3, false, 0, 0), (40, .isub, 1, false, 0, 0), (41, .goto 5, 3, false, 0, 46), (44, .bipush (-9), 2, false, (-9), 0), (46, .ireturn, 1, false, 0, 0), (47, .iload_n 3, 1, false, 0, 0), (48, .ifCond .eq 11, 3, false, 0, 59), (51, .aload_n 0, 1, false, 0, 0), (52, .iload_n 2, 1, false, 0, 0), (53, .invokevirtual 134, 3, false, 0, 0), (56, .goto 19, 3, false, 0, 75), (59, .aload_n 0, 1, false, 0, 0), (60, .getfield 19, 3, false, 0, 0), (63, .iload_n 1, 1, false, 0, 0), (64, .iaload, 1, false, 0, 0), (65, .iconst 1, 1, false, 1, 0), (66, .if_icmp .ne 7, 3, false, 0, 73), (69, .iconst 1, 1, false, 1, 0), (70, .goto 5, 3, false, 0, 75), (73, .bipush (-9), 2, false, (-9), 0), (75, .ireturn, 1, false, 0, 0)]
set_option maxRecDepth 100000 in
theorem ck_X8_answerOf : ip_chk cX8_answerOf tb_X8_answerOf = true := by decide +kernel
def tb_X8_answer : List ip_I := [(0, .aload_n 0, 1, false, 0, 0), (1, .iload_n 1, 1, false, 0, 0), (2, .invokevirtual 125, 3, false, 0, 0), (5, .ifCond .ne 5, 3, false, 0, 10), (8, .iconst (-1), 1, false, (-1), 0), (9, .ireturn, 1, false, 0, 0), (10, .iload_n 2, 1, false, 0, 0), (11, .invokestatic 137, 3, false, 0, 0), (14, .ifCond .eq 12, 3, false, 0, 26), (17, .aload_n 0, 1, false, 0, 0), (18, .iload_n 1, 1, false, 0, 0), (19, .iload_n 2, 1, false, 0, 0), (20, .invokevirtual 140, 3, false, 0, 0), (23, .goto 5, 3, false, 0, 28), (26, .bipush (-2), 2, false, (-2), 0), (28, .ireturn, 1, false, 0, 0)]
set_option maxRecDepth 100000 in
theorem ck_X8_answer : ip_chk cX8_answer tb_X8_answer = true := by decide +kernel
def tb_X8_isHeld : List ip_I := [(0, .iconst 0, 1, false, 0, 0), (1, .istore_n 3, 1, false, 0, 0), (2, .iconst 0, 1, false, 0, 0), (3, .istore 4, 2, false, 0, 0), (5, .iload 4, 2, true, 0, 0), (7, .aload_n 0, 1, false, 0, 0), (8, .getfield 69, 3, false, 0, 0), (11, .if_icmp .ge 77, 3, false, 0, 88), (14, .aload_n 0, 1, false, 0, 0), (15, .getfield 22, 3, false, 0, 0), (18, .iload 4, 2, false, 0, 0), (20, .iaload, 1, false, 0, 0), (21, .iload_n 1, 1, false, 0, 0), (22, .if_icmp .ne 60, 3, false, 0, 82), (25, .aload_n 0, 1, false, 0, 0), (26, .getfield 144, 3, false, 0, 0), (29, .iload 4, 2, false, 0, 0), (31, .ishr, 1, false, 0, 0), (32, .iconst 1, 1, false, 1, 0), (33, .iand, 1, false, 0, 0), (34, .ifCond .ne 48, 3, false, 0, 82), (37, .aload_n 0, 1, false, 0, 0), (38, .iload 4, 2, false, 0, 0), (40, .iload_n 2, 1, false, 0, 0), (41, .invokevirtual 140, 3, false, 0, 0), (44, .istore 5, 2, false, 0, 0), (46, .iload 5, 2, false, 0, 0), (48, .bipush (-9), 2, false, (-9), 0), (50, .if_icmp .eq 15, 3, false, 0, 65), (53, .iload 5, 2, false, 0, 0), (55, .aload_n 0, 1, false, 0, 0), (56, .iload_n 2, 1, false, 0, 0), (57, .invokevirtual 134, 3, false, 0, 0), (60, .if_icmp .eq 5, 3, false, 0, 65), (63, .iconst 0, 1, false, 0, 0), (64, .ireturn, 1, false, 0, 0), (65, .iload_n 3, 1, false, 0, 0), (66, .ifCond .ne 10, 3, false, 0, 76), (69, .iload 5, 2, false, 0, 0), (71, .bipush (-9), 2, false, (-9), 0), (73, .if_icmp .eq 7, 3, false, 0, 80), (76, .iconst 1, 1, false, 1, 0), (77, .goto 4, 3, false, 0, 81), (80, .iconst 0, 1, false, 0, 0), (81, .istore_n 3, 1, false, 0, 0), (82, .iinc 4 1, 3, false, 1, 0), (85, .goto (-80), 3, false, 0, 5), (88, .iload_n 3, 1, false, 0, 0), (89, .ireturn, 1, false, 0, 0)]
set_option maxRecDepth 100000 in
theorem ck_X8_isHeld : ip_chk cX8_isHeld tb_X8_isHeld = true := by decide +kernel
def tb_X8_strikes : List ip_I := [(0, .aload_n 0, 1, false, 0, 0), (1, .iload_n 1, 1, false, 0, 0), (2, .invokevirtual 131, 3, false, 0, 0), (5, .ifCond .ne 5, 3, false, 0, 10), (8, .iconst (-1), 1, false, (-1), 0), (9, .ireturn, 1, false, 0, 0), (10, .iload_n 2, 1, false, 0, 0), (11, .invokestatic 137, 3, false, 0, 0), (14, .ifCond .ne 6, 3, false, 0, 20), (17, .bipush (-2), 2, false, (-2), 0), (19, .ireturn, 1, false, 0, 0), (20, .aload_n 0, 1, false, 0, 0), (21, .iload_n 1, 1, false, 0, 0), (22, .iload_n 2, 1, false, 0, 0), (23, .invokevirtual 147, 3, false, 0, 0), (26, .ifCond .eq 7, 3, false, 0, 33), (29, .iconst 0, 1, false, 0, 0), (30, .goto 4, 3, false, 0, 34), (33, .iconst 1, 1, false, 1, 0), (34, .ireturn, 1, false, 0, 0)]
set_option maxRecDepth 100000 in
theorem ck_X8_strikes : ip_chk cX8_strikes tb_X8_strikes = true := by decide +kernel
def tb_X8_dangersOf : List ip_I := [(0, .iconst 0, 1, false, 0, 0), (1, .istore_n 2, 1, false, 0, 0), (2, .iconst 0, 1, false, 0, 0), (3, .istore_n 3, 1, false, 0, 0), (4, .iload_n 3, 1, true, 0, 0), (5, .bipush 6, 2, false, 6, 0), (7, .if_icmp .ge 28, 3, false, 0, 35), (10, .iload_n 2, 1, false, 0, 0), (11, .aload_n 0, 1, false, 0, 0), (12, .iload_n 1, 1, false, 0, 0), (13, .iload_n 3, 1, false, 0, 0), (14, .invokevirtual 147, 3, false, 0, 0), (17, .ifCond .eq 7, 3, false, 0, 24), (20, .iconst 0, 1, false, 0, 0), (21, .goto 6, 3, false, 0, 27), (24, .iconst 1, 1, false, 1, 0), (25, .iload_n 3, 1, false, 0, 0), (26, .ishl, 1, false, 0, 0), (27, .ior, 1, false, 0, 0), (28, .istore_n 2, 1, false, 0, 0), (29, .iinc 3 1, 3, false, 1, 0), (32, .goto (-28), 3, false, 0, 4), (35, .iload_n 2, 1, false, 0, 0), (36, .ireturn, 1, false, 0, 0)]
set_option maxRecDepth 100000 in
theorem ck_X8_dangersOf : ip_chk cX8_dangersOf tb_X8_dangersOf = true := by decide +kernel
def tb_X8_dangers : List ip_I := [(0, .aload_n 0, 1, false, 0, 0), (1, .iload_n 1, 1, false, 0, 0), (2, .invokevirtual 131, 3, false, 0, 0), (5, .ifCond .eq 11, 3, false, 0, 16), (8, .aload_n 0, 1, false, 0, 0), (9, .iload_n 1, 1, false, 0, 0), (10, .invokevirtual 150, 3, false, 0, 0), (13, .goto 4, 3, false, 0, 17), (16, .iconst (-1), 1, false, (-1), 0), (17, .ireturn, 1, false, 0, 0)]
set_option maxRecDepth 100000 in
theorem ck_X8_dangers : ip_chk cX8_dangers tb_X8_dangers = true := by decide +kernel
def tb_X8_layStorm : List ip_I := [(0, .aload_n 0, 1, false, 0, 0), (1, .iload_n 1, 1, false, 0, 0), (2, .iload_n 2, 1, false, 0, 0), (3, .iload_n 3, 1, false, 0, 0), (4, .iconst 2, 1, false, 2, 0), (5, .iload 4, 2, false, 0, 0), (7, .imul, 1, false, 0, 0), (8, .invokevirtual 89, 3, false, 0, 0), (11, .istore 5, 2, false, 0, 0), (13, .iload 5, 2, false, 0, 0), (15, .ifCond .eq 10, 3, false, 0, 25), (18, .aload_n 0, 1, false, 0, 0), (19, .iload 5, 2, false, 0, 0), (21, .invokevirtual 93, 3, false, 0, 0), (24, .ireturn, 1, false, 0, 0), (25, .aload_n 0, 1, false, 0, 0), (26, .getfield 69, 3, false, 0, 0), (29, .ifCond .ne 6, 3, false, 0, 35), (32, .bipush (-3), 2, false, (-3), 0), (34, .ireturn, 1, false, 0, 0), (35, .bipush 60, 2, false, 60, 0), (37, .iload_n 1, 1, false, 0, 0), (38, .imul, 1, false, 0, 0), (39, .iload_n 3, 1, false, 0, 0), (40, .iadd, 1, false, 0, 0), (41, .istore 6, 2, false, 0, 0), (43, .iconst 0, 1, false, 0, 0), (44, .istore 7, 2, false, 0, 0), (46, .iload 7, 2, true, 0, 0), (48, .iload 4, 2, false, 0, 0), (50, .if_icmp .ge 93, 3, false, 0, 143), (53, .aload_n 0, 1, false, 0, 0), (54, .aload_n 0, 1, false, 0, 0), (55, .getfield 16, 3, false, 0, 0), (58, .iload 6, 2, false, 0, 0), (60, .iconst 2, 1, false, 2, 0), (61, .iload 7, 2, false, 0, 0), (63, .imul, 1, false, 0, 0), (64, .iadd, 1, false, 0, 0), (65, .iaload, 1, false, 0, 0), (66, .invokevirtual 131, 3, false, 0, 0), (69, .ifCond .ne 5, 3, false, 0, 74), (72, .iconst (-1), 1, false, (-1), 0), (73, .ireturn, 1, false, 0, 0), (74, .aload_n 0, 1, false, 0, 0), (75, .getfield 16, 3, false, 0, 0), (78, .iload 6, 2, false, 0, 0), (80, .iconst 2, 1, false, 2, 0), (81, .iload 7, 2, false, 0, 0), (83, .imul, 1, false, 0, 0), (84, .iadd, 1, false, 0, 0), (85, .iconst 1, 1, false, 1, 0), (86, .iadd, 1, false, 0, 0), (87, .iaload, 1, false, 0, 0), (88, .invokestatic 137, 3, false, 0, 0), (91, .ifCond .ne 6, 3, false, 0, 97), (94, .bipush (-2), 2, false, (-2), 0), (96, .ireturn, 1, false, 0, 0), (97, .aload_n 0, 1, false, 0, 0), (98, .getfield 31, 3, false, 0, 0), (101, .iload 7, 2, false, 0, 0), (103, .aload_n 0, 1, false, 0, 0), (104, .getfield 16, 3, false, 0, 0), (107, .iload 6, 2, false, 0, 0), (109, .iconst 2, 1, false, 2, 0), (110, .iload 7, 2, false, 0, 0), (112, .imul, 1, false, 0, 0), (113, .iadd, 1, false, 0, 0), (114, .iaload, 1, false, 0, 0), (115, .iastore, 1, false, 0, 0), (116, .aload_n 0, 1, false, 0, 0), (117, .getfield 34, 3, false, 0, 0), (120, .iload 7, 2, false, 0, 0), (122, .aload_n 0, 1, false, 0, 0), (123, .getfield 16, 3, false, 0, 0), (126, .iload 6, 2, false, 0, 0), (128, .iconst 2, 1, false, 2, 0), (129, .iload 7, 2, false, 0, 0), (131, .imul, 1, false, 0, 0), (132, .iadd, 1, false, 0, 0), (133, .iconst 1, 1, false, 1, 0), (134, .iadd, 1, false, 0, 0), (135, .iaload, 1, false, 0, 0), (136, .iastore, 1, false, 0, 0), (137, .iinc 7 1, 3, false, 1, 0), (140, .goto (-94), 3, false, 0, 46), (143, .aload_n 0, 1, false, 0, 0), (144, .iload 4, 2, false, 0, 0), (146, .putfield 153, 3, false, 0, 0), (149, .iconst 0, 1, false, 0, 0), (150, .ireturn, 1, false, 0, 0)]
set_option maxRecDepth 100000 in
theorem ck_X8_layStorm : ip_chk cX8_layStorm tb_X8_layStorm = true := by decide +kernel
def tb_X8_isRow : List ip_I := [(0, .iload_n 0, 1, false, 0, 0), (1, .invokestatic 86, 3, false, 0, 0), (4, .ifCond .eq 17, 3, false, 0, 21), (7, .iload_n 1, 1, false, 0, 0), (8, .iconst 0, 1, false, 0, 0), (9, .bipush 20, 2, false, 20, 0), (11, .invokestatic 65, 3, false, 0, 0), (14, .ifCond .eq 7, 3, false, 0, 21), (17, .iconst 1, 1, false, 1, 0), (18, .goto 4, 3, false, 0, 22), (21, .iconst 0, 1, false, 0, 0), (22, .ireturn, 1, false, 0, 0)]
set_option maxRecDepth 100000 in
theorem ck_X8_isRow : ip_chk cX8_isRow tb_X8_isRow = true := by decide +kernel
def tb_X8_strikesNow : List ip_I := [(0, .iconst 0, 1, false, 0, 0), (1, .istore_n 1, 1, false, 0, 0), (2, .iconst 0, 1, false, 0, 0), (3, .istore_n 2, 1, false, 0, 0), (4, .iload_n 2, 1, true, 0, 0), (5, .aload_n 0, 1, false, 0, 0), (6, .getfield 153, 3, false, 0, 0), (9, .if_icmp .ge 36, 3, false, 0, 45), (12, .iload_n 1, 1, false, 0, 0), (13, .aload_n 0, 1, false, 0, 0), (14, .aload_n 0, 1, false, 0, 0), (15, .getfield 31, 3, false, 0, 0), (18, .iload_n 2, 1, false, 0, 0), (19, .iaload, 1, false, 0, 0), (20, .aload_n 0, 1, false, 0, 0), (21, .getfield 34, 3, false, 0, 0), (24, .iload_n 2, 1, false, 0, 0), (25, .iaload, 1, false, 0, 0), (26, .invokevirtual 147, 3, false, 0, 0), (29, .ifCond .eq 7, 3, false, 0, 36), (32, .iconst 0, 1, false, 0, 0), (33, .goto 4, 3, false, 0, 37), (36, .iconst 1, 1, false, 1, 0), (37, .iadd, 1, false, 0, 0), (38, .istore_n 1, 1, false, 0, 0), (39, .iinc 2 1, 3, false, 1, 0), (42, .goto (-38), 3, false, 0, 4), (45, .iload_n 1, 1, false, 0, 0), (46, .ireturn, 1, false, 0, 0)]
set_option maxRecDepth 100000 in
theorem ck_X8_strikesNow : ip_chk cX8_strikesNow tb_X8_strikesNow = true := by decide +kernel
def tb_X8_storm : List ip_I := [(0, .aload_n 0, 1, false, 0, 0), (1, .iconst 0, 1, false, 0, 0), (2, .putfield 59, 3, false, 0, 0), (5, .iload_n 1, 1, false, 0, 0), (6, .invokestatic 82, 3, false, 0, 0), (9, .ifCond .ne 5, 3, false, 0, 14), (12, .iconst (-1), 1, false, (-1), 0), (13, .ireturn, 1, false, 0, 0), (14, .iload_n 2, 1, false, 0, 0), (15, .iload 4, 2, false, 0, 0), (17, .invokestatic 156, 3, false, 0, 0), (20, .ifCond .eq 13, 3, false, 0, 33), (23, .iload 5, 2, false, 0, 0), (25, .iconst 0, 1, false, 0, 0), (26, .iconst 2, 1, false, 2, 0), (27, .invokestatic 65, 3, false, 0, 0), (30, .ifCond .ne 6, 3, false, 0, 36), (33, .bipush (-2), 2, false, (-2), 0), (35, .ireturn, 1, false, 0, 0), (36, .aload_n 0, 1, false, 0, 0), (37, .iload_n 1, 1, false, 0, 0), (38, .iload_n 2, 1, false, 0, 0), (39, .iload_n 3, 1, false, 0, 0), (40, .iload 4, 2, false, 0, 0), (42, .invokevirtual 159, 3, false, 0, 0), (45, .istore 6, 2, false, 0, 0), (47, .iload 6, 2, false, 0, 0), (49, .ifCond .eq 6, 3, false, 0, 55), (52, .iload 6, 2, false, 0, 0), (54, .ireturn, 1, false, 0, 0), (55, .bipush (-9), 2, false, (-9), 0), (57, .istore 7, 2, false, 0, 0), (59, .iconst 0, 1, false, 0, 0), (60, .istore 8, 2, false, 0, 0), (62, .aload_n 0, 1, false, 0, 0), (63, .getfield 153, 3, false, 0, 0), (66, .iconst 1, 1, false, 1, 0), (67, .isub, 1, false, 0, 0), (68, .istore 9, 2, false, 0, 0), (70, .iload 9, 2, true, 0, 0), (72, .ifCond .lt 66, 3, false, 0, 138), (75, .aload_n 0, 1, false, 0, 0), (76, .aload_n 0, 1, false, 0, 0), (77, .getfield 31, 3, false, 0, 0), (80, .iload 9, 2, false, 0, 0), (82, .iaload, 1, false, 0, 0), (83, .aload_n 0, 1, false, 0, 0), (84, .getfield 34, 3, false, 0, 0), (87, .iload 9, 2, false, 0, 0), (89, .iaload, 1, false, 0, 0), (90, .invokevirtual 147, 3, false, 0, 0), (93, .istore 10, 2, false, 0, 0), (95, .iload 10, 2, false, 0, 0), (97, .ifCond .eq 8, 3, false, 0, 105), (100, .iload 7, 2, false, 0, 0), (102, .goto 5, 3, false, 0, 107), (105, .iload 9, 2, false, 0, 0), (107, .istore 7, 2, false, 0, 0), (109, .iload 8, 2, false, 0, 0), (111, .iload 10, 2, false, 0, 0), (113, .ifCond .eq 7, 3, false, 0, 120), (116, .iconst 0, 1, false, 0, 0), (117, .goto 12, 3, false, 0, 129), (120, .iconst 1, 1, false, 1, 0), (121, .aload_n 0, 1, false, 0, 0), (122, .getfield 31, 3, false, 0, 0), (125, .iload 9, 2, false, 0, 0), (127, .iaload, 1, false, 0, 0), (128, .ishl, 1, false, 0, 0), (129, .ior, 1, false, 0, 0), (130, .istore 8, 2, false, 0, 0), (132, .iinc 9 (-1), 3, false, (-1), 0), (135, .goto (-65), 3, false, 0, 70), (138, .iload 5, 2, false, 0, 0), (140, .ifCond .ne 10, 3, false, 0, 150), (143, .aload_n 0, 1, false, 0, 0), (144, .invokevirtual 162, 3, false, 0, 0), (147, .goto 16, 3, false, 0, 163), (150, .iload 5, 2, false, 0, 0), (152, .iconst 1, 1, false, 1, 0), (153, .if_icmp .ne 8, 3, false, 0, 161), (156, .iload 7, 2, false, 0, 0), (158, .goto 5, 3, false, 0, 163), (161, .iload 8, 2, false, 0, 0), (163, .ireturn, 1, false, 0, 0)]
set_option maxRecDepth 100000 in
theorem ck_X8_storm : ip_chk cX8_storm tb_X8_storm = true := by decide +kernel
def tb_X8_findPlaces : List ip_I := [(0, .iconst 1, 1, false, 1, 0), (1, .istore_n 1, 1, false, 0, 0), (2, .iconst 0, 1, false, 0, 0), (3, .istore_n 2, 1, false, 0, 0), (4, .iload_n 2, 1, true, 0, 0), (5, .aload_n 0, 1, false, 0, 0), (6, .getfield 69, 3, false, 0, 0), (9, .if_icmp .ge 28, 3, false, 0, 37), (12, .aload_n 0, 1, false, 0, 0), (13, .getfield 37, 3, false, 0, 0), (16, .iload_n 2, 1, false, 0, 0), (17, .aload_n 0, 1, false, 0, 0), (18, .getfield 22, 3, false, 0, 0), (21, .iload_n 2, 1, false, 0, 0), (22, .iaload, 1, false, 0, 0), (23, .iastore, 1, false, 0, 0), (24, .iload_n 1, 1, false, 0, 0), (25, .aload_n 0, 1, false, 0, 0), (26, .getfield 72, 3, false, 0, 0), (29, .imul, 1, false, 0, 0), (30, .istore_n 1, 1, false, 0, 0), (31, .iinc 2 1, 3, false, 1, 0), (34, .goto (-30), 3, false, 0, 4), (37, .bipush (-9), 2, false, (-9), 0), (39, .istore_n 2, 1, false, 0, 0), (40, .iconst 0, 1, false, 0, 0), (41, .istore_n 3, 1, false, 0, 0), (42, .iload_n 3, 1, true, 0, 0), (43, .iload_n 1, 1, false, 0, 0), (44, .if_icmp .ge 107, 3, false, 0, 151), (47, .iload_n 3, 1, false, 0, 0), (48, .istore 4, 2, false, 0, 0), (50, .aload_n 0, 1, false, 0, 0), (51, .getfield 69, 3, false, 0, 0), (54, .iconst 1, 1, false, 1, 0), (55, .isub, 1, false, 0, 0), (56, .istore 5, 2, false, 0, 0), (58, .iload 5, 2, true, 0, 0), (60, .ifCond .lt 32, 3, false, 0, 92), (63, .aload_n 0, 1, false, 0, 0), (64, .getfield 22, 3, false, 0, 0), (67, .iload 5, 2, false, 0, 0), (69, .iload 4, 2, false, 0, 0), (71, .aload_n 0, 1, false, 0, 0), (72, .getfield 72, 3, false, 0, 0), (75, .irem, 1, false, 0, 0), (76, .iastore, 1, false, 0, 0), (77, .iload 4, 2, false, 0, 0), (79, .aload_n 0, 1, false, 0, 0), (80, .getfield 72, 3, false, 0, 0), (83, .idiv, 1, false, 0, 0), (84, .istore 4, 2, false, 0, 0), (86, .iinc 5 (-1), 3, false, (-1), 0), (89, .goto (-31), 3, false, 0, 58), (92, .aload_n 0, 1, false, 0, 0), (93, .invokevirtual 162, 3, false, 0, 0), (96, .istore 5, 2, false, 0, 0), (98, .iload_n 2, 1, false, 0, 0), (99, .bipush (-9), 2, false, (-9), 0), (101, .if_icmp .eq 9, 3, false, 0, 110), (104, .iload 5, 2, false, 0, 0), (106, .iload_n 2, 1, false, 0, 0), (107, .if_icmp .ge 38, 3, false, 0, 145), (110, .iload 5, 2, false, 0, 0), (112, .istore_n 2, 1, false, 0, 0), (113, .iconst 0, 1, false, 0, 0), (114, .istore 6, 2, false, 0, 0), (116, .iload 6, 2, true, 0, 0), (118, .aload_n 0, 1, false, 0, 0), (119, .getfield 69, 3, false, 0, 0), (122, .if_icmp .ge 23, 3, false, 0, 145), (125, .aload_n 0, 1, false, 0, 0), (126, .getfield 40, 3, false, 0, 0), (129, .iload 6, 2, false, 0, 0), (131, .aload_n 0, 1, false, 0, 0), (132, .getfield 22, 3, false, 0, 0), (135, .iload 6, 2, false, 0, 0), (137, .iaload, 1, false, 0, 0), (138, .iastore, 1, false, 0, 0), (139, .iinc 6 1, 3, false, 1, 0), (142, .goto (-26), 3, false, 0, 116), (145, .iinc 3 1, 3, false, 1, 0), (148, .goto (-106), 3, false, 0, 42), (151, .iconst 0, 1, false, 0, 0), (152, .istore_n 3, 1, false, 0, 0), (153, .iload_n 3, 1, true, 0, 0), (154, .aload_n 0, 1, false, 0, 0), (155, .getfield 69, 3, false, 0, 0), (158, .if_icmp .ge 21, 3, false, 0, 179), (161, .aload_n 0, 1, false, 0, 0), (162, .getfield 22, 3, false, 0, 0), (165, .iload_n 3, 1, false, 0, 0), (166, .aload_n 0, 1, false, 0, 0), (167, .getfield 37, 3, false, 0, 0), (170, .iload_n 3, 1, false, 0, 0), (171, .iaload, 1, false, 0, 0), (172, .iastore, 1, false, 0, 0), (173, .iinc 3 1, 3, false, 1, 0), (176, .goto (-23), 3, false, 0, 153), (179, .iload_n 2, 1, false, 0, 0), (180, .ireturn, 1, false, 0, 0)]
set_option maxRecDepth 100000 in
theorem ck_X8_findPlaces : ip_chk cX8_findPlaces tb_X8_findPlaces = true := by decide +kernel
def tb_X8_place : List ip_I := [(0, .aload_n 0, 1, false, 0, 0), (1, .iconst 0, 1, false, 0, 0), (2, .putfield 59, 3, false, 0, 0), (5, .iload_n 1, 1, false, 0, 0), (6, .iconst (-1), 1, false, (-1), 0), (7, .if_icmp .lt 10, 3, false, 0, 17), (10, .iload_n 2, 1, false, 0, 0), (11, .invokestatic 82, 3, false, 0, 0), (14, .ifCond .ne 5, 3, false, 0, 19), (17, .iconst (-1), 1, false, (-1), 0), (18, .ireturn, 1, false, 0, 0), (19, .iload_n 3, 1, false, 0, 0), (20, .iload 5, 2, false, 0, 0), (22, .invokestatic 156, 3, false, 0, 0), (25, .ifCond .ne 6, 3, false, 0, 31), (28, .bipush (-2), 2, false, (-2), 0), (30, .ireturn, 1, false, 0, 0), (31, .aload_n 0, 1, false, 0, 0), (32, .iload_n 2, 1, false, 0, 0), (33, .iload_n 3, 1, false, 0, 0), (34, .iload 4, 2, false, 0, 0), (36, .iload 5, 2, false, 0, 0), (38, .invokevirtual 159, 3, false, 0, 0), (41, .istore 6, 2, false, 0, 0), (43, .iload 6, 2, false, 0, 0), (45, .ifCond .eq 6, 3, false, 0, 51), (48, .iload 6, 2, false, 0, 0), (50, .ireturn, 1, false, 0, 0), (51, .aload_n 0, 1, false, 0, 0), (52, .invokevirtual 166, 3, false, 0, 0), (55, .istore 7, 2, false, 0, 0), (57, .iload_n 1, 1, false, 0, 0), (58, .iconst (-1), 1, false, (-1), 0), (59, .if_icmp .ne 8, 3, false, 0, 67), (62, .iload 7, 2, false, 0, 0), (64, .goto 22, 3, false, 0, 86), (67, .aload_n 0, 1, false, 0, 0), (68, .iload_n 1, 1, false, 0, 0), (69, .invokevirtual 125, 3, false, 0, 0), (72, .ifCond .eq 12, 3, false, 0, 84), (75, .aload_n 0, 1, false, 0, 0), (76, .getfield 40, 3, false, 0, 0), (79, .iload_n 1, 1, false, 0, 0), (80, .iaload, 1, false, 0, 0), (81, .goto 5, 3, false, 0, 86), (84, .bipush (-9), 2, false, (-9), 0), (86, .ireturn, 1, false, 0, 0)]
set_option maxRecDepth 100000 in
theorem ck_X8_place : ip_chk cX8_place tb_X8_place = true := by decide +kernel
def tb_X8_size : List ip_I := [(0, .iconst 0, 1, false, 0, 0), (1, .istore_n 1, 1, false, 0, 0), (2, .iload_n 0, 1, false, 0, 0), (3, .istore_n 2, 1, false, 0, 0), (4, .iload_n 2, 1, true, 0, 0), (5, .ifCond .le 16, 3, false, 0, 21), (8, .iload_n 1, 1, false, 0, 0), (9, .iload_n 2, 1, false, 0, 0), (10, .iconst 1, 1, false, 1, 0), (11, .iand, 1, false, 0, 0), (12, .iadd, 1, false, 0, 0), (13, .istore_n 1, 1, false, 0, 0), (14, .iload_n 2, 1, false, 0, 0), (15, .iconst 1, 1, false, 1, 0), (16, .ishr, 1, false, 0, 0), (17, .istore_n 2, 1, false, 0, 0), (18, .goto (-14), 3, false, 0, 4), (21, .iload_n 1, 1, false, 0, 0), (22, .ireturn, 1, false, 0, 0)]
set_option maxRecDepth 100000 in
theorem ck_X8_size : ip_chk cX8_size tb_X8_size = true := by decide +kernel
def tb_X8_teach : List ip_I := [(0, .aload_n 0, 1, false, 0, 0), (1, .iconst 0, 1, false, 0, 0), (2, .putfield 59, 3, false, 0, 0), (5, .aload_n 0, 1, false, 0, 0), (6, .iload_n 1, 1, false, 0, 0), (7, .invokevirtual 125, 3, false, 0, 0), (10, .ifCond .eq 10, 3, false, 0, 20), (13, .iload_n 2, 1, false, 0, 0), (14, .invokestatic 82, 3, false, 0, 0), (17, .ifCond .ne 5, 3, false, 0, 22), (20, .iconst (-1), 1, false, (-1), 0), (21, .ireturn, 1, false, 0, 0), (22, .iload_n 3, 1, false, 0, 0), (23, .iload 5, 2, false, 0, 0), (25, .invokestatic 156, 3, false, 0, 0), (28, .ifCond .ne 6, 3, false, 0, 34), (31, .bipush (-2), 2, false, (-2), 0), (33, .ireturn, 1, false, 0, 0), (34, .aload_n 0, 1, false, 0, 0), (35, .iload_n 2, 1, false, 0, 0), (36, .iload_n 3, 1, false, 0, 0), (37, .iload 4, 2, false, 0, 0), (39, .iload 5, 2, false, 0, 0), (41, .invokevirtual 159, 3, false, 0, 0), (44, .istore 6, 2, false, 0, 0), (46, .iload 6, 2, false, 0, 0), (48, .ifCond .eq 6, 3, false, 0, 54), (51, .iload 6, 2, false, 0, 0), (53, .ireturn, 1, false, 0, 0), (54, .aload_n 0, 1, false, 0, 0), (55, .getfield 25, 3, false, 0, 0), (58, .iload_n 1, 1, false, 0, 0), (59, .iaload, 1, false, 0, 0), (60, .istore 7, 2, false, 0, 0), (62, .bipush (-9), 2, false, (-9), 0), (64, .istore 8, 2, false, 0, 0), (66, .iconst 0, 1, false, 0, 0), (67, .istore 9, 2, false, 0, 0), (69, .iload 9, 2, true, 0, 0), (71, .bipush 63, 2, false, 63, 0), (73, .if_icmp .gt 64, 3, false, 0, 137), (76, .iload 9, 2, false, 0, 0), (78, .iload 7, 2, false, 0, 0), (80, .iand, 1, false, 0, 0), (81, .ifCond .ne 50, 3, false, 0, 131), (84, .iload 8, 2, false, 0, 0), (86, .bipush (-9), 2, false, (-9), 0), (88, .if_icmp .eq 16, 3, false, 0, 104), (91, .iload 9, 2, false, 0, 0), (93, .invokestatic 169, 3, false, 0, 0), (96, .iload 8, 2, false, 0, 0), (98, .invokestatic 169, 3, false, 0, 0), (101, .if_icmp .ge 30, 3, false, 0, 131), (104, .aload_n 0, 1, false, 0, 0), (105, .getfield 25, 3, false, 0, 0), (108, .iload_n 1, 1, false, 0, 0), (109, .iload 7, 2, false, 0, 0), (111, .iload 9, 2, false, 0, 0), (113, .ior, 1, false, 0, 0), (114, .iastore, 1, false, 0, 0), (115, .aload_n 0, 1, false, 0, 0), (116, .invokevirtual 162, 3, false, 0, 0), (119, .ifCond .ne 8, 3, false, 0, 127), (122, .iload 9, 2, false, 0, 0), (124, .goto 5, 3, false, 0, 129), (127, .iload 8, 2, false, 0, 0), (129, .istore 8, 2, false, 0, 0), (131, .iinc 9 1, 3, false, 1, 0), (134, .goto (-65), 3, false, 0, 69), (137, .aload_n 0, 1, false, 0, 0), (138, .getfield 25, 3, false, 0, 0), (141, .iload_n 1, 1, false, 0, 0), (142, .iload 7, 2, false, 0, 0), (144, .iastore, 1, false, 0, 0), (145, .iload 8, 2, false, 0, 0), (147, .ireturn, 1, false, 0, 0)]
set_option maxRecDepth 100000 in
theorem ck_X8_teach : ip_chk cX8_teach tb_X8_teach = true := by decide +kernel
def tb_X8_struckWith : List ip_I := [(0, .aload_n 0, 1, false, 0, 0), (1, .iload_n 1, 1, false, 0, 0), (2, .invokevirtual 150, 3, false, 0, 0), (5, .ifCond .ne 7, 3, false, 0, 12), (8, .iload_n 2, 1, false, 0, 0), (9, .goto 8, 3, false, 0, 17), (12, .iload_n 2, 1, false, 0, 0), (13, .iconst 1, 1, false, 1, 0), (14, .iload_n 1, 1, false, 0, 0), (15, .ishl, 1, false, 0, 0), (16, .ior, 1, false, 0, 0), (17, .ireturn, 1, false, 0, 0)]
set_option maxRecDepth 100000 in
theorem ck_X8_struckWith : ip_chk cX8_struckWith tb_X8_struckWith = true := by decide +kernel
def tb_X8_goOn : List ip_I := [(0, .iconst 0, 1, false, 0, 0), (1, .istore_n 1, 1, false, 0, 0), (2, .iload_n 1, 1, true, 0, 0), (3, .sipush 384, 3, false, 384, 0), (6, .if_icmp .ge 16, 3, false, 0, 22), (9, .aload_n 0, 1, false, 0, 0), (10, .getfield 47, 3, false, 0, 0), (13, .iload_n 1, 1, false, 0, 0), (14, .iconst 0, 1, false, 0, 0), (15, .bastore, 1, false, 0, 0), (16, .iinc 1 1, 3, false, 1, 0), (19, .goto (-17), 3, false, 0, 2), (22, .iconst 0, 1, false, 0, 0), (23, .istore_n 1, 1, false, 0, 0), (24, .iload_n 1, 1, true, 0, 0), (25, .aload_n 0, 1, false, 0, 0), (26, .getfield 72, 3, false, 0, 0), (29, .if_icmp .ge 79, 3, false, 0, 108), (32, .iconst 0, 1, false, 0, 0), (33, .istore_n 2, 1, false, 0, 0), (34, .iload_n 2, 1, true, 0, 0), (35, .bipush 64, 2, false, 64, 0), (37, .if_icmp .ge 65, 3, false, 0, 102), (40, .iload_n 1, 1, false, 0, 0), (41, .iconst 1, 1, false, 1, 0), (42, .isub, 1, false, 0, 0), (43, .istore_n 3, 1, false, 0, 0), (44, .iload_n 3, 1, true, 0, 0), (45, .iload_n 1, 1, false, 0, 0), (46, .iconst 1, 1, false, 1, 0), (47, .iadd, 1, false, 0, 0), (48, .if_icmp .gt 48, 3, false, 0, 96), (51, .aload_n 0, 1, false, 0, 0), (52, .getfield 43, 3, false, 0, 0), (55, .bipush 64, 2, false, 64, 0), (57, .iload_n 1, 1, false, 0, 0), (58, .imul, 1, false, 0, 0), (59, .iload_n 2, 1, false, 0, 0), (60, .iadd, 1, false, 0, 0), (61, .baload, 1, false, 0, 0), (62, .ifCond .eq 34, 3, false, 0, 96), (65, .aload_n 0, 1, false, 0, 0), (66, .iload_n 3, 1, false, 0, 0), (67, .invokevirtual 131, 3, false, 0, 0), (70, .ifCond .eq 20, 3, false, 0, 90), (73, .aload_n 0, 1, false, 0, 0), (74, .getfield 47, 3, false, 0, 0), (77, .bipush 64, 2, false, 64, 0), (79, .iload_n 3, 1, false, 0, 0), (80, .imul, 1, false, 0, 0), (81, .aload_n 0, 1, false, 0, 0), (82, .iload_n 3, 1, false, 0, 0), (83, .iload_n 2, 1, false, 0, 0), (84, .invokevirtual 172, 3, false, 0, 0), (87, .iadd, 1, false, 0, 0), (88, .iconst 1, 1, false, 1, 0), (89, .bastore, 1, false, 0, 0), (90, .iinc 3 1, 3, false, 1, 0), (93, .goto (-49), 3, false, 0, 44), (96, .iinc 2 1, 3, false, 1, 0), (99, .goto (-65), 3, false, 0, 34), (102, .iinc 1 1, 3, false, 1, 0), (105, .goto (-81), 3, false, 0, 24), (108, .iconst 0, 1, false, 0, 0), (109, .istore_n 1, 1, false, 0, 0), (110, .iload_n 1, 1, true, 0, 0), (111, .sipush 384, 3, false, 384, 0), (114, .if_icmp .ge 21, 3, false, 0, 135), (117, .aload_n 0, 1, false, 0, 0), (118, .getfield 43, 3, false, 0, 0), (121, .iload_n 1, 1, false, 0, 0), (122, .aload_n 0, 1, false, 0, 0), (123, .getfield 47, 3, false, 0, 0), (126, .iload_n 1, 1, false, 0, 0), (127, .baload, 1, false, 0, 0), (128, .bastore, 1, false, 0, 0), (129, .iinc 1 1, 3, false, 1, 0), (132, .goto (-22), 3, false, 0, 110), (135, .return_, 1, false, 0, 0)]
set_option maxRecDepth 100000 in
theorem ck_X8_goOn : ip_chk cX8_goOn tb_X8_goOn = true := by decide +kernel
def tb_X8_worst : List ip_I := [(0, .aload_n 0, 1, false, 0, 0), (1, .iload_n 1, 1, false, 0, 0), (2, .invokevirtual 131, 3, false, 0, 0), (5, .ifCond .ne 5, 3, false, 0, 10), (8, .iconst (-1), 1, false, (-1), 0), (9, .ireturn, 1, false, 0, 0), (10, .iload_n 2, 1, false, 0, 0), (11, .iconst 0, 1, false, 0, 0), (12, .bipush 12, 2, false, 12, 0), (14, .invokestatic 65, 3, false, 0, 0), (17, .ifCond .ne 6, 3, false, 0, 23), (20, .bipush (-2), 2, false, (-2), 0), (22, .ireturn, 1, false, 0, 0), (23, .iload_n 2, 1, false, 0, 0), (24, .ifCond .ne 5, 3, false, 0, 29), (27, .iconst 0, 1, false, 0, 0), (28, .ireturn, 1, false, 0, 0), (29, .iconst 0, 1, false, 0, 0), (30, .istore_n 3, 1, false, 0, 0), (31, .iload_n 3, 1, true, 0, 0), (32, .sipush 384, 3, false, 384, 0), (35, .if_icmp .ge 16, 3, false, 0, 51), (38, .aload_n 0, 1, false, 0, 0), (39, .getfield 43, 3, false, 0, 0), (42, .iload_n 3, 1, false, 0, 0), (43, .iconst 0, 1, false, 0, 0), (44, .bastore, 1, false, 0, 0), (45, .iinc 3 1, 3, false, 1, 0), (48, .goto (-17), 3, false, 0, 31), (51, .aload_n 0, 1, false, 0, 0), (52, .getfield 43, 3, false, 0, 0), (55, .bipush 64, 2, false, 64, 0), (57, .iload_n 1, 1, false, 0, 0), (58, .imul, 1, false, 0, 0), (59, .aload_n 0, 1, false, 0, 0), (60, .iload_n 1, 1, false, 0, 0), (61, .iconst 0, 1, false, 0, 0), (62, .invokevirtual 172, 3, false, 0, 0), (65, .iadd, 1, false, 0, 0), (66, .iconst 1, 1, false, 1, 0), (67, .bastore, 1, false, 0, 0), (68, .iconst 1, 1, false, 1, 0), (69, .istore_n 3, 1, false, 0, 0), (70, .iload_n 3, 1, true, 0, 0), (71, .iload_n 2, 1, false, 0, 0), (72, .if_icmp .ge 13, 3, false, 0, 85), (75, .aload_n 0, 1, false, 0, 0), (76, .invokevirtual 175, 3, false, 0, 0), (79, .iinc 3 1, 3, false, 1, 0), (82, .goto (-12), 3, false, 0, 70), (85, .iconst 0, 1, false, 0, 0), (86, .istore_n 3, 1, false, 0, 0), (87, .iconst 0, 1, false, 0, 0), (88, .istore 4, 2, false, 0, 0), (90, .iload 4, 2, true, 0, 0), (92, .sipush 384, 3, false, 384, 0), (95, .if_icmp .ge 44, 3, false, 0, 139), (98, .aload_n 0, 1, false, 0, 0), (99, .getfield 43, 3, false, 0, 0), (102, .iload 4, 2, false, 0, 0), (104, .baload, 1, false, 0, 0), (105, .ifCond .eq 26, 3, false, 0, 131), (108, .iload 4, 2, false, 0, 0), (110, .bipush 63, 2, false, 63, 0), (112, .iand, 1, false, 0, 0), (113, .invokestatic 169, 3, false, 0, 0), (116, .iload_n 3, 1, false, 0, 0), (117, .if_icmp .le 14, 3, false, 0, 131), (120, .iload 4, 2, false, 0, 0), (122, .bipush 63, 2, false, 63, 0), (124, .iand, 1, false, 0, 0), (125, .invokestatic 169, 3, false, 0, 0), (128, .goto 4, 3, false, 0, 132), (131, .iload_n 3, 1, false, 0, 0), (132, .istore_n 3, 1, false, 0, 0), (133, .iinc 4 1, 3, false, 1, 0), (136, .goto (-46), 3, false, 0, 90), (139, .iload_n 3, 1, false, 0, 0), (140, .ireturn, 1, false, 0, 0)]
set_option maxRecDepth 100000 in
theorem ck_X8_worst : ip_chk cX8_worst tb_X8_worst = true := by decide +kernel
def tb_X8_inLeastTerms : List ip_I := [(0, .lload_n 0, 1, false, 0, 0), (1, .lstore 5, 2, false, 0, 0), (3, .lload_n 2, 1, false, 0, 0), (4, .lstore 7, 2, false, 0, 0), (6, .lload 7, 2, true, 0, 0), (8, .lconst 0, 1, false, 0, 0), (9, .lcmp, 1, false, 0, 0), (10, .ifCond .eq 21, 3, false, 0, 31), (13, .lload 5, 2, false, 0, 0), (15, .lload 7, 2, false, 0, 0), (17, .lrem, 1, false, 0, 0), (18, .lstore 9, 2, false, 0, 0), (20, .lload 7, 2, false, 0, 0), (22, .lstore 5, 2, false, 0, 0), (24, .lload 9, 2, false, 0, 0), (26, .lstore 7, 2, false, 0, 0), (28, .goto (-22), 3, false, 0, 6), (31, .iload 4, 2, false, 0, 0), (33, .ifCond .ne 10, 3, false, 0, 43), (36, .lload_n 0, 1, false, 0, 0), (37, .lload 5, 2, false, 0, 0), (39, .ldiv, 1, false, 0, 0), (40, .goto 7, 3, false, 0, 47), (43, .lload_n 2, 1, false, 0, 0), (44, .lload 5, 2, false, 0, 0), (46, .ldiv, 1, false, 0, 0), (47, .lreturn, 1, false, 0, 0)]
set_option maxRecDepth 100000 in
theorem ck_X8_inLeastTerms : ip_chk cX8_inLeastTerms tb_X8_inLeastTerms = true := by decide +kernel
def tb_X8_fair : List ip_I := [(0, .aload_n 0, 1, false, 0, 0), (1, .iconst 0, 1, false, 0, 0), (2, .putfield 59, 3, false, 0, 0), (5, .iload_n 1, 1, false, 0, 0), (6, .invokestatic 82, 3, false, 0, 0), (9, .ifCond .eq 22, 3, false, 0, 31), (12, .iload_n 2, 1, false, 0, 0), (13, .iload 4, 2, false, 0, 0), (15, .invokestatic 156, 3, false, 0, 0), (18, .ifCond .eq 13, 3, false, 0, 31), (21, .iload 5, 2, false, 0, 0), (23, .iconst 0, 1, false, 0, 0), (24, .iconst 1, 1, false, 1, 0), (25, .invokestatic 65, 3, false, 0, 0), (28, .ifCond .ne 7, 3, false, 0, 35), (31, .ldc2_w 63, 3, false, 0, 0), (34, .lreturn, 1, false, 0, 0), (35, .aload_n 0, 1, false, 0, 0), (36, .iload_n 1, 1, false, 0, 0), (37, .iload_n 2, 1, false, 0, 0), (38, .iload_n 3, 1, false, 0, 0), (39, .iload 4, 2, false, 0, 0), (41, .invokevirtual 89, 3, false, 0, 0), (44, .istore 6, 2, false, 0, 0), (46, .iload 6, 2, false, 0, 0), (48, .ifCond .eq 10, 3, false, 0, 58), (51, .aload_n 0, 1, false, 0, 0), (52, .iload 6, 2, false, 0, 0), (54, .invokevirtual 178, 3, false, 0, 0), (57, .lreturn, 1, false, 0, 0), (58, .aload_n 0, 1, false, 0, 0), (59, .getfield 69, 3, false, 0, 0), (62, .ifCond .ne 7, 3, false, 0, 69), (65, .ldc2_w 63, 3, false, 0, 0), (68, .lreturn, 1, false, 0, 0), (69, .lconst 1, 1, false, 0, 0), (70, .lstore 7, 2, false, 0, 0), (72, .lconst 1, 1, false, 0, 0), (73, .lstore 9, 2, false, 0, 0), (75, .iconst 0, 1, false, 0, 0), (76, .istore 11, 2, false, 0, 0), (78, .iload 11, 2, true, 0, 0), (80, .iload 4, 2, false, 0, 0), (82, .if_icmp .ge 64, 3, false, 0, 146), (85, .aload_n 0, 1, false, 0, 0), (86, .getfield 16, 3, false, 0, 0), (89, .bipush 60, 2, false, 60, 0), (91, .iload_n 1, 1, false, 0, 0), (92, .imul, 1, false, 0, 0), (93, .iload_n 3, 1, false, 0, 0), (94, .iadd, 1, false, 0, 0), (95, .iload 11, 2, false, 0, 0), (97, .iadd, 1, false, 0, 0), (98, .iaload, 1, false, 0, 0), (99, .istore 12, 2, false, 0, 0), (101, .aload_n 0, 1, false, 0, 0), (102, .iload 12, 2, false, 0, 0), (104, .invokevirtual 131, 3, false, 0, 0), (107, .ifCond .ne 7, 3, false, 0, 114), (110, .ldc2_w 63, 3, false, 0, 0), (113, .lreturn, 1, false, 0, 0), (114, .lload 7, 2, false, 0, 0), (116, .bipush 6, 2, false, 6, 0), (118, .aload_n 0, 1, false, 0, 0), (119, .iload 12, 2, false, 0, 0), (121, .invokevirtual 150, 3, false, 0, 0), (124, .invokestatic 169, 3, false, 0, 0), (127, .isub, 1, false, 0, 0), (128, .i2l, 1, false, 0, 0), (129, .lmul, 1, false, 0, 0), (130, .lstore 7, 2, false, 0, 0), (132, .lload 9, 2, false, 0, 0), (134, .ldc2_w 182, 3, false, 0, 0), (137, .lmul, 1, false, 0, 0), (138, .lstore 9, 2, false, 0, 0), (140, .iinc 11 1, 3, false, 1, 0), (143, .goto (-65), 3, false, 0, 78), (146, .lload 7, 2, false, 0, 0), (148, .lload 9, 2, false, 0, 0), (150, .iload 5, 2, false, 0, 0), (152, .invokestatic 184, 3, false, 0, 0), (155, .lreturn, 1, false, 0, 0)]
set_option maxRecDepth 100000 in
theorem ck_X8_fair : ip_chk cX8_fair tb_X8_fair = true := by decide +kernel
def tb_X8_allDangers : List ip_I := [(0, .iconst 0, 1, false, 0, 0), (1, .istore_n 1, 1, false, 0, 0), (2, .iconst 0, 1, false, 0, 0), (3, .istore_n 2, 1, false, 0, 0), (4, .iload_n 2, 1, true, 0, 0), (5, .aload_n 0, 1, false, 0, 0), (6, .getfield 72, 3, false, 0, 0), (9, .if_icmp .ge 20, 3, false, 0, 29), (12, .iload_n 1, 1, false, 0, 0), (13, .aload_n 0, 1, false, 0, 0), (14, .iload_n 2, 1, false, 0, 0), (15, .invokevirtual 150, 3, false, 0, 0), (18, .invokestatic 169, 3, false, 0, 0), (21, .iadd, 1, false, 0, 0), (22, .istore_n 1, 1, false, 0, 0), (23, .iinc 2 1, 3, false, 1, 0), (26, .goto (-22), 3, false, 0, 4), (29, .iload_n 1, 1, false, 0, 0), (30, .ireturn, 1, false, 0, 0)]
set_option maxRecDepth 100000 in
theorem ck_X8_allDangers : ip_chk cX8_allDangers tb_X8_allDangers = true := by decide +kernel
def tb_X8_worth : List ip_I := [(0, .aload_n 0, 1, false, 0, 0), (1, .iload_n 1, 1, false, 0, 0), (2, .invokevirtual 125, 3, false, 0, 0), (5, .ifCond .ne 5, 3, false, 0, 10), (8, .iconst (-1), 1, false, (-1), 0), (9, .ireturn, 1, false, 0, 0), (10, .aload_n 0, 1, false, 0, 0), (11, .invokevirtual 188, 3, false, 0, 0), (14, .istore_n 2, 1, false, 0, 0), (15, .aload_n 0, 1, false, 0, 0), (16, .iconst 1, 1, false, 1, 0), (17, .iload_n 1, 1, false, 0, 0), (18, .ishl, 1, false, 0, 0), (19, .putfield 144, 3, false, 0, 0), (22, .aload_n 0, 1, false, 0, 0), (23, .invokevirtual 188, 3, false, 0, 0), (26, .istore_n 3, 1, false, 0, 0), (27, .aload_n 0, 1, false, 0, 0), (28, .iconst 0, 1, false, 0, 0), (29, .putfield 144, 3, false, 0, 0), (32, .iload_n 3, 1, false, 0, 0), (33, .iload_n 2, 1, false, 0, 0), (34, .isub, 1, false, 0, 0), (35, .bipush 100, 2, false, 100, 0), (37, .iadd, 1, false, 0, 0), (38, .ireturn, 1, false, 0, 0)]
set_option maxRecDepth 100000 in
theorem ck_X8_worth : ip_chk cX8_worth tb_X8_worth = true := by decide +kernel
def tb_X8_reading : List ip_I := [(0, .aload_n 0, 1, false, 0, 0), (1, .iload_n 1, 1, false, 0, 0), (2, .invokevirtual 131, 3, false, 0, 0), (5, .ifCond .ne 5, 3, false, 0, 10), (8, .iconst (-1), 1, false, (-1), 0), (9, .ireturn, 1, false, 0, 0), (10, .iload_n 2, 1, false, 0, 0), (11, .invokestatic 137, 3, false, 0, 0), (14, .ifCond .ne 6, 3, false, 0, 20), (17, .bipush (-2), 2, false, (-2), 0), (19, .ireturn, 1, false, 0, 0), (20, .aload_n 0, 1, false, 0, 0), (21, .getfield 112, 3, false, 0, 0), (24, .bipush 8, 2, false, 8, 0), (26, .if_icmp .ne 6, 3, false, 0, 32), (29, .bipush (-4), 2, false, (-4), 0), (31, .ireturn, 1, false, 0, 0), (32, .aload_n 0, 1, false, 0, 0), (33, .getfield 50, 3, false, 0, 0), (36, .aload_n 0, 1, false, 0, 0), (37, .getfield 112, 3, false, 0, 0), (40, .iload_n 1, 1, false, 0, 0), (41, .iastore, 1, false, 0, 0), (42, .aload_n 0, 1, false, 0, 0), (43, .getfield 53, 3, false, 0, 0), (46, .aload_n 0, 1, false, 0, 0), (47, .getfield 112, 3, false, 0, 0), (50, .iload_n 2, 1, false, 0, 0), (51, .iastore, 1, false, 0, 0), (52, .aload_n 0, 1, false, 0, 0), (53, .getfield 56, 3, false, 0, 0), (56, .aload_n 0, 1, false, 0, 0), (57, .getfield 112, 3, false, 0, 0), (60, .iload_n 3, 1, false, 0, 0), (61, .bastore, 1, false, 0, 0), (62, .aload_n 0, 1, false, 0, 0), (63, .dup, 1, false, 0, 0), (64, .getfield 112, 3, false, 0, 0), (67, .iconst 1, 1, false, 1, 0), (68, .iadd, 1, false, 0, 0), (69, .putfield 112, 3, false, 0, 0), (72, .aload_n 0, 1, false, 0, 0), (73, .getfield 112, 3, false, 0, 0), (76, .iconst 1, 1, false, 1, 0), (77, .isub, 1, false, 0, 0), (78, .ireturn, 1, false, 0, 0)]
set_option maxRecDepth 100000 in
theorem ck_X8_reading : ip_chk cX8_reading tb_X8_reading = true := by decide +kernel
def tb_X8_back : List ip_I := [(0, .iload_n 1, 1, false, 0, 0), (1, .iconst 0, 1, false, 0, 0), (2, .aload_n 0, 1, false, 0, 0), (3, .getfield 112, 3, false, 0, 0), (6, .invokestatic 65, 3, false, 0, 0), (9, .ifCond .ne 6, 3, false, 0, 15), (12, .bipush (-2), 2, false, (-2), 0), (14, .ireturn, 1, false, 0, 0), (15, .aload_n 0, 1, false, 0, 0), (16, .dup, 1, false, 0, 0), (17, .getfield 112, 3, false, 0, 0), (20, .iload_n 1, 1, false, 0, 0), (21, .isub, 1, false, 0, 0), (22, .putfield 112, 3, false, 0, 0), (25, .aload_n 0, 1, false, 0, 0), (26, .getfield 112, 3, false, 0, 0), (29, .ireturn, 1, false, 0, 0)]
set_option maxRecDepth 100000 in
theorem ck_X8_back : ip_chk cX8_back tb_X8_back = true := by decide +kernel
def tb_X8_areSo : List ip_I := [(0, .iconst 0, 1, false, 0, 0), (1, .istore_n 1, 1, false, 0, 0), (2, .iload_n 1, 1, true, 0, 0), (3, .aload_n 0, 1, false, 0, 0), (4, .getfield 112, 3, false, 0, 0), (7, .if_icmp .ge 36, 3, false, 0, 43), (10, .aload_n 0, 1, false, 0, 0), (11, .aload_n 0, 1, false, 0, 0), (12, .getfield 50, 3, false, 0, 0), (15, .iload_n 1, 1, false, 0, 0), (16, .iaload, 1, false, 0, 0), (17, .aload_n 0, 1, false, 0, 0), (18, .getfield 53, 3, false, 0, 0), (21, .iload_n 1, 1, false, 0, 0), (22, .iaload, 1, false, 0, 0), (23, .invokevirtual 147, 3, false, 0, 0), (26, .aload_n 0, 1, false, 0, 0), (27, .getfield 56, 3, false, 0, 0), (30, .iload_n 1, 1, false, 0, 0), (31, .baload, 1, false, 0, 0), (32, .if_icmp .ne 5, 3, false, 0, 37), (35, .iconst 0, 1, false, 0, 0), (36, .ireturn, 1, false, 0, 0), (37, .iinc 1 1, 3, false, 1, 0), (40, .goto (-38), 3, false, 0, 2), (43, .iconst 1, 1, false, 1, 0), (44, .ireturn, 1, false, 0, 0)]
set_option maxRecDepth 100000 in
theorem ck_X8_areSo : ip_chk cX8_areSo tb_X8_areSo = true := by decide +kernel
def tb_X8_truths : List ip_I := [(0, .iload_n 1, 1, false, 0, 0), (1, .iconst 0, 1, false, 0, 0), (2, .iconst 1, 1, false, 1, 0), (3, .invokestatic 65, 3, false, 0, 0), (6, .ifCond .ne 17, 3, false, 0, 23), (9, .iload_n 1, 1, false, 0, 0), (10, .bipush 10, 2, false, 10, 0), (12, .bipush 15, 2, false, 15, 0), (14, .invokestatic 65, 3, false, 0, 0), (17, .ifCond .ne 6, 3, false, 0, 23), (20, .bipush (-2), 2, false, (-2), 0), (22, .ireturn, 1, false, 0, 0), (23, .aload_n 0, 1, false, 0, 0), (24, .getfield 69, 3, false, 0, 0), (27, .ifCond .ne 6, 3, false, 0, 33), (30, .bipush (-3), 2, false, (-3), 0), (32, .ireturn, 1, false, 0, 0), (33, .aload_n 0, 1, false, 0, 0), (34, .getfield 103, 3, false, 0, 0), (37, .istore_n 2, 1, false, 0, 0), (38, .iconst 0, 1, false, 0, 0), (39, .istore_n 3, 1, false, 0, 0), (40, .bipush (-9), 2, false, (-9), 0), (42, .istore 4, 2, false, 0, 0), (44, .iconst 0, 1, false, 0, 0), (45, .istore 5, 2, false, 0, 0), (47, .iconst 0, 1, false, 0, 0), (48, .istore 6, 2, false, 0, 0), (50, .iload 6, 2, true, 0, 0), (52, .bipush 63, 2, false, 63, 0), (54, .if_icmp .gt 62, 3, false, 0, 116), (57, .aload_n 0, 1, false, 0, 0), (58, .iload 6, 2, false, 0, 0), (60, .putfield 103, 3, false, 0, 0), (63, .aload_n 0, 1, false, 0, 0), (64, .invokevirtual 191, 3, false, 0, 0), (67, .ifCond .eq 43, 3, false, 0, 110), (70, .iload_n 3, 1, false, 0, 0), (71, .ifCond .ne 8, 3, false, 0, 79), (74, .iload 6, 2, false, 0, 0), (76, .goto 5, 3, false, 0, 81), (79, .iload 4, 2, false, 0, 0), (81, .istore 4, 2, false, 0, 0), (83, .iinc 3 1, 3, false, 1, 0), (86, .iload 5, 2, false, 0, 0), (88, .iload_n 1, 1, false, 0, 0), (89, .bipush 10, 2, false, 10, 0), (91, .if_icmp .ge 7, 3, false, 0, 98), (94, .iconst 0, 1, false, 0, 0), (95, .goto 12, 3, false, 0, 107), (98, .iload 6, 2, false, 0, 0), (100, .iload_n 1, 1, false, 0, 0), (101, .bipush 10, 2, false, 10, 0), (103, .isub, 1, false, 0, 0), (104, .ishr, 1, false, 0, 0), (105, .iconst 1, 1, false, 1, 0), (106, .iand, 1, false, 0, 0), (107, .iadd, 1, false, 0, 0), (108, .istore 5, 2, false, 0, 0), (110, .iinc 6 1, 3, false, 1, 0), (113, .goto (-63), 3, false, 0, 50), (116, .aload_n 0, 1, false, 0, 0), (117, .iload_n 2, 1, false, 0, 0), (118, .putfield 103, 3, false, 0, 0), (121, .iload_n 1, 1, false, 0, 0), (122, .ifCond .ne 7, 3, false, 0, 129), (125, .iload_n 3, 1, false, 0, 0), (126, .goto 15, 3, false, 0, 141), (129, .iload_n 1, 1, false, 0, 0), (130, .iconst 1, 1, false, 1, 0), (131, .if_icmp .ne 8, 3, false, 0, 139), (134, .iload 4, 2, false, 0, 0), (136, .goto 5, 3, false, 0, 141), (139, .iload 5, 2, false, 0, 0), (141, .ireturn, 1, false, 0, 0)]
set_option maxRecDepth 100000 in
theorem ck_X8_truths : ip_chk cX8_truths tb_X8_truths = true := by decide +kernel
def tb_X8_stood : List ip_I := [(0, .aload_n 0, 1, false, 0, 0), (1, .iload_n 1, 1, false, 0, 0), (2, .invokevirtual 125, 3, false, 0, 0), (5, .ifCond .ne 5, 3, false, 0, 10), (8, .iconst (-1), 1, false, (-1), 0), (9, .ireturn, 1, false, 0, 0), (10, .aload_n 0, 1, false, 0, 0), (11, .getfield 22, 3, false, 0, 0), (14, .iload_n 1, 1, false, 0, 0), (15, .iaload, 1, false, 0, 0), (16, .istore_n 2, 1, false, 0, 0), (17, .iconst 0, 1, false, 0, 0), (18, .istore_n 3, 1, false, 0, 0), (19, .iconst 0, 1, false, 0, 0), (20, .istore 4, 2, false, 0, 0), (22, .iload 4, 2, true, 0, 0), (24, .aload_n 0, 1, false, 0, 0), (25, .getfield 72, 3, false, 0, 0), (28, .if_icmp .ge 35, 3, false, 0, 63), (31, .aload_n 0, 1, false, 0, 0), (32, .getfield 22, 3, false, 0, 0), (35, .iload_n 1, 1, false, 0, 0), (36, .iload 4, 2, false, 0, 0), (38, .iastore, 1, false, 0, 0), (39, .iload_n 3, 1, false, 0, 0), (40, .aload_n 0, 1, false, 0, 0), (41, .invokevirtual 191, 3, false, 0, 0), (44, .ifCond .eq 10, 3, false, 0, 54), (47, .iconst 1, 1, false, 1, 0), (48, .iload 4, 2, false, 0, 0), (50, .ishl, 1, false, 0, 0), (51, .goto 4, 3, false, 0, 55), (54, .iconst 0, 1, false, 0, 0), (55, .ior, 1, false, 0, 0), (56, .istore_n 3, 1, false, 0, 0), (57, .iinc 4 1, 3, false, 1, 0), (60, .goto (-38), 3, false, 0, 22), (63, .aload_n 0, 1, false, 0, 0), (64, .getfield 22, 3, false, 0, 0), (67, .iload_n 1, 1, false, 0, 0), (68, .iload_n 2, 1, false, 0, 0), (69, .iastore, 1, false, 0, 0), (70, .iload_n 3, 1, false, 0, 0), (71, .ireturn, 1, false, 0, 0)]
set_option maxRecDepth 100000 in
theorem ck_X8_stood : ip_chk cX8_stood tb_X8_stood = true := by decide +kernel
def tb_X8_kinds : List ip_I := [(0, .aload_n 0, 1, false, 0, 0), (1, .iload_n 1, 1, false, 0, 0), (2, .invokevirtual 125, 3, false, 0, 0), (5, .ifCond .ne 5, 3, false, 0, 10), (8, .iconst (-1), 1, false, (-1), 0), (9, .ireturn, 1, false, 0, 0), (10, .aload_n 0, 1, false, 0, 0), (11, .getfield 19, 3, false, 0, 0), (14, .iload_n 1, 1, false, 0, 0), (15, .iaload, 1, false, 0, 0), (16, .istore_n 2, 1, false, 0, 0), (17, .iconst 0, 1, false, 0, 0), (18, .istore_n 3, 1, false, 0, 0), (19, .iconst 0, 1, false, 0, 0), (20, .istore 4, 2, false, 0, 0), (22, .iload 4, 2, true, 0, 0), (24, .iconst 3, 1, false, 3, 0), (25, .if_icmp .ge 35, 3, false, 0, 60), (28, .aload_n 0, 1, false, 0, 0), (29, .getfield 19, 3, false, 0, 0), (32, .iload_n 1, 1, false, 0, 0), (33, .iload 4, 2, false, 0, 0), (35, .iastore, 1, false, 0, 0), (36, .iload_n 3, 1, false, 0, 0), (37, .aload_n 0, 1, false, 0, 0), (38, .invokevirtual 191, 3, false, 0, 0), (41, .ifCond .eq 10, 3, false, 0, 51), (44, .iconst 1, 1, false, 1, 0), (45, .iload 4, 2, false, 0, 0), (47, .ishl, 1, false, 0, 0), (48, .goto 4, 3, false, 0, 52), (51, .iconst 0, 1, false, 0, 0), (52, .ior, 1, false, 0, 0), (53, .istore_n 3, 1, false, 0, 0), (54, .iinc 4 1, 3, false, 1, 0), (57, .goto (-35), 3, false, 0, 22), (60, .aload_n 0, 1, false, 0, 0), (61, .getfield 19, 3, false, 0, 0), (64, .iload_n 1, 1, false, 0, 0), (65, .iload_n 2, 1, false, 0, 0), (66, .iastore, 1, false, 0, 0), (67, .iload_n 3, 1, false, 0, 0), (68, .ireturn, 1, false, 0, 0)]
set_option maxRecDepth 100000 in
theorem ck_X8_kinds : ip_chk cX8_kinds tb_X8_kinds = true := by decide +kernel
def tb_X8_knew : List ip_I := [(0, .aload_n 0, 1, false, 0, 0), (1, .iload_n 1, 1, false, 0, 0), (2, .invokevirtual 125, 3, false, 0, 0), (5, .ifCond .ne 5, 3, false, 0, 10), (8, .iconst (-1), 1, false, (-1), 0), (9, .ireturn, 1, false, 0, 0), (10, .iload_n 2, 1, false, 0, 0), (11, .iconst 0, 1, false, 0, 0), (12, .iconst 1, 1, false, 1, 0), (13, .invokestatic 65, 3, false, 0, 0), (16, .ifCond .ne 6, 3, false, 0, 22), (19, .bipush (-2), 2, false, (-2), 0), (21, .ireturn, 1, false, 0, 0), (22, .aload_n 0, 1, false, 0, 0), (23, .getfield 25, 3, false, 0, 0), (26, .iload_n 1, 1, false, 0, 0), (27, .iaload, 1, false, 0, 0), (28, .istore_n 3, 1, false, 0, 0), (29, .iconst 0, 1, false, 0, 0), (30, .istore 4, 2, false, 0, 0), (32, .bipush (-9), 2, false, (-9), 0), (34, .istore 5, 2, false, 0, 0), (36, .iconst 0, 1, false, 0, 0), (37, .istore 6, 2, false, 0, 0), (39, .iload 6, 2, true, 0, 0), (41, .bipush 63, 2, false, 63, 0), (43, .if_icmp .gt 56, 3, false, 0, 99), (46, .aload_n 0, 1, false, 0, 0), (47, .getfield 25, 3, false, 0, 0), (50, .iload_n 1, 1, false, 0, 0), (51, .iload 6, 2, false, 0, 0), (53, .iastore, 1, false, 0, 0), (54, .aload_n 0, 1, false, 0, 0), (55, .invokevirtual 191, 3, false, 0, 0), (58, .ifCond .eq 35, 3, false, 0, 93), (61, .iload 5, 2, false, 0, 0), (63, .bipush (-9), 2, false, (-9), 0), (65, .if_icmp .eq 16, 3, false, 0, 81), (68, .iload 6, 2, false, 0, 0), (70, .invokestatic 169, 3, false, 0, 0), (73, .iload 5, 2, false, 0, 0), (75, .invokestatic 169, 3, false, 0, 0), (78, .if_icmp .ge 8, 3, false, 0, 86), (81, .iload 6, 2, false, 0, 0), (83, .goto 5, 3, false, 0, 88), (86, .iload 5, 2, false, 0, 0), (88, .istore 5, 2, false, 0, 0), (90, .iinc 4 1, 3, false, 1, 0), (93, .iinc 6 1, 3, false, 1, 0), (96, .goto (-57), 3, false, 0, 39), (99, .aload_n 0, 1, false, 0, 0), (100, .getfield 25, 3, false, 0, 0), (103, .iload_n 1, 1, false, 0, 0), (104, .iload_n 3, 1, false, 0, 0), (105, .iastore, 1, false, 0, 0), (106, .iload_n 2, 1, false, 0, 0), (107, .ifCond .ne 8, 3, false, 0, 115), (110, .iload 4, 2, false, 0, 0), (112, .goto 5, 3, false, 0, 117), (115, .iload 5, 2, false, 0, 0), (117, .ireturn, 1, false, 0, 0)]
set_option maxRecDepth 100000 in
theorem ck_X8_knew : ip_chk cX8_knew tb_X8_knew = true := by decide +kernel
def tb_X8_odds : List ip_I := [(0, .aload_n 0, 1, false, 0, 0), (1, .iload_n 1, 1, false, 0, 0), (2, .invokevirtual 131, 3, false, 0, 0), (5, .ifCond .eq 19, 3, false, 0, 24), (8, .iload_n 2, 1, false, 0, 0), (9, .invokestatic 137, 3, false, 0, 0), (12, .ifCond .eq 12, 3, false, 0, 24), (15, .iload_n 3, 1, false, 0, 0), (16, .iconst 0, 1, false, 0, 0), (17, .iconst 1, 1, false, 1, 0), (18, .invokestatic 65, 3, false, 0, 0), (21, .ifCond .ne 7, 3, false, 0, 28), (24, .ldc2_w 63, 3, false, 0, 0), (27, .lreturn, 1, false, 0, 0), (28, .iconst 0, 1, false, 0, 0), (29, .istore 4, 2, false, 0, 0), (31, .iconst 0, 1, false, 0, 0), (32, .istore 5, 2, false, 0, 0), (34, .iload 5, 2, true, 0, 0), (36, .iconst 1, 1, false, 1, 0), (37, .aload_n 0, 1, false, 0, 0), (38, .getfield 69, 3, false, 0, 0), (41, .ishl, 1, false, 0, 0), (42, .if_icmp .ge 34, 3, false, 0, 76), (45, .aload_n 0, 1, false, 0, 0), (46, .iload 5, 2, false, 0, 0), (48, .putfield 144, 3, false, 0, 0), (51, .iload 4, 2, false, 0, 0), (53, .aload_n 0, 1, false, 0, 0), (54, .iload_n 1, 1, false, 0, 0), (55, .iload_n 2, 1, false, 0, 0), (56, .invokevirtual 147, 3, false, 0, 0), (59, .ifCond .eq 7, 3, false, 0, 66), (62, .iconst 1, 1, false, 1, 0), (63, .goto 4, 3, false, 0, 67), (66, .iconst 0, 1, false, 0, 0), (67, .iadd, 1, false, 0, 0), (68, .istore 4, 2, false, 0, 0), (70, .iinc 5 1, 3, false, 1, 0), (73, .goto (-39), 3, false, 0, 34), (76, .aload_n 0, 1, false, 0, 0), (77, .iconst 0, 1, false, 0, 0), (78, .putfield 144, 3, false, 0, 0), (81, .iload 4, 2, false, 0, 0), (83, .i2l, 1, false, 0, 0), (84, .lconst 1, 1, false, 0, 0), (85, .aload_n 0, 1, false, 0, 0), (86, .getfield 69, 3, false, 0, 0), (89, .lshl, 1, false, 0, 0), (90, .iload_n 3, 1, false, 0, 0), (91, .invokestatic 184, 3, false, 0, 0), (94, .lreturn, 1, false, 0, 0)]
set_option maxRecDepth 100000 in
theorem ck_X8_odds : ip_chk cX8_odds tb_X8_odds = true := by decide +kernel
def tb_X8_sheet : List ip_I := [(0, .aload_n 0, 1, false, 0, 0), (1, .iconst 0, 1, false, 0, 0), (2, .putfield 59, 3, false, 0, 0), (5, .iload_n 1, 1, false, 0, 0), (6, .invokestatic 82, 3, false, 0, 0), (9, .ifCond .ne 5, 3, false, 0, 14), (12, .iconst (-1), 1, false, (-1), 0), (13, .ireturn, 1, false, 0, 0), (14, .iload_n 2, 1, false, 0, 0), (15, .invokestatic 86, 3, false, 0, 0), (18, .ifCond .eq 9, 3, false, 0, 27), (21, .iload_n 3, 1, false, 0, 0), (22, .bipush 60, 2, false, 60, 0), (24, .if_icmp .le 6, 3, false, 0, 30), (27, .bipush (-2), 2, false, (-2), 0), (29, .ireturn, 1, false, 0, 0), (30, .iload_n 3, 1, false, 0, 0), (31, .ifCond .ge 9, 3, false, 0, 40), (34, .aload_n 0, 1, false, 0, 0), (35, .iconst 4, 1, false, 4, 0), (36, .invokevirtual 93, 3, false, 0, 0), (39, .ireturn, 1, false, 0, 0), (40, .aload_n 0, 1, false, 0, 0), (41, .getfield 9, 3, false, 0, 0), (44, .iload_n 1, 1, false, 0, 0), (45, .iload_n 2, 1, false, 0, 0), (46, .iastore, 1, false, 0, 0), (47, .aload_n 0, 1, false, 0, 0), (48, .getfield 13, 3, false, 0, 0), (51, .iload_n 1, 1, false, 0, 0), (52, .iload_n 3, 1, false, 0, 0), (53, .iastore, 1, false, 0, 0), (54, .iconst 0, 1, false, 0, 0), (55, .istore 4, 2, false, 0, 0), (57, .iload 4, 2, true, 0, 0), (59, .bipush 60, 2, false, 60, 0), (61, .if_icmp .ge 22, 3, false, 0, 83), (64, .aload_n 0, 1, false, 0, 0), (65, .getfield 16, 3, false, 0, 0), (68, .bipush 60, 2, false, 60, 0), (70, .iload_n 1, 1, false, 0, 0), (71, .imul, 1, false, 0, 0), (72, .iload 4, 2, false, 0, 0), (74, .iadd, 1, false, 0, 0), (75, .iconst 0, 1, false, 0, 0), (76, .iastore, 1, false, 0, 0), (77, .iinc 4 1, 3, false, 1, 0), (80, .goto (-23), 3, false, 0, 57), (83, .iconst 1, 1, false, 1, 0), (84, .ireturn, 1, false, 0, 0)]
set_option maxRecDepth 100000 in
theorem ck_X8_sheet : ip_chk cX8_sheet tb_X8_sheet = true := by decide +kernel
def tb_X8_lose : List ip_I := [(0, .iload_n 1, 1, false, 0, 0), (1, .invokestatic 82, 3, false, 0, 0), (4, .ifCond .ne 5, 3, false, 0, 9), (7, .iconst (-1), 1, false, (-1), 0), (8, .ireturn, 1, false, 0, 0), (9, .aload_n 0, 1, false, 0, 0), (10, .getfield 9, 3, false, 0, 0), (13, .iload_n 1, 1, false, 0, 0), (14, .iaload, 1, false, 0, 0), (15, .bipush (-9), 2, false, (-9), 0), (17, .if_icmp .ne 7, 3, false, 0, 24), (20, .iconst 0, 1, false, 0, 0), (21, .goto 4, 3, false, 0, 25), (24, .iconst 1, 1, false, 1, 0), (25, .istore_n 2, 1, false, 0, 0), (26, .aload_n 0, 1, false, 0, 0), (27, .getfield 9, 3, false, 0, 0), (30, .iload_n 1, 1, false, 0, 0), (31, .bipush (-9), 2, false, (-9), 0), (33, .iastore, 1, false, 0, 0), (34, .iload_n 2, 1, false, 0, 0), (35, .ireturn, 1, false, 0, 0)]
set_option maxRecDepth 100000 in
theorem ck_X8_lose : ip_chk cX8_lose tb_X8_lose = true := by decide +kernel
def tb_X8_put : List ip_I := [(0, .aload_n 0, 1, false, 0, 0), (1, .iconst 0, 1, false, 0, 0), (2, .putfield 59, 3, false, 0, 0), (5, .iload_n 1, 1, false, 0, 0), (6, .invokestatic 82, 3, false, 0, 0), (9, .ifCond .ne 5, 3, false, 0, 14), (12, .iconst (-1), 1, false, (-1), 0), (13, .ireturn, 1, false, 0, 0), (14, .aload_n 0, 1, false, 0, 0), (15, .getfield 9, 3, false, 0, 0), (18, .iload_n 1, 1, false, 0, 0), (19, .iaload, 1, false, 0, 0), (20, .bipush (-9), 2, false, (-9), 0), (22, .if_icmp .ne 9, 3, false, 0, 31), (25, .aload_n 0, 1, false, 0, 0), (26, .iconst 1, 1, false, 1, 0), (27, .invokevirtual 93, 3, false, 0, 0), (30, .ireturn, 1, false, 0, 0), (31, .iload_n 2, 1, false, 0, 0), (32, .iconst 0, 1, false, 0, 0), (33, .aload_n 0, 1, false, 0, 0), (34, .getfield 13, 3, false, 0, 0), (37, .iload_n 1, 1, false, 0, 0), (38, .iaload, 1, false, 0, 0), (39, .iconst 1, 1, false, 1, 0), (40, .isub, 1, false, 0, 0), (41, .invokestatic 65, 3, false, 0, 0), (44, .ifCond .ne 9, 3, false, 0, 53), (47, .aload_n 0, 1, false, 0, 0), (48, .iconst 3, 1, false, 3, 0), (49, .invokevirtual 93, 3, false, 0, 0), (52, .ireturn, 1, false, 0, 0), (53, .aload_n 0, 1, false, 0, 0), (54, .getfield 16, 3, false, 0, 0), (57, .bipush 60, 2, false, 60, 0), (59, .iload_n 1, 1, false, 0, 0), (60, .imul, 1, false, 0, 0), (61, .iload_n 2, 1, false, 0, 0), (62, .iadd, 1, false, 0, 0), (63, .aload_n 0, 1, false, 0, 0), (64, .getfield 9, 3, false, 0, 0), (67, .iload_n 1, 1, false, 0, 0), (68, .iaload, 1, false, 0, 0), (69, .ifCond .ne 8, 3, false, 0, 77), (72, .iload_n 3, 1, false, 0, 0), (73, .i2b, 1, false, 0, 0), (74, .goto 19, 3, false, 0, 93), (77, .aload_n 0, 1, false, 0, 0), (78, .getfield 9, 3, false, 0, 0), (81, .iload_n 1, 1, false, 0, 0), (82, .iaload, 1, false, 0, 0), (83, .iconst 1, 1, false, 1, 0), (84, .if_icmp .ne 8, 3, false, 0, 92), (87, .iload_n 3, 1, false, 0, 0), (88, .i2s, 1, false, 0, 0), (89, .goto 4, 3, false, 0, 93), (92, .iload_n 3, 1, false, 0, 0), (93, .iastore, 1, false, 0, 0), (94, .iconst 1, 1, false, 1, 0), (95, .ireturn, 1, false, 0, 0)]
set_option maxRecDepth 100000 in
theorem ck_X8_put : ip_chk cX8_put tb_X8_put = true := by decide +kernel
def tb_X8_cell : List ip_I := [(0, .aload_n 0, 1, false, 0, 0), (1, .iconst 0, 1, false, 0, 0), (2, .putfield 59, 3, false, 0, 0), (5, .iload_n 1, 1, false, 0, 0), (6, .invokestatic 82, 3, false, 0, 0), (9, .ifCond .eq 10, 3, false, 0, 19), (12, .iload_n 3, 1, false, 0, 0), (13, .invokestatic 86, 3, false, 0, 0), (16, .ifCond .ne 7, 3, false, 0, 23), (19, .ldc2_w 63, 3, false, 0, 0), (22, .lreturn, 1, false, 0, 0), (23, .aload_n 0, 1, false, 0, 0), (24, .getfield 9, 3, false, 0, 0), (27, .iload_n 1, 1, false, 0, 0), (28, .iaload, 1, false, 0, 0), (29, .bipush (-9), 2, false, (-9), 0), (31, .if_icmp .eq 19, 3, false, 0, 50), (34, .aload_n 0, 1, false, 0, 0), (35, .getfield 9, 3, false, 0, 0), (38, .iload_n 1, 1, false, 0, 0), (39, .iaload, 1, false, 0, 0), (40, .iload_n 3, 1, false, 0, 0), (41, .if_icmp .eq 9, 3, false, 0, 50), (44, .aload_n 0, 1, false, 0, 0), (45, .iconst 2, 1, false, 2, 0), (46, .invokevirtual 178, 3, false, 0, 0), (49, .lreturn, 1, false, 0, 0), (50, .aload_n 0, 1, false, 0, 0), (51, .getfield 9, 3, false, 0, 0), (54, .iload_n 1, 1, false, 0, 0), (55, .iaload, 1, false, 0, 0), (56, .bipush (-9), 2, false, (-9), 0), (58, .if_icmp .ne 9, 3, false, 0, 67), (61, .aload_n 0, 1, false, 0, 0), (62, .iconst 1, 1, false, 1, 0), (63, .invokevirtual 178, 3, false, 0, 0), (66, .lreturn, 1, false, 0, 0), (67, .iload_n 2, 1, false, 0, 0), (68, .iconst 0, 1, false, 0, 0), (69, .aload_n 0, 1, false, 0, 0), (70, .getfield 13, 3, false, 0, 0), (73, .iload_n 1, 1, false, 0, 0), (74, .iaload, 1, false, 0, 0), (75, .iconst 1, 1, false, 1, 0), (76, .isub, 1, false, 0, 0), (77, .invokestatic 65, 3, false, 0, 0), (80, .ifCond .ne 9, 3, false, 0, 89), (83, .aload_n 0, 1, false, 0, 0), (84, .iconst 3, 1, false, 3, 0), (85, .invokevirtual 178, 3, false, 0, 0), (88, .lreturn, 1, false, 0, 0), (89, .aload_n 0, 1, false, 0, 0), (90, .getfield 16, 3, false, 0, 0), (93, .bipush 60, 2, false, 60, 0), (95, .iload_n 1, 1, false, 0, 0), (96, .imul, 1, false, 0, 0), (97, .iload_n 2, 1, false, 0, 0), (98, .iadd, 1, false, 0, 0), (99, .iaload, 1, false, 0, 0), (100, .i2l, 1, false, 0, 0), (101, .lreturn, 1, false, 0, 0)]
set_option maxRecDepth 100000 in
theorem ck_X8_cell : ip_chk cX8_cell tb_X8_cell = true := by decide +kernel
def tb_X8_copy : List ip_I := [(0, .aload_n 0, 1, false, 0, 0), (1, .iconst 0, 1, false, 0, 0), (2, .putfield 59, 3, false, 0, 0), (5, .iload_n 1, 1, false, 0, 0), (6, .invokestatic 82, 3, false, 0, 0), (9, .ifCond .eq 10, 3, false, 0, 19), (12, .iload_n 3, 1, false, 0, 0), (13, .invokestatic 82, 3, false, 0, 0), (16, .ifCond .ne 5, 3, false, 0, 21), (19, .iconst (-1), 1, false, (-1), 0), (20, .ireturn, 1, false, 0, 0), (21, .aload_n 0, 1, false, 0, 0), (22, .getfield 9, 3, false, 0, 0), (25, .iload_n 1, 1, false, 0, 0), (26, .iaload, 1, false, 0, 0), (27, .bipush (-9), 2, false, (-9), 0), (29, .if_icmp .eq 14, 3, false, 0, 43), (32, .aload_n 0, 1, false, 0, 0), (33, .getfield 9, 3, false, 0, 0), (36, .iload_n 3, 1, false, 0, 0), (37, .iaload, 1, false, 0, 0), (38, .bipush (-9), 2, false, (-9), 0), (40, .if_icmp .ne 9, 3, false, 0, 49), (43, .aload_n 0, 1, false, 0, 0), (44, .iconst 1, 1, false, 1, 0), (45, .invokevirtual 93, 3, false, 0, 0), (48, .ireturn, 1, false, 0, 0), (49, .aload_n 0, 1, false, 0, 0), (50, .getfield 9, 3, false, 0, 0), (53, .iload_n 1, 1, false, 0, 0), (54, .iaload, 1, false, 0, 0), (55, .aload_n 0, 1, false, 0, 0), (56, .getfield 9, 3, false, 0, 0), (59, .iload_n 3, 1, false, 0, 0), (60, .iaload, 1, false, 0, 0), (61, .if_icmp .eq 9, 3, false, 0, 70), (64, .aload_n 0, 1, false, 0, 0), (65, .iconst 2, 1, false, 2, 0), (66, .invokevirtual 93, 3, false, 0, 0), (69, .ireturn, 1, false, 0, 0), (70, .iload_n 2, 1, false, 0, 0), (71, .ifCond .lt 38, 3, false, 0, 109), (74, .iload 4, 2, false, 0, 0), (76, .ifCond .lt 33, 3, false, 0, 109), (79, .iload 5, 2, false, 0, 0), (81, .ifCond .lt 28, 3, false, 0, 109), (84, .iload_n 2, 1, false, 0, 0), (85, .aload_n 0, 1, false, 0, 0), (86, .getfield 13, 3, false, 0, 0), (89, .iload_n 1, 1, false, 0, 0), (90, .iaload, 1, false, 0, 0), (91, .if_icmp .gt 18, 3, false, 0, 109), (94, .iload 4, 2, false, 0, 0), (96, .aload_n 0, 1, false, 0, 0), (97, .getfield 13, 3, false, 0, 0), (100, .iload_n 3, 1, false, 0, 0), (101, .iaload, 1, false, 0, 0), (102, .if_icmp .gt 7, 3, false, 0, 109), (105, .iconst 1, 1, false, 1, 0), (106, .goto 4, 3, false, 0, 110), (109, .iconst 0, 1, false, 0, 0), (110, .istore 6, 2, false, 0, 0), (112, .iload 6, 2, false, 0, 0), (114, .ifCond .eq 30, 3, false, 0, 144), (117, .iload 5, 2, false, 0, 0), (119, .aload_n 0, 1, false, 0, 0), (120, .getfield 13, 3, false, 0, 0), (123, .iload_n 1, 1, false, 0, 0), (124, .iaload, 1, false, 0, 0), (125, .iload_n 2, 1, false, 0, 0), (126, .isub, 1, false, 0, 0), (127, .if_icmp .gt 17, 3, false, 0, 144), (130, .iload 5, 2, false, 0, 0), (132, .aload_n 0, 1, false, 0, 0), (133, .getfield 13, 3, false, 0, 0), (136, .iload_n 3, 1, false, 0, 0), (137, .iaload, 1, false, 0, 0), (138, .iload 4, 2, false, 0, 0), (140, .isub, 1, false, 0, 0), (141, .if_icmp .le 9, 3, false, 0, 150), (144, .aload_n 0, 1, false, 0, 0), (145, .iconst 3, 1, false, 3, 0), (146, .invokevirtual 93, 3, false, 0, 0), (149, .ireturn, 1, false, 0, 0), (150, .iload_n 2, 1, false, 0, 0), (151, .iload 4, 2, false, 0, 0), (153, .if_icmp .ge 7, 3, false, 0, 160), (156, .iconst 1, 1, false, 1, 0), (157, .goto 4, 3, false, 0, 161), (160, .iconst 0, 1, false, 0, 0), (161, .istore 7, 2, false, 0, 0), (163, .iconst 0, 1, false, 0, 0), (164, .istore 8, 2, false, 0, 0), (166, .iload 8, 2, true, 0, 0), (168, .iload 5, 2, false, 0, 0), (170, .if_icmp .ge 57, 3, false, 0, 227), (173, .iload 7, 2, false, 0, 0), (175, .ifCond .eq 13, 3, false, 0, 188), (178, .iload 5, 2, false, 0, 0), (180, .iconst 1, 1, false, 1, 0), (181, .isub, 1, false, 0, 0), (182, .iload 8, 2, false, 0, 0), (184, .isub, 1, false, 0, 0), (185, .goto 5, 3, false, 0, 190), (188, .iload 8, 2, false, 0, 0), (190, .istore 9, 2, false, 0, 0), (192, .aload_n 0, 1, false, 0, 0), (193, .getfield 16, 3, false, 0, 0), (196, .bipush 60, 2, false, 60, 0), (198, .iload_n 3, 1, false, 0, 0), (199, .imul, 1, false, 0, 0), (200, .iload 4, 2, false, 0, 0), (202, .iadd, 1, false, 0, 0), (203, .iload 9, 2, false, 0, 0), (205, .iadd, 1, false, 0, 0), (206, .aload_n 0, 1, false, 0, 0), (207, .getfield 16, 3, false, 0, 0), (210, .bipush 60, 2, false, 60, 0), (212, .iload_n 1, 1, false, 0, 0), (213, .imul, 1, false, 0, 0), (214, .iload_n 2, 1, false, 0, 0), (215, .iadd, 1, false, 0, 0), (216, .iload 9, 2, false, 0, 0), (218, .iadd, 1, false, 0, 0), (219, .iaload, 1, false, 0, 0), (220, .iastore, 1, false, 0, 0), (221, .iinc 8 1, 3, false, 1, 0), (224, .goto (-58), 3, false, 0, 166), (227, .iload 5, 2, false, 0, 0), (229, .ireturn, 1, false, 0, 0)]
set_option maxRecDepth 100000 in
theorem ck_X8_copy : ip_chk cX8_copy tb_X8_copy = true := by decide +kernel
def tb_X8_begins : List ip_I := [(0, .aload_n 0, 1, false, 0, 0), (1, .bipush 31, 2, false, 31, 0), (3, .aload_n 0, 1, false, 0, 0), (4, .getfield 195, 3, false, 0, 0), (7, .imul, 1, false, 0, 0), (8, .iload_n 1, 1, false, 0, 0), (9, .iadd, 1, false, 0, 0), (10, .putfield 195, 3, false, 0, 0), (13, .return_, 1, false, 0, 0)]
set_option maxRecDepth 100000 in
theorem ck_X8_begins : ip_chk cX8_begins tb_X8_begins = true := by decide +kernel
def tb_X8_tell : List ip_I := [(0, .aload_n 0, 1, false, 0, 0), (1, .iload_n 1, 1, false, 0, 0), (2, .invokevirtual 125, 3, false, 0, 0), (5, .ifCond .ne 5, 3, false, 0, 10), (8, .iconst (-1), 1, false, (-1), 0), (9, .ireturn, 1, false, 0, 0), (10, .aload_n 0, 1, false, 0, 0), (11, .getfield 22, 3, false, 0, 0), (14, .iload_n 1, 1, false, 0, 0), (15, .iaload, 1, false, 0, 0), (16, .istore_n 2, 1, false, 0, 0), (17, .aload_n 0, 1, false, 0, 0), (18, .getfield 19, 3, false, 0, 0), (21, .iload_n 1, 1, false, 0, 0), (22, .iaload, 1, false, 0, 0), (23, .lookupswitch 67 #[(1, 25), (2, 40)], 25, false, 0, 0), (48, .aload_n 0, 1, false, 0, 0), (49, .iconst 2, 1, false, 2, 0), (50, .invokevirtual 198, 3, false, 0, 0), (53, .aload_n 0, 1, false, 0, 0), (54, .iconst 1, 1, false, 1, 0), (55, .invokevirtual 198, 3, false, 0, 0), (58, .iload_n 2, 1, false, 0, 0), (59, .bipush 100, 2, false, 100, 0), (61, .iadd, 1, false, 0, 0), (62, .ireturn, 1, false, 0, 0), (63, .aload_n 0, 1, false, 0, 0), (64, .iconst 3, 1, false, 3, 0), (65, .invokevirtual 198, 3, false, 0, 0), (68, .aload_n 0, 1, false, 0, 0), (69, .iconst 2, 1, false, 2, 0), (70, .invokevirtual 198, 3, false, 0, 0), (73, .aload_n 0, 1, false, 0, 0), (74, .iconst 1, 1, false, 1, 0), (75, .invokevirtual 198, 3, false, 0, 0), (78, .aload_n 0, 1, false, 0, 0), (79, .iconst 1, 1, false, 1, 0), (80, .invokevirtual 198, 3, false, 0, 0), (83, .iconst 2, 1, false, 2, 0), (84, .iload_n 2, 1, false, 0, 0), (85, .imul, 1, false, 0, 0), (86, .bipush 100, 2, false, 100, 0), (88, .iadd, 1, false, 0, 0), (89, .ireturn, 1, false, 0, 0), (90, .aload_n 0, 1, false, 0, 0), (91, .iconst 1, 1, false, 1, 0), (92, .invokevirtual 198, 3, false, 0, 0), (95, .iload_n 2, 1, false, 0, 0), (96, .ireturn, 1, false, 0, 0)]
set_option maxRecDepth 100000 in
theorem ck_X8_tell : ip_chk cX8_tell tb_X8_tell = true := by decide +kernel
def tb_X8_hail : List ip_I := [(0, .aload_n 0, 1, false, 0, 0), (1, .iload_n 1, 1, false, 0, 0), (2, .invokevirtual 125, 3, false, 0, 0), (5, .ifCond .ne 5, 3, false, 0, 10), (8, .iconst (-1), 1, false, (-1), 0), (9, .ireturn, 1, false, 0, 0), (10, .aload_n 0, 1, false, 0, 0), (11, .aload_n 0, 1, false, 0, 0), (12, .getfield 19, 3, false, 0, 0), (15, .iload_n 1, 1, false, 0, 0), (16, .iaload, 1, false, 0, 0), (17, .iconst 2, 1, false, 2, 0), (18, .if_icmp .ne 7, 3, false, 0, 25), (21, .iconst 5, 1, false, 5, 0), (22, .goto 4, 3, false, 0, 26), (25, .iconst 4, 1, false, 4, 0), (26, .invokevirtual 198, 3, false, 0, 0), (29, .aload_n 0, 1, false, 0, 0), (30, .getfield 19, 3, false, 0, 0), (33, .iload_n 1, 1, false, 0, 0), (34, .iaload, 1, false, 0, 0), (35, .iconst 2, 1, false, 2, 0), (36, .if_icmp .ne 8, 3, false, 0, 44), (39, .bipush 60, 2, false, 60, 0), (41, .goto 4, 3, false, 0, 45), (44, .iload_n 1, 1, false, 0, 0), (45, .ireturn, 1, false, 0, 0)]
set_option maxRecDepth 100000 in
theorem ck_X8_hail : ip_chk cX8_hail tb_X8_hail = true := by decide +kernel
def tb_X8_as : List ip_I := [(0, .aload_n 0, 1, false, 0, 0), (1, .iconst 0, 1, false, 0, 0), (2, .putfield 59, 3, false, 0, 0), (5, .aload_n 0, 1, false, 0, 0), (6, .iload_n 1, 1, false, 0, 0), (7, .invokevirtual 125, 3, false, 0, 0), (10, .ifCond .ne 5, 3, false, 0, 15), (13, .iconst (-1), 1, false, (-1), 0), (14, .ireturn, 1, false, 0, 0), (15, .iload_n 2, 1, false, 0, 0), (16, .iconst 0, 1, false, 0, 0), (17, .iconst 2, 1, false, 2, 0), (18, .invokestatic 65, 3, false, 0, 0), (21, .ifCond .ne 6, 3, false, 0, 27), (24, .bipush (-2), 2, false, (-2), 0), (26, .ireturn, 1, false, 0, 0), (27, .aload_n 0, 1, false, 0, 0), (28, .getfield 19, 3, false, 0, 0), (31, .iload_n 1, 1, false, 0, 0), (32, .iaload, 1, false, 0, 0), (33, .iload_n 2, 1, false, 0, 0), (34, .if_icmp .lt 7, 3, false, 0, 41), (37, .iconst 1, 1, false, 1, 0), (38, .goto 8, 3, false, 0, 46), (41, .aload_n 0, 1, false, 0, 0), (42, .iconst 2, 1, false, 2, 0), (43, .invokevirtual 93, 3, false, 0, 0), (46, .ireturn, 1, false, 0, 0)]
set_option maxRecDepth 100000 in
theorem ck_X8_as : ip_chk cX8_as tb_X8_as = true := by decide +kernel
def tb_X8_trace : List ip_I := [(0, .aload_n 0, 1, false, 0, 0), (1, .getfield 195, 3, false, 0, 0), (4, .ireturn, 1, false, 0, 0)]
set_option maxRecDepth 100000 in
theorem ck_X8_trace : ip_chk cX8_trace tb_X8_trace = true := by decide +kernel
def tb_X8_fault : List ip_I := [(0, .aload_n 0, 1, false, 0, 0), (1, .getfield 59, 3, false, 0, 0), (4, .ireturn, 1, false, 0, 0)]
set_option maxRecDepth 100000 in
theorem ck_X8_fault : ip_chk cX8_fault tb_X8_fault = true := by decide +kernel
def tb_X8_many : List ip_I := [(0, .iload_n 1, 1, false, 0, 0), (1, .ifCond .ne 10, 3, false, 0, 11), (4, .aload_n 0, 1, false, 0, 0), (5, .getfield 69, 3, false, 0, 0), (8, .goto 41, 3, false, 0, 49), (11, .iload_n 1, 1, false, 0, 0), (12, .iconst 1, 1, false, 1, 0), (13, .if_icmp .ne 10, 3, false, 0, 23), (16, .aload_n 0, 1, false, 0, 0), (17, .getfield 72, 3, false, 0, 0), (20, .goto 29, 3, false, 0, 49), (23, .iload_n 1, 1, false, 0, 0), (24, .iconst 2, 1, false, 2, 0), (25, .if_icmp .ne 10, 3, false, 0, 35), (28, .aload_n 0, 1, false, 0, 0), (29, .getfield 103, 3, false, 0, 0), (32, .goto 17, 3, false, 0, 49), (35, .iload_n 1, 1, false, 0, 0), (36, .iconst 3, 1, false, 3, 0), (37, .if_icmp .ne 10, 3, false, 0, 47), (40, .aload_n 0, 1, false, 0, 0), (41, .getfield 112, 3, false, 0, 0), (44, .goto 5, 3, false, 0, 49), (47, .bipush (-2), 2, false, (-2), 0), (49, .ireturn, 1, false, 0, 0)]
set_option maxRecDepth 100000 in
theorem ck_X8_many : ip_chk cX8_many tb_X8_many = true := by decide +kernel
def tb_J6_bitCount_0f7a4 : List ip_I := [(0, .iload_n 0, 1, false, 0, 0), (1, .iload_n 0, 1, false, 0, 0), (2, .iconst 1, 1, false, 1, 0), (3, .iushr, 1, false, 0, 0), (4, .ldc_w 265, 3, false, 0, 0), (7, .iand, 1, false, 0, 0), (8, .isub, 1, false, 0, 0), (9, .istore_n 0, 1, false, 0, 0), (10, .iload_n 0, 1, false, 0, 0), (11, .ldc_w 266, 3, false, 0, 0), (14, .iand, 1, false, 0, 0), (15, .iload_n 0, 1, false, 0, 0), (16, .iconst 2, 1, false, 2, 0), (17, .iushr, 1, false, 0, 0), (18, .ldc_w 266, 3, false, 0, 0), (21, .iand, 1, false, 0, 0), (22, .iadd, 1, false, 0, 0), (23, .istore_n 0, 1, false, 0, 0), (24, .iload_n 0, 1, false, 0, 0), (25, .iload_n 0, 1, false, 0, 0), (26, .iconst 4, 1, false, 4, 0), (27, .iushr, 1, false, 0, 0), (28, .iadd, 1, false, 0, 0), (29, .ldc_w 267, 3, false, 0, 0), (32, .iand, 1, false, 0, 0), (33, .istore_n 0, 1, false, 0, 0), (34, .iload_n 0, 1, false, 0, 0), (35, .iload_n 0, 1, false, 0, 0), (36, .bipush 8, 2, false, 8, 0), (38, .iushr, 1, false, 0, 0), (39, .iadd, 1, false, 0, 0), (40, .istore_n 0, 1, false, 0, 0), (41, .iload_n 0, 1, false, 0, 0), (42, .iload_n 0, 1, false, 0, 0), (43, .bipush 16, 2, false, 16, 0), (45, .iushr, 1, false, 0, 0), (46, .iadd, 1, false, 0, 0), (47, .istore_n 0, 1, false, 0, 0), (48, .iload_n 0, 1, false, 0, 0), (49, .bipush 63, 2, false, 63, 0), (51, .iand, 1, false, 0, 0), (52, .ireturn, 1, false, 0, 0)]
set_option maxRecDepth 100000 in
theorem ck_J6_bitCount_0f7a4 : ip_chk cJ6_bitCount_0f7a4 tb_J6_bitCount_0f7a4 = true := by decide +kernel
def tb_J13_bitCount_95d88 : List ip_I := [(0, .lload_n 0, 1, false, 0, 0), (1, .lload_n 0, 1, false, 0, 0), (2, .iconst 1, 1, false, 1, 0), (3, .lushr, 1, false, 0, 0), (4, .ldc2_w 314, 3, false, 0, 0), (7, .land, 1, false, 0, 0), (8, .lsub, 1, false, 0, 0), (9, .lstore_n 0, 1, false, 0, 0), (10, .lload_n 0, 1, false, 0, 0), (11, .ldc2_w 316, 3, false, 0, 0), (14, .land, 1, false, 0, 0), (15, .lload_n 0, 1, false, 0, 0), (16, .iconst 2, 1, false, 2, 0), (17, .lushr, 1, false, 0, 0), (18, .ldc2_w 316, 3, false, 0, 0), (21, .land, 1, false, 0, 0), (22, .ladd, 1, false, 0, 0), (23, .lstore_n 0, 1, false, 0, 0), (24, .lload_n 0, 1, false, 0, 0), (25, .lload_n 0, 1, false, 0, 0), (26, .iconst 4, 1, false, 4, 0), (27, .lushr, 1, false, 0, 0), (28, .ladd, 1, false, 0, 0), (29, .ldc2_w 318, 3, false, 0, 0), (32, .land, 1, false, 0, 0), (33, .lstore_n 0, 1, false, 0, 0), (34, .lload_n 0, 1, false, 0, 0), (35, .lload_n 0, 1, false, 0, 0), (36, .bipush 8, 2, false, 8, 0), (38, .lushr, 1, false, 0, 0), (39, .ladd, 1, false, 0, 0), (40, .lstore_n 0, 1, false, 0, 0), (41, .lload_n 0, 1, false, 0, 0), (42, .lload_n 0, 1, false, 0, 0), (43, .bipush 16, 2, false, 16, 0), (45, .lushr, 1, false, 0, 0), (46, .ladd, 1, false, 0, 0), (47, .lstore_n 0, 1, false, 0, 0), (48, .lload_n 0, 1, false, 0, 0), (49, .lload_n 0, 1, false, 0, 0), (50, .bipush 32, 2, false, 32, 0), (52, .lushr, 1, false, 0, 0), (53, .ladd, 1, false, 0, 0), (54, .lstore_n 0, 1, false, 0, 0), (55, .lload_n 0, 1, false, 0, 0), (56, .l2i, 1, false, 0, 0), (57, .bipush 127, 2, false, 127, 0), (59, .iand, 1, false, 0, 0), (60, .ireturn, 1, false, 0, 0)]
set_option maxRecDepth 100000 in
theorem ck_J13_bitCount_95d88 : ip_chk cJ13_bitCount_95d88 tb_J13_bitCount_95d88 = true := by decide +kernel
def tb_J9_max_7cf53 : List ip_I := [(0, .iload_n 0, 1, false, 0, 0), (1, .iload_n 1, 1, false, 0, 0), (2, .if_icmp .lt 7, 3, false, 0, 9), (5, .iload_n 0, 1, false, 0, 0), (6, .goto 4, 3, false, 0, 10), (9, .iload_n 1, 1, false, 0, 0), (10, .ireturn, 1, false, 0, 0)]
set_option maxRecDepth 100000 in
theorem ck_J9_max_7cf53 : ip_chk cJ9_max_7cf53 tb_J9_max_7cf53 = true := by decide +kernel
def tb_J9_min_7cf53 : List ip_I := [(0, .iload_n 0, 1, false, 0, 0), (1, .iload_n 1, 1, false, 0, 0), (2, .if_icmp .gt 7, 3, false, 0, 9), (5, .iload_n 0, 1, false, 0, 0), (6, .goto 4, 3, false, 0, 10), (9, .iload_n 1, 1, false, 0, 0), (10, .ireturn, 1, false, 0, 0)]
set_option maxRecDepth 100000 in
theorem ck_J9_min_7cf53 : ip_chk cJ9_min_7cf53 tb_J9_min_7cf53 = true := by decide +kernel
def tb_J7_fill_53178 : List ip_I := [(0, .iconst 0, 1, false, 0, 0), (1, .istore_n 2, 1, false, 0, 0), (2, .aload_n 0, 1, false, 0, 0), (3, .arraylength, 1, false, 0, 0), (4, .istore_n 3, 1, false, 0, 0), (5, .iload_n 2, 1, true, 0, 0), (6, .iload_n 3, 1, false, 0, 0), (7, .if_icmp .ge 13, 3, false, 0, 20), (10, .aload_n 0, 1, false, 0, 0), (11, .iload_n 2, 1, false, 0, 0), (12, .iload_n 1, 1, false, 0, 0), (13, .iastore, 1, false, 0, 0), (14, .iinc 2 1, 3, false, 1, 0), (17, .goto (-12), 3, false, 0, 5), (20, .return_, 1, false, 0, 0)]
set_option maxRecDepth 100000 in
theorem ck_J7_fill_53178 : ip_chk cJ7_fill_53178 tb_J7_fill_53178 = true := by decide +kernel
end
section
/-! ===== the system's state: hpC, its cells; tc: TRACE, S: its numbers, G: its rows ===== -/
abbrev rf_A (f : Nat → Option Nat) : ip_A := .inr (.inr (.inr (.inr f)))
def hpC (tc : Int32) (S : Nat → Nat) (G : Nat → Nat → Int32) : ip_H := [
  .inr (6, [.ref 1, .ref 10, .ref 16, .ref 20, .ref 23, .int tc, .int (nI (S 0))]),
  .inl (2, 4, rf_A (fun k => some (2 + 2 * k))),
  .inr (4, [.int (nI (S 10)), .int (nI (S 20)), .int (nI (S 30)), .ref 3]), .inl (0, 60, .inl (G 0)),
  .inr (4, [.int (nI (S 11)), .int (nI (S 21)), .int (nI (S 31)), .ref 5]), .inl (0, 60, .inl (G 1)),
  .inr (4, [.int (nI (S 12)), .int (nI (S 22)), .int (nI (S 32)), .ref 7]), .inl (0, 60, .inl (G 2)),
  .inr (4, [.int (nI (S 13)), .int (nI (S 23)), .int (nI (S 33)), .ref 9]), .inl (0, 60, .inl (G 3)),
  .inr (0, [.int (nI (S 1)), .int (nI (S 2)), .int (nI (S 3)), .ref 11]),
  .inl (3, 4, rf_A (fun k => some (12 + k))),
  .inr (1, [.int (nI (S 40)), .int (nI (S 50)), .int (nI (S 60))]),
  .inr (1, [.int (nI (S 41)), .int (nI (S 51)), .int (nI (S 61))]),
  .inr (1, [.int (nI (S 42)), .int (nI (S 52)), .int (nI (S 62))]),
  .inr (1, [.int (nI (S 43)), .int (nI (S 53)), .int (nI (S 63))]),
  .inr (3, [.int (nI (S 4)), .ref 17, .ref 18, .ref 19]), .inl (0, 8, .inl (G 4)), .inl (0, 8, .inl (G 5)), .inl (1, 8, .inl (G 6)),
  .inr (5, [.int (nI (S 5)), .ref 21, .ref 22]), .inl (0, 20, .inl (G 7)), .inl (0, 20, .inl (G 8)),
  .inr (2, [.ref 24, .ref 25, .ref 26, .ref 27, .int (nI (S 6)), .int (nI (S 7)), .int (nI (S 8))]), .inl (0, 96, .inl (G 9)), .inl (0, 6, .inl (G 10)), .inl (0, 4, .inl (G 11)), .inl (0, 4, .inl (G 12))]
def ip_bi (b : Bool) : Int32 := if b then 1 else 0
theorem ip_bt {b : Bool} {X Y : Prop} (h0 : b = false → X) (h1 : b = true → Y) : (ip_bi b = 0 → X) ∧ (¬ ip_bi b = 0 → Y) := by
  cases b
  · exact ⟨fun _ => h0 rfl, fun h => absurd rfl h⟩
  · exact ⟨fun h => absurd h (by decide), fun _ => h1 rfl⟩
theorem ip_bn {b : Bool} {X Y : Prop} (h1 : b = true → X) (h0 : b = false → Y) : (¬ ip_bi b = 0 → X) ∧ (ip_bi b = 0 → Y) := by
  cases b
  · exact ⟨fun h => absurd rfl h, fun _ => h0 rfl⟩
  · exact ⟨fun _ => h1 rfl, fun h => absurd h (by decide)⟩
theorem ip_bnar (b : Bool) : narrow .boolean (.int (ip_bi b)) = .int (ip_bi b) := by cases b <;> rfl
theorem ip_b01 (b : Bool) : ip_bi b = 0 ∨ ip_bi b = 1 := by cases b <;> simp [ip_bi]
end
section
/-! plain facts on numbers and arrays, to paste: each family by itself; over the kit's rows on nI and upd -/
/-! ===== order of ints, in all its forms, and through longs ===== -/
theorem fa_lt (a b : Int32) : a < b ↔ a.toInt < b.toInt := Int32.lt_iff_toInt_lt
theorem fa_le (a b : Int32) : a ≤ b ↔ a.toInt ≤ b.toInt := Int32.le_iff_toInt_le
theorem fa_eq (a b : Int32) : a = b ↔ a.toInt = b.toInt := Int32.toInt_inj.symm
theorem fa_lt64 (a b : Int64) : a < b ↔ a.toInt < b.toInt := Int64.lt_iff_toInt_lt
theorem fa_le64 (a b : Int64) : a ≤ b ↔ a.toInt ≤ b.toInt := Int64.le_iff_toInt_le
theorem fa_eq64 (a b : Int64) : a = b ↔ a.toInt = b.toInt := Int64.toInt_inj.symm
/-- a comparison of two ints taken as longs -/
theorem fa_wide_lt (a b : Int32) : a.toInt64 < b.toInt64 ↔ a < b := by rw [fa_lt64, fa_lt, Int32.toInt_toInt64, Int32.toInt_toInt64]
theorem fa_wide_le (a b : Int32) : a.toInt64 ≤ b.toInt64 ↔ a ≤ b := by rw [fa_le64, fa_le, Int32.toInt_toInt64, Int32.toInt_toInt64]
theorem fa_wide_eq (a b : Int32) : a.toInt64 = b.toInt64 ↔ a = b := by rw [fa_eq64, fa_eq, Int32.toInt_toInt64, Int32.toInt_toInt64]
/-- one strict comparison gives all the others -/
theorem fa_of_lt {a b : Int32} (h : a < b) : a ≤ b ∧ ¬ b ≤ a ∧ ¬ b < a ∧ a ≠ b ∧ b ≠ a := by
  rw [fa_lt] at h
  refine ⟨?_, ?_, ?_, ?_, ?_⟩
  · rw [fa_le]; omega
  · rw [fa_le]; omega
  · rw [fa_lt]; omega
  · intro e; rw [fa_eq] at e; omega
  · intro e; rw [fa_eq] at e; omega
theorem fa_of_nlt {a b : Int32} (h : ¬ a < b) : b ≤ a := by
  rw [fa_lt] at h
  rw [fa_le]
  omega
theorem fa_of_nle {a b : Int32} (h : ¬ a ≤ b) : b < a := by
  rw [fa_le] at h
  rw [fa_lt]
  omega
theorem fa_le_ne {a b : Int32} (h : a ≤ b) (h2 : a ≠ b) : a < b := by
  rw [fa_le] at h
  rw [fa_lt]
  have h3 : a.toInt ≠ b.toInt := fun e => h2 ((fa_eq a b).mpr e)
  omega
theorem fa_three (a b : Int32) : a < b ∨ a = b ∨ b < a := by
  rw [fa_lt, fa_lt, fa_eq]
  omega
theorem fa_trans {a b c : Int32} (h : a < b) (h2 : b ≤ c) : a < c := by
  rw [fa_lt] at *
  rw [fa_le] at h2
  omega
/-! ===== small literals as numbers ===== -/
theorem fa_lit (n : Nat) : (OfNat.ofNat n : Int32) = nI n := rfl
theorem fa_litL (n : Nat) : (OfNat.ofNat n : Int64) = lN n := rfl
/-! ===== bits of a number: 'or', masks, one bit ===== -/
theorem fa_and (a b : Nat) : nI a &&& nI b = nI (a &&& b) := by
  apply Int32.toBitVec_inj.1
  show BitVec.ofNat 32 a &&& BitVec.ofNat 32 b = BitVec.ofNat 32 (a &&& b)
  apply BitVec.eq_of_getLsbD_eq
  intro i hi
  simp [hi]
theorem fa_or (a b : Nat) : nI a ||| nI b = nI (a ||| b) := by
  apply Int32.toBitVec_inj.1
  show BitVec.ofNat 32 a ||| BitVec.ofNat 32 b = BitVec.ofNat 32 (a ||| b)
  apply BitVec.eq_of_getLsbD_eq
  intro i hi
  simp [hi]
/-- a remainder by a power of two, as a mask -/
theorem fa_mask (n k : Nat) : nI n &&& nI (2 ^ k - 1) = nI (n % 2 ^ k) := by rw [fa_and, Nat.and_two_pow_sub_one_eq_mod]
/-- 'or' of a high part and a low one that don't meet is their sum -/
theorem fa_or_sum {a k : Nat} (b : Nat) (h : a < 2 ^ k) : nI (2 ^ k * b) ||| nI a = nI (2 ^ k * b + a) := by rw [fa_or, Nat.two_pow_add_eq_or_of_lt h]
/-- one bit, by 'and' with a power of two -/
theorem fa_bit {n j : Nat} (hj : j < 31) : nI n &&& nI (2 ^ j) = 0 ↔ n.testBit j = false := by
  have h2 : (2 : Nat) ^ j < 2 ^ 31 := Nat.pow_lt_pow_right (by decide) hj
  have hle : n &&& 2 ^ j ≤ 2 ^ j := Nat.and_le_right
  have e : n &&& 2 ^ j = 0 ↔ n.testBit j = false := by
    constructor
    · intro h
      have h1 : (n &&& 2 ^ j).testBit j = false := by rw [h]; simp
      rw [Nat.testBit_and] at h1
      first | simpa using h1 | simpa [Nat.testBit_two_pow_self] using h1 | simpa [Nat.testBit_two_pow] using h1
    · intro h
      apply Nat.eq_of_testBit_eq
      intro i
      rw [Nat.testBit_and]
      by_cases hi : j = i
      · subst hi; simp [h]
      · first | (simp [Nat.testBit_two_pow, hi]; done) | (simp [Nat.testBit_two_pow_of_ne hi]; done)
  rw [fa_and]
  constructor
  · intro h
    apply e.mp
    rcases Nat.eq_zero_or_pos (n &&& 2 ^ j) with z | z
    · exact z
    · exact absurd h (nI_ne0 z (Nat.lt_of_le_of_lt hle h2))
  · intro h
    rw [e.mpr h]; exact nI_0
/-- a remainder by a power of two of a number that isn't negative, as Java divides -/
theorem fa_rem {a k : Nat} (ha : a < 2 ^ 31) (hk : k < 31) : nI a - nI a / nI (2 ^ k) * nI (2 ^ k) = nI (a % 2 ^ k) := pk_rem ha (Nat.two_pow_pos k) (Nat.pow_lt_pow_right (by decide) hk)
/-! ===== cuts to a byte, a short ===== -/
theorem fa_byte_xor (x y : Int32) : (x ^^^ y).toInt8 = x.toInt8 ^^^ y.toInt8 := by
  apply Int8.toBitVec_inj.1
  apply BitVec.eq_of_getLsbD_eq
  intro i hi
  first | (simp [hi]; done) | (simp [hi, BitVec.getLsbD_setWidth, BitVec.getLsbD_signExtend]; done)
theorem fa_short_xor (x y : Int32) : (x ^^^ y).toInt16 = x.toInt16 ^^^ y.toInt16 := by
  apply Int16.toBitVec_inj.1
  apply BitVec.eq_of_getLsbD_eq
  intro i hi
  first | (simp [hi]; done) | (simp [hi, BitVec.getLsbD_setWidth, BitVec.getLsbD_signExtend]; done)
/-- the cut to a byte sees the low byte alone -/
theorem fa_byte_low (x : Int32) : (x &&& 255).toInt8 = x.toInt8 := by
  apply Int8.toBitVec_inj.1
  apply BitVec.eq_of_getLsbD_eq
  intro i hi
  have h2 : (255 : Int32).toBitVec.getLsbD i = true := by
    have : ∀ j : Fin 8, (255 : Int32).toBitVec.getLsbD j.val = true := by decide +kernel
    exact this ⟨i, hi⟩
  have h4 : (x &&& 255).toBitVec.getLsbD i = x.toBitVec.getLsbD i := by
    show (x.toBitVec &&& (255 : Int32).toBitVec).getLsbD i = _
    rw [BitVec.getLsbD_and, h2, Bool.and_true]
  have h3 : i < 32 := by omega
  first
    | (show (((x &&& 255).toBitVec).signExtend 8).getLsbD i = (x.toBitVec.signExtend 8).getLsbD i; rw [BitVec.getLsbD_signExtend, BitVec.getLsbD_signExtend, if_pos h3, if_pos h3, h4])
    | (show (((x &&& 255).toBitVec).setWidth 8).getLsbD i = (x.toBitVec.setWidth 8).getLsbD i; rw [BitVec.getLsbD_setWidth, BitVec.getLsbD_setWidth, h4])
    | (simp [hi, h3, h4]; done)
theorem fa_short_low (x : Int32) : (x &&& 65535).toInt16 = x.toInt16 := by
  apply Int16.toBitVec_inj.1
  apply BitVec.eq_of_getLsbD_eq
  intro i hi
  have h2 : (65535 : Int32).toBitVec.getLsbD i = true := by
    have : ∀ j : Fin 16, (65535 : Int32).toBitVec.getLsbD j.val = true := by decide +kernel
    exact this ⟨i, hi⟩
  have h4 : (x &&& 65535).toBitVec.getLsbD i = x.toBitVec.getLsbD i := by
    show (x.toBitVec &&& (65535 : Int32).toBitVec).getLsbD i = _
    rw [BitVec.getLsbD_and, h2, Bool.and_true]
  have h3 : i < 32 := by omega
  first
    | (show (((x &&& 65535).toBitVec).signExtend 16).getLsbD i = (x.toBitVec.signExtend 16).getLsbD i; rw [BitVec.getLsbD_signExtend, BitVec.getLsbD_signExtend, if_pos h3, if_pos h3, h4])
    | (show (((x &&& 65535).toBitVec).setWidth 16).getLsbD i = (x.toBitVec.setWidth 16).getLsbD i; rw [BitVec.getLsbD_setWidth, BitVec.getLsbD_setWidth, h4])
    | (simp [hi, h3, h4]; done)
/-- a small number is its own byte, its own short -/
theorem fa_byte_small {n : Nat} (h : n < 128) : (nI n).toInt8.toInt32 = nI n := by
  have : ∀ j : Fin 128, (nI j.val).toInt8.toInt32 = nI j.val := by decide +kernel
  exact this ⟨n, h⟩
/-! ===== absolute difference ===== -/
theorem fa_absdiff {a b : Nat} (ha : a < 2 ^ 31) (hb : b < 2 ^ 31) : (if nI a < nI b then nI b - nI a else nI a - nI b) = nI (if a < b then b - a else a - b) := by
  by_cases h : a < b
  · rw [if_pos (nI_lt h hb), if_pos h]
    exact pk_sub (Nat.le_of_lt h)
  · rw [if_neg (nI_nlt (Nat.le_of_not_lt h) ha), if_neg h]
    exact pk_sub (Nat.le_of_not_lt h)
/-! ===== an array behind i stores, a conditional store, a row copied ===== -/
/-- f where k < i, what stood there else -/
def fa_fill {α : Type} (f g : Nat → α) (i : Nat) : Nat → α := fun k => if k < i then f k else g k
theorem fa_fill_0 {α : Type} (f g : Nat → α) : fa_fill f g 0 = g := funext fun k => if_neg (Nat.not_lt_zero k)
theorem fa_fill_in {α : Type} {f g : Nat → α} {i k : Nat} (h : k < i) : fa_fill f g i k = f k := if_pos h
theorem fa_fill_out {α : Type} {f g : Nat → α} {i k : Nat} (h : i ≤ k) : fa_fill f g i k = g k := if_neg (Nat.not_lt.mpr h)
theorem fa_fill_succ (f g : Nat → Int32) (i : Nat) : upd (fa_fill f g i) i (f i) = fa_fill f g (i + 1) := by
  funext k
  by_cases e : k = i
  · subst e
    rw [pk_us]
    exact (if_pos (Nat.lt_succ_self k)).symm
  · rw [pk_un e]
    by_cases h : k < i
    · rw [fa_fill_in h, fa_fill_in (Nat.lt_succ_of_lt h)]
    · rw [fa_fill_out (Nat.le_of_not_lt h), fa_fill_out (by omega)]
/-- a store that changes nothing -/
theorem fa_upd_same {f : Nat → Int32} {i : Nat} {x : Int32} (h : f i = x) : upd f i x = f := by
  funext k
  by_cases e : k = i
  · subst e
    rw [pk_us, h]
  · rw [pk_un e]
/-- a store under a condition, told as one -/
theorem fa_upd_if (c : Prop) [Decidable c] (f : Nat → Int32) (i : Nat) (x : Int32) : (if c then upd f i x else f) = upd f i (if c then x else f i) := by
  by_cases h : c
  · rw [if_pos h, if_pos h]
  · rw [if_neg h, if_neg h, fa_upd_same rfl]
/-- two stores at one place, at two -/
theorem fa_upd_twice (f : Nat → Int32) (i : Nat) (x y : Int32) : upd (upd f i x) i y = upd f i y := by
  funext k
  by_cases e : k = i
  · subst e
    rw [pk_us, pk_us]
  · rw [pk_un e, pk_un e, pk_un e]
theorem fa_upd_swap (f : Nat → Int32) {i j : Nat} (h : i ≠ j) (x y : Int32) : upd (upd f i x) j y = upd (upd f j y) i x := by
  funext k
  by_cases e : k = i
  · subst e
    rw [pk_un h, pk_us, pk_us]
  · by_cases e2 : k = j
    · subst e2
      rw [pk_us, pk_un e, pk_us]
    · rw [pk_un e2, pk_un e, pk_un e, pk_un e2]
/-! ===== the first index with a property; a count ===== -/
/-- the first k < n with p k, n if there is none -/
def fa_first (p : Nat → Bool) : Nat → Nat
  | 0 => 0
  | n + 1 => if fa_first p n < n then fa_first p n else if p n then n else n + 1
theorem fa_first_le (p : Nat → Bool) : ∀ n, fa_first p n ≤ n
  | 0 => Nat.le_refl 0
  | n + 1 => by
    have ih := fa_first_le p n
    unfold fa_first
    split
    · omega
    · split
      · omega
      · omega
theorem fa_first_no (p : Nat → Bool) : ∀ n k, k < fa_first p n → p k = false
  | 0, k, h => absurd h (Nat.not_lt_zero k)
  | n + 1, k, h => by
    have ih := fa_first_no p n
    have hl := fa_first_le p n
    unfold fa_first at h
    split at h
    · exact ih k h
    · rename_i h1
      split at h
      · exact ih k (by omega)
      · rename_i h2
        by_cases e : k = n
        · subst e
          exact Bool.eq_false_iff.mpr h2
        · exact ih k (by omega)
theorem fa_first_yes (p : Nat → Bool) : ∀ n, fa_first p n < n → p (fa_first p n) = true
  | 0, h => absurd h (Nat.not_lt_zero _)
  | n + 1, h => by
    have ih := fa_first_yes p n
    have hl := fa_first_le p n
    unfold fa_first at h ⊢
    split at h
    · rename_i h1
      rw [if_pos h1]
      exact ih h1
    · rename_i h1
      rw [if_neg h1]
      split at h
      · rename_i h2
        rw [if_pos h2]
        exact h2
      · omega
/-- how many k < n have p k -/
def fa_cnt (p : Nat → Bool) : Nat → Nat
  | 0 => 0
  | n + 1 => fa_cnt p n + if p n then 1 else 0
theorem fa_cnt_le (p : Nat → Bool) : ∀ n, fa_cnt p n ≤ n
  | 0 => Nat.le_refl 0
  | n + 1 => by
    have ih := fa_cnt_le p n
    unfold fa_cnt
    split
    · omega
    · omega
theorem fa_cnt_yes {p : Nat → Bool} {n : Nat} (h : p n = true) : fa_cnt p (n + 1) = fa_cnt p n + 1 := by rw [fa_cnt, if_pos h]
theorem fa_cnt_no {p : Nat → Bool} {n : Nat} (h : p n = false) : fa_cnt p (n + 1) = fa_cnt p n := by rw [fa_cnt, if_neg (by rw [h]; decide)]; rfl
theorem fa_cnt_cong {p q : Nat → Bool} : ∀ {n : Nat}, (∀ k, k < n → p k = q k) → fa_cnt p n = fa_cnt q n
  | 0, _ => rfl
  | n + 1, h => by rw [fa_cnt, fa_cnt, fa_cnt_cong (fun k hk => h k (Nat.lt_succ_of_lt hk)), h n (Nat.lt_succ_self n)]
/-! ===== an answer carried into a post; a branch on a boolean answer ===== -/
theorem fa_post {α : Type} {P : α → Prop} {x y : α} (h : x = y) (hp : P y) : P x := h ▸ hp
theorem fa_post2 {α β : Type} {P : α → β → Prop} {x y : α} {u v : β} (h : x = y) (h2 : u = v) (hp : P y v) : P x u := h ▸ h2 ▸ hp
theorem fa_bool {r : Int32} {b : Bool} (h : r = if b then 1 else 0) : (r = 0 ↔ b = false) ∧ (¬ r = 0 ↔ b = true) := by
  subst h
  cases b
  · exact ⟨⟨fun _ => rfl, fun _ => rfl⟩, ⟨fun h => absurd rfl h, fun h => absurd h (by decide)⟩⟩
  · exact ⟨⟨fun h => absurd h (by decide), fun h => absurd h (by decide)⟩, ⟨fun _ => rfl, fun _ => by decide⟩⟩
/-- a boolean's narrowing changes nothing -/
theorem fa_bool_and {r : Int32} (h : r = 0 ∨ r = 1) : r &&& 1 = r := by
  rcases h with rfl | rfl
  · decide
  · decide
theorem fa_bool_prop {c : Prop} [Decidable c] {r : Int32} (h : r = if c then 1 else 0) : (r = 0 ↔ ¬ c) ∧ (¬ r = 0 ↔ c) := by
  subst h
  by_cases hc : c
  · rw [if_pos hc]
    exact ⟨⟨fun h => absurd h (by decide), fun h => absurd hc h⟩, ⟨fun _ => hc, fun _ => by decide⟩⟩
  · rw [if_neg hc]
    exact ⟨⟨fun _ => hc, fun _ => rfl⟩, ⟨fun h => absurd rfl h, fun h => absurd h hc⟩⟩
/-! plain facts to paste, each family by itself; over the kit's nI, lN and upd -/
/-! ===== drawers: more things than places ===== -/
theorem fb_holes : ∀ (m n : Nat) (f : Nat → Nat), (∀ i, i < n → f i < m) → (∀ i j, i < j → j < n → f i ≠ f j) → n ≤ m := by
  intro m
  induction m with
  | zero =>
    intro n f h1 _
    rcases Nat.eq_zero_or_pos n with h | h
    · omega
    · exact absurd (h1 0 h) (Nat.not_lt_zero _)
  | succ m ih =>
    intro n f h1 h2
    by_cases hx : ∃ i, i < n ∧ f i = m
    · obtain ⟨a, ha, hfa⟩ := hx
      have hg := ih (n - 1) (fun i => if i < a then f i else f (i + 1)) (by
        intro i hi
        by_cases q : i < a
        · simp only [if_pos q]
          have b1 := h1 i (by omega)
          have b2 := h2 i a q ha
          omega
        · simp only [if_neg q]
          have b1 := h1 (i + 1) (by omega)
          have b2 := h2 a (i + 1) (by omega) (by omega)
          omega) (by
        intro i j hij hj
        by_cases q : i < a
        · by_cases r : j < a
          · simp only [if_pos q, if_pos r]
            exact h2 i j hij (by omega)
          · simp only [if_pos q, if_neg r]
            exact h2 i (j + 1) (by omega) (by omega)
        · have r : ¬ j < a := by omega
          simp only [if_neg q, if_neg r]
          exact h2 (i + 1) (j + 1) (by omega) (by omega))
      omega
    · have hg := ih n f (fun i hi => by
        have b1 := h1 i hi
        have b2 : f i ≠ m := fun e => hx ⟨i, hi, e⟩
        omega) h2
      omega
/-- two of them in one place -/
theorem fb_twice {m n : Nat} {f : Nat → Nat} (h : ∀ i, i < n → f i < m) (hm : m < n) : ∃ i j, i < j ∧ j < n ∧ f i = f j := by
  refine Classical.byContradiction fun hx => ?_
  have := fb_holes m n f h (fun i j hij hj e => hx ⟨i, j, hij, hj, e⟩)
  omega
/-- as many as places, none twice: each place is taken -/
theorem fb_onto {n : Nat} {f : Nat → Nat} (h : ∀ i, i < n → f i < n) (h2 : ∀ i j, i < j → j < n → f i ≠ f j) {y : Nat} (hy : y < n) : ∃ i, i < n ∧ f i = y := by
  refine Classical.byContradiction fun hx => ?_
  have hne : ∀ i, i < n → f i ≠ y := fun i hi e => hx ⟨i, hi, e⟩
  have := fb_holes (n - 1) n (fun i => if f i < y then f i else f i - 1) (by
    intro i hi
    have b1 := h i hi
    have b2 := hne i hi
    by_cases q : f i < y
    · simp only [if_pos q]; omega
    · simp only [if_neg q]; omega) (by
    intro i j hij hj
    have b1 := hne i (by omega)
    have b2 := hne j hj
    have b3 := h2 i j hij hj
    by_cases q : f i < y
    · by_cases r : f j < y
      · simp only [if_pos q, if_pos r]; exact b3
      · simp only [if_pos q, if_neg r]; omega
    · by_cases r : f j < y
      · simp only [if_neg q, if_pos r]; omega
      · simp only [if_neg q, if_neg r]; omega)
  omega
/-! ===== how many places have a property ===== -/
def fb_ct (p : Nat → Bool) : Nat → Nat
  | 0 => 0
  | n + 1 => fb_ct p n + (if p n then 1 else 0)
theorem fb_ct_succ (p : Nat → Bool) (n : Nat) : fb_ct p (n + 1) = fb_ct p n + (if p n then 1 else 0) := rfl
theorem fb_ct_le (p : Nat → Bool) : ∀ n, fb_ct p n ≤ n
  | 0 => Nat.le_refl _
  | n + 1 => by
    have h := fb_ct_le p n
    rw [fb_ct_succ]
    split <;> omega
theorem fb_ct_step (p : Nat → Bool) (m : Nat) : ∀ n, fb_ct p m ≤ fb_ct p (m + n)
  | 0 => Nat.le_refl _
  | n + 1 => by
    have h := fb_ct_step p m n
    show fb_ct p m ≤ fb_ct p (m + n + 1)
    rw [fb_ct_succ]
    omega
theorem fb_ct_mono (p : Nat → Bool) {m n : Nat} (h : m ≤ n) : fb_ct p m ≤ fb_ct p n := by
  have := fb_ct_step p m (n - m)
  rwa [Nat.add_sub_cancel' h] at this
theorem fb_ct_cong {p q : Nat → Bool} : ∀ {n : Nat}, (∀ k, k < n → p k = q k) → fb_ct p n = fb_ct q n
  | 0, _ => rfl
  | n + 1, h => by
    rw [fb_ct_succ, fb_ct_succ, fb_ct_cong (fun k hk => h k (by omega)), h n (by omega)]
/-- one place changed -/
theorem fb_ct_out (p : Nat → Bool) (b : Bool) {i n : Nat} (h : n ≤ i) : fb_ct (fun k => if k = i then b else p k) n = fb_ct p n :=
  fb_ct_cong fun k hk => if_neg (by omega)
theorem fb_ct_upd (p : Nat → Bool) (b : Bool) {i : Nat} : ∀ {n : Nat}, i < n → fb_ct (fun k => if k = i then b else p k) n + (if p i then 1 else 0) = fb_ct p n + (if b then 1 else 0)
  | 0, h => absurd h (Nat.not_lt_zero i)
  | n + 1, h => by
    rw [fb_ct_succ, fb_ct_succ]
    rcases Nat.lt_or_ge i n with q | q
    · have := fb_ct_upd p b q
      have e : (if n = i then b else p n) = p n := if_neg (by omega)
      rw [e]
      omega
    · have e : i = n := by omega
      subst e
      rw [fb_ct_out p b (Nat.le_refl _)]
      simp only [if_true]
      omega
theorem fb_ct_sub {p q : Nat → Bool} : ∀ {n : Nat}, (∀ k, k < n → p k = true → q k = true) → fb_ct p n ≤ fb_ct q n
  | 0, _ => Nat.le_refl _
  | n + 1, h => by
    have h1 := fb_ct_sub (n := n) (p := p) (q := q) (fun k hk => h k (by omega))
    have h2 := h n (by omega)
    rw [fb_ct_succ, fb_ct_succ]
    cases hp : p n <;> cases hq : q n <;> simp_all <;> omega
theorem fb_ct_or {p q : Nat → Bool} : ∀ {n : Nat}, (∀ k, k < n → ¬ (p k = true ∧ q k = true)) → fb_ct (fun k => p k || q k) n = fb_ct p n + fb_ct q n
  | 0, _ => rfl
  | n + 1, h => by
    have h1 := fb_ct_or (n := n) (p := p) (q := q) (fun k hk => h k (by omega))
    have h2 := h n (by omega)
    rw [fb_ct_succ, fb_ct_succ, fb_ct_succ, h1]
    cases hp : p n <;> cases hq : q n <;> simp_all <;> omega
theorem fb_ct_not (p : Nat → Bool) : ∀ n, fb_ct p n + fb_ct (fun k => !p k) n = n
  | 0 => rfl
  | n + 1 => by
    have h := fb_ct_not p n
    rw [fb_ct_succ, fb_ct_succ]
    cases p n <;> simp <;> omega
theorem fb_ct_split (p : Nat → Bool) (m : Nat) : ∀ n, fb_ct p (m + n) = fb_ct p m + fb_ct (fun k => p (m + k)) n
  | 0 => rfl
  | n + 1 => by
    have h := fb_ct_split p m n
    show fb_ct p (m + n + 1) = _
    rw [fb_ct_succ, fb_ct_succ, h, Nat.add_assoc]
theorem fb_ct_zero {p : Nat → Bool} : ∀ {n : Nat}, fb_ct p n = 0 ↔ ∀ k, k < n → p k = false
  | 0 => ⟨fun _ k hk => absurd hk (Nat.not_lt_zero k), fun _ => rfl⟩
  | n + 1 => by
    have h := fb_ct_zero (p := p) (n := n)
    rw [fb_ct_succ]
    constructor
    · intro e k hk
      have e1 : fb_ct p n = 0 := by omega
      rcases Nat.lt_or_ge k n with q | q
      · exact h.mp e1 k q
      · have ek : k = n := by omega
        subst ek
        cases hp : p k
        · rfl
        · simp [hp] at e
    · intro a
      rw [h.mpr (fun k hk => a k (by omega)), a n (by omega)]
      rfl
theorem fb_ct_pos {p : Nat → Bool} {n : Nat} : 0 < fb_ct p n ↔ ∃ k, k < n ∧ p k = true := by
  constructor
  · intro h
    refine Classical.byContradiction fun hx => ?_
    have := fb_ct_zero.mpr (fun k hk => by
      cases hp : p k
      · rfl
      · exact absurd ⟨k, hk, hp⟩ hx : ∀ k, k < n → p k = false)
    omega
  · rintro ⟨k, hk, hp⟩
    rcases Nat.eq_zero_or_pos (fb_ct p n) with e | e
    · have := fb_ct_zero.mp e k hk
      rw [this] at hp
      cases hp
    · exact e
theorem fb_ct_all {p : Nat → Bool} {n : Nat} : fb_ct p n = n ↔ ∀ k, k < n → p k = true := by
  have h := fb_ct_not p n
  constructor
  · intro e k hk
    have z : fb_ct (fun k => !p k) n = 0 := by omega
    have := fb_ct_zero.mp z k hk
    cases hp : p k
    · simp [hp] at this
    · rfl
  · intro a
    have z : fb_ct (fun k => !p k) n = 0 := fb_ct_zero.mpr (fun k hk => by simp [a k hk])
    omega
/-- the k-th place with the property -/
theorem fb_ct_kth {p : Nat → Bool} {k : Nat} : ∀ {n : Nat}, k < fb_ct p n → ∃ i, i < n ∧ p i = true ∧ fb_ct p i = k
  | 0, h => absurd h (Nat.not_lt_zero k)
  | n + 1, h => by
    rcases Nat.lt_or_ge k (fb_ct p n) with q | q
    · obtain ⟨i, h1, h2⟩ := fb_ct_kth q
      exact ⟨i, by omega, h2⟩
    · rw [fb_ct_succ] at h
      cases hp : p n
      · simp [hp] at h; omega
      · simp [hp] at h
        exact ⟨n, by omega, hp, by omega⟩
theorem fb_ct_kth_one {p : Nat → Bool} {i j : Nat} (hi : p i = true) (hj : p j = true) (e : fb_ct p i = fb_ct p j) : i = j := by
  have key : ∀ a b : Nat, a < b → p a = true → fb_ct p a < fb_ct p b := by
    intro a b hab ha
    have h := fb_ct_mono p (show a + 1 ≤ b from hab)
    rw [fb_ct_succ, ha] at h
    simp at h
    omega
  rcases Nat.lt_trichotomy i j with q | q | q
  · have := key i j q hi; omega
  · exact q
  · have := key j i q hj; omega
/-! ===== sums over a range: one place changed, parts, bounds ===== -/
def fb_sm (f : Nat → Nat) : Nat → Nat
  | 0 => 0
  | n + 1 => fb_sm f n + f n
theorem fb_sm_succ (f : Nat → Nat) (n : Nat) : fb_sm f (n + 1) = fb_sm f n + f n := rfl
theorem fb_sm_cong {f g : Nat → Nat} : ∀ {n : Nat}, (∀ k, k < n → f k = g k) → fb_sm f n = fb_sm g n
  | 0, _ => rfl
  | n + 1, h => by rw [fb_sm_succ, fb_sm_succ, fb_sm_cong (fun k hk => h k (by omega)), h n (by omega)]
theorem fb_sm_out (f : Nat → Nat) (v : Nat) {i n : Nat} (h : n ≤ i) : fb_sm (fun k => if k = i then v else f k) n = fb_sm f n :=
  fb_sm_cong fun k hk => if_neg (by omega)
theorem fb_sm_upd (f : Nat → Nat) (v : Nat) {i : Nat} : ∀ {n : Nat}, i < n → fb_sm (fun k => if k = i then v else f k) n + f i = fb_sm f n + v
  | 0, h => absurd h (Nat.not_lt_zero i)
  | n + 1, h => by
    rw [fb_sm_succ, fb_sm_succ]
    rcases Nat.lt_or_ge i n with q | q
    · have := fb_sm_upd f v q
      have e : (if n = i then v else f n) = f n := if_neg (by omega)
      rw [e]
      omega
    · have e : i = n := by omega
      subst e
      rw [fb_sm_out f v (Nat.le_refl _)]
      simp only [if_true]
      omega
theorem fb_sm_add (f g : Nat → Nat) : ∀ n, fb_sm (fun k => f k + g k) n = fb_sm f n + fb_sm g n
  | 0 => rfl
  | n + 1 => by
    have h := fb_sm_add f g n
    rw [fb_sm_succ, fb_sm_succ, fb_sm_succ, h]
    omega
theorem fb_sm_le {f g : Nat → Nat} : ∀ {n : Nat}, (∀ k, k < n → f k ≤ g k) → fb_sm f n ≤ fb_sm g n
  | 0, _ => Nat.le_refl _
  | n + 1, h => by
    have h1 := fb_sm_le (n := n) (f := f) (g := g) (fun k hk => h k (by omega))
    have h2 := h n (by omega)
    rw [fb_sm_succ, fb_sm_succ]
    omega
theorem fb_sm_const (c : Nat) : ∀ n, fb_sm (fun _ => c) n = n * c
  | 0 => by rw [Nat.zero_mul]; rfl
  | n + 1 => by rw [fb_sm_succ, fb_sm_const c n, Nat.succ_mul]
theorem fb_sm_bound {f : Nat → Nat} {c n : Nat} (h : ∀ k, k < n → f k ≤ c) : fb_sm f n ≤ n * c := by
  rw [← fb_sm_const c n]
  exact fb_sm_le h
theorem fb_sm_mono (f : Nat → Nat) (m : Nat) : ∀ n, fb_sm f m ≤ fb_sm f (m + n)
  | 0 => Nat.le_refl _
  | n + 1 => by
    have h := fb_sm_mono f m n
    show fb_sm f m ≤ fb_sm f (m + n + 1)
    rw [fb_sm_succ]
    omega
theorem fb_sm_part (f : Nat → Nat) {i n : Nat} (h : i < n) : fb_sm f i + f i ≤ fb_sm f n := by
  have := fb_sm_mono f (i + 1) (n - (i + 1))
  rw [fb_sm_succ, show i + 1 + (n - (i + 1)) = n by omega] at this
  exact this
theorem fb_sm_split (f : Nat → Nat) (m : Nat) : ∀ n, fb_sm f (m + n) = fb_sm f m + fb_sm (fun k => f (m + k)) n
  | 0 => rfl
  | n + 1 => by
    have h := fb_sm_split f m n
    show fb_sm f (m + n + 1) = _
    rw [fb_sm_succ, fb_sm_succ, h, Nat.add_assoc]
theorem fb_sm_zero {f : Nat → Nat} {n : Nat} (h : fb_sm f n = 0) : ∀ k, k < n → f k = 0 := fun k hk => by
  have := fb_sm_part f hk
  omega
/-- the same over whole numbers -/
def fb_si (f : Nat → Int) : Nat → Int
  | 0 => 0
  | n + 1 => fb_si f n + f n
theorem fb_si_succ (f : Nat → Int) (n : Nat) : fb_si f (n + 1) = fb_si f n + f n := rfl
theorem fb_si_cong {f g : Nat → Int} : ∀ {n : Nat}, (∀ k, k < n → f k = g k) → fb_si f n = fb_si g n
  | 0, _ => rfl
  | n + 1, h => by rw [fb_si_succ, fb_si_succ, fb_si_cong (fun k hk => h k (by omega)), h n (by omega)]
theorem fb_si_out (f : Nat → Int) (v : Int) {i n : Nat} (h : n ≤ i) : fb_si (fun k => if k = i then v else f k) n = fb_si f n :=
  fb_si_cong fun k hk => if_neg (by omega)
theorem fb_si_upd (f : Nat → Int) (v : Int) {i : Nat} : ∀ {n : Nat}, i < n → fb_si (fun k => if k = i then v else f k) n = fb_si f n - f i + v
  | 0, h => absurd h (Nat.not_lt_zero i)
  | n + 1, h => by
    rw [fb_si_succ, fb_si_succ]
    rcases Nat.lt_or_ge i n with q | q
    · have := fb_si_upd f v q
      have e : (if n = i then v else f n) = f n := if_neg (by omega)
      rw [e]
      omega
    · have e : i = n := by omega
      subst e
      rw [fb_si_out f v (Nat.le_refl _)]
      simp only [if_true]
      omega
theorem fb_si_add (f g : Nat → Int) : ∀ n, fb_si (fun k => f k + g k) n = fb_si f n + fb_si g n
  | 0 => rfl
  | n + 1 => by
    have h := fb_si_add f g n
    rw [fb_si_succ, fb_si_succ, fb_si_succ, h]
    omega
theorem fb_si_sub (f g : Nat → Int) : ∀ n, fb_si (fun k => f k - g k) n = fb_si f n - fb_si g n
  | 0 => rfl
  | n + 1 => by
    have h := fb_si_sub f g n
    rw [fb_si_succ, fb_si_succ, fb_si_succ, h]
    omega
theorem fb_si_mul (c : Int) (f : Nat → Int) : ∀ n, fb_si (fun k => c * f k) n = c * fb_si f n
  | 0 => (Int.mul_zero c).symm
  | n + 1 => by
    have h := fb_si_mul c f n
    rw [fb_si_succ, fb_si_succ, h, Int.mul_add]
theorem fb_si_split (f : Nat → Int) (m : Nat) : ∀ n, fb_si f (m + n) = fb_si f m + fb_si (fun k => f (m + k)) n
  | 0 => (Int.add_zero _).symm
  | n + 1 => by
    have h := fb_si_split f m n
    show fb_si f (m + n + 1) = _
    rw [fb_si_succ, fb_si_succ, h, Int.add_assoc]
theorem fb_si_nat (f : Nat → Nat) : ∀ n, fb_si (fun k => (f k : Int)) n = (fb_sm f n : Int)
  | 0 => rfl
  | n + 1 => by
    have h := fb_si_nat f n
    rw [fb_si_succ, fb_sm_succ, h]
    omega
theorem fb_si_bound {f : Nat → Int} {c : Int} (hc : 0 ≤ c) : ∀ {n : Nat}, (∀ k, k < n → -c ≤ f k ∧ f k ≤ c) → -(n * c) ≤ fb_si f n ∧ fb_si f n ≤ n * c
  | 0, _ => by simp [fb_si]
  | n + 1, h => by
    have h1 := fb_si_bound (n := n) (f := f) hc (fun k hk => h k (by omega))
    have h2 := h n (by omega)
    have e : ((n + 1 : Nat) : Int) * c = n * c + c := by rw [Int.natCast_add, Int.add_mul]; simp
    rw [fb_si_succ, e]
    omega
/-! ===== bits of a long that isn't negative ===== -/
theorem fb_andL (a b : Nat) : lN a &&& lN b = lN (a &&& b) := by
  apply Int64.toBitVec_inj.1
  show BitVec.ofNat 64 a &&& BitVec.ofNat 64 b = BitVec.ofNat 64 (a &&& b)
  apply BitVec.eq_of_getLsbD_eq
  intro i hi
  simp [hi]
theorem fb_orL (a b : Nat) : lN a ||| lN b = lN (a ||| b) := by
  apply Int64.toBitVec_inj.1
  show BitVec.ofNat 64 a ||| BitVec.ofNat 64 b = BitVec.ofNat 64 (a ||| b)
  apply BitVec.eq_of_getLsbD_eq
  intro i hi
  simp [hi]
theorem fb_xorL (a b : Nat) : lN a ^^^ lN b = lN (a ^^^ b) := by
  apply Int64.toBitVec_inj.1
  show BitVec.ofNat 64 a ^^^ BitVec.ofNat 64 b = BitVec.ofNat 64 (a ^^^ b)
  apply BitVec.eq_of_getLsbD_eq
  intro i hi
  simp [hi]
theorem fb_xorI (a b : Nat) : nI a ^^^ nI b = nI (a ^^^ b) := by
  apply Int32.toBitVec_inj.1
  show BitVec.ofNat 32 a ^^^ BitVec.ofNat 32 b = BitVec.ofNat 32 (a ^^^ b)
  apply BitVec.eq_of_getLsbD_eq
  intro i hi
  simp [hi]
theorem fb_maskL (n k : Nat) : lN n &&& lN (2 ^ k - 1) = lN (n % 2 ^ k) := by rw [fb_andL, Nat.and_two_pow_sub_one_eq_mod]
theorem fb_or_sumL {a k : Nat} (b : Nat) (h : a < 2 ^ k) : lN (2 ^ k * b) ||| lN a = lN (2 ^ k * b + a) := by rw [fb_orL, Nat.two_pow_add_eq_or_of_lt h]
theorem fb_lN_inj {a b : Nat} (ha : a < 2 ^ 63) (hb : b < 2 ^ 63) : lN a = lN b ↔ a = b := by
  constructor
  · intro h
    have h1 : (BitVec.ofNat 64 a).toNat = (BitVec.ofNat 64 b).toNat := congrArg (fun x : Int64 => x.toBitVec.toNat) h
    rw [BitVec.toNat_ofNat, BitVec.toNat_ofNat, Nat.mod_eq_of_lt (by omega), Nat.mod_eq_of_lt (by omega)] at h1
    exact h1
  · rintro rfl; rfl
theorem fb_bit_nat (n j : Nat) : n &&& 2 ^ j = 0 ↔ n.testBit j = false := by
  constructor
  · intro h
    have h1 : (n &&& 2 ^ j).testBit j = false := by rw [h]; simp
    rw [Nat.testBit_and] at h1
    simpa using h1
  · intro h
    apply Nat.eq_of_testBit_eq
    intro i
    rw [Nat.testBit_and]
    by_cases hi : j = i
    · subst hi; simp [h]
    · first | (simp [Nat.testBit_two_pow, hi]; done) | (simp [Nat.testBit_two_pow_of_ne hi]; done)
/-- one bit of a long -/
theorem fb_bitL {n j : Nat} (hj : j < 63) : lN n &&& lN (2 ^ j) = 0 ↔ n.testBit j = false := by
  have h2 : (2 : Nat) ^ j < 2 ^ 63 := Nat.pow_lt_pow_right (by decide) hj
  have hle : n &&& 2 ^ j ≤ 2 ^ j := Nat.and_le_right
  rw [fb_andL, ← fb_bit_nat, show (0 : Int64) = lN 0 from rfl]
  exact fb_lN_inj (by omega) (by decide)
/-- a bit set, a bit taken off -/
theorem fb_bit_set (n j i : Nat) : (n ||| 2 ^ j).testBit i = (n.testBit i || decide (i = j)) := by
  rw [Nat.testBit_or]
  by_cases h : j = i
  · subst h; simp
  · have h2 : ¬ i = j := fun e => h e.symm
    first | (simp [Nat.testBit_two_pow, h, h2]; done) | (simp [Nat.testBit_two_pow_of_ne h, h2]; done)
theorem fb_bit_flip (n j i : Nat) : (n ^^^ 2 ^ j).testBit i = (n.testBit i ^^ decide (i = j)) := by
  rw [Nat.testBit_xor]
  by_cases h : j = i
  · subst h; simp
  · have h2 : ¬ i = j := fun e => h e.symm
    first | (simp [Nat.testBit_two_pow, h, h2]; done) | (simp [Nat.testBit_two_pow_of_ne h, h2]; done)
/-! ===== a stretch of an array written over by a function ===== -/
def fb_put {α : Type} (f g : Nat → α) (a n : Nat) : Nat → α := fun k => if a ≤ k ∧ k < a + n then g (k - a) else f k
theorem fb_put_0 {α : Type} (f g : Nat → α) (a : Nat) : fb_put f g a 0 = f := funext fun k => if_neg (by omega)
theorem fb_put_in {α : Type} {f g : Nat → α} {a n k : Nat} (h1 : a ≤ k) (h2 : k < a + n) : fb_put f g a n k = g (k - a) := if_pos ⟨h1, h2⟩
theorem fb_put_out {α : Type} {f g : Nat → α} {a n k : Nat} (h : k < a ∨ a + n ≤ k) : fb_put f g a n k = f k := if_neg (by omega)
theorem fb_put_succ (f g : Nat → Int32) (a n : Nat) : upd (fb_put f g a n) (a + n) (g n) = fb_put f g a (n + 1) := by
  funext k
  by_cases h : k = a + n
  · subst h
    simp [upd, fb_put]
  · by_cases h1 : a ≤ k ∧ k < a + n
    · have h2 : a ≤ k ∧ k < a + (n + 1) := by omega
      simp only [upd, fb_put, if_neg h, if_pos h1, if_pos h2]
    · have h2 : ¬ (a ≤ k ∧ k < a + (n + 1)) := by omega
      simp only [upd, fb_put, if_neg h, if_neg h1, if_neg h2]
/-- .. from the far end down -/
theorem fb_put_down (f g : Nat → Int32) {a n m : Nat} (h : m < n) : upd (fb_put f (fun k => g (k + (m + 1))) (a + (m + 1)) (n - (m + 1))) (a + m) (g m) = fb_put f (fun k => g (k + m)) (a + m) (n - m) := by
  funext k
  by_cases h0 : k = a + m
  · subst h0
    simp only [upd, if_true]
    rw [fb_put_in (by omega) (by omega)]
    exact congrArg g (by omega)
  · simp only [upd, if_neg h0]
    by_cases h1 : a + (m + 1) ≤ k ∧ k < a + (m + 1) + (n - (m + 1))
    · rw [fb_put_in h1.1 h1.2, fb_put_in (by omega) (by omega)]
      exact congrArg g (by omega)
    · rw [fb_put_out (by omega), fb_put_out (by omega)]
theorem fb_put_cong {α : Type} {f f2 g g2 : Nat → α} {a n : Nat} (hf : ∀ k, (k < a ∨ a + n ≤ k) → f k = f2 k) (hg : ∀ k, k < n → g k = g2 k) : fb_put f g a n = fb_put f2 g2 a n := by
  funext k
  by_cases h : a ≤ k ∧ k < a + n
  · rw [fb_put_in h.1 h.2, fb_put_in h.1 h.2, hg _ (by omega)]
  · rw [fb_put_out (by omega), fb_put_out (by omega), hf _ (by omega)]
/-! ===== the least, the first, the best so far; that there is one alone ===== -/
theorem fb_first {p : Nat → Prop} [DecidablePred p] : ∀ {n : Nat}, (∃ i, i < n ∧ p i) → ∃ i, i < n ∧ p i ∧ ∀ j, j < i → ¬ p j
  | 0, h => by obtain ⟨i, hi, -⟩ := h; exact absurd hi (Nat.not_lt_zero i)
  | n + 1, h => by
    by_cases q : ∃ i, i < n ∧ p i
    · obtain ⟨i, h1, h2⟩ := fb_first q
      exact ⟨i, by omega, h2⟩
    · obtain ⟨i, h1, h2⟩ := h
      have e : i = n := by
        rcases Nat.lt_or_ge i n with r | r
        · exact absurd ⟨i, r, h2⟩ q
        · omega
      subst e
      exact ⟨i, by omega, h2, fun j hj hp => q ⟨j, hj, hp⟩⟩
theorem fb_first_one {p : Nat → Prop} {i j : Nat} (hi : p i) (hi2 : ∀ k, k < i → ¬ p k) (hj : p j) (hj2 : ∀ k, k < j → ¬ p k) : i = j := by
  rcases Nat.lt_trichotomy i j with q | q | q
  · exact absurd hi (hj2 i q)
  · exact q
  · exact absurd hj (hi2 j q)
theorem fb_last {p : Nat → Prop} [DecidablePred p] : ∀ {n : Nat}, (∃ i, i < n ∧ p i) → ∃ i, i < n ∧ p i ∧ ∀ j, i < j → j < n → ¬ p j
  | 0, h => by obtain ⟨i, hi, -⟩ := h; exact absurd hi (Nat.not_lt_zero i)
  | n + 1, h => by
    by_cases q : p n
    · exact ⟨n, by omega, q, fun j h1 h2 => by omega⟩
    · obtain ⟨i, h1, h2⟩ := h
      have hi : i < n := by
        rcases Nat.lt_or_ge i n with r | r
        · exact r
        · have e : i = n := by omega
          subst e
          exact absurd h2 q
      obtain ⟨i2, a1, a2, a3⟩ := fb_last (n := n) ⟨i, hi, h2⟩
      refine ⟨i2, by omega, a2, fun j b1 b2 => ?_⟩
      rcases Nat.lt_or_ge j n with r | r
      · exact a3 j b1 r
      · have e : j = n := by omega
        subst e
        exact q
/-- the first greatest -/
theorem fb_best (f : Nat → Int) : ∀ {n : Nat}, 0 < n → ∃ i, i < n ∧ (∀ j, j < n → f j ≤ f i) ∧ ∀ j, j < i → f j < f i
  | 0, h => absurd h (Nat.lt_irrefl 0)
  | 1, _ => ⟨0, by omega, fun j hj => by have e : j = 0 := by omega
                                         subst e; exact Int.le_refl _, fun j hj => absurd hj (Nat.not_lt_zero j)⟩
  | n + 2, _ => by
    obtain ⟨i, h1, h2, h3⟩ := fb_best f (n := n + 1) (by omega)
    by_cases q : f i < f (n + 1)
    · refine ⟨n + 1, by omega, fun j hj => ?_, fun j hj => ?_⟩
      · rcases Nat.lt_or_ge j (n + 1) with r | r
        · have := h2 j r; omega
        · have e : j = n + 1 := by omega
          subst e; exact Int.le_refl _
      · have := h2 j hj; omega
    · refine ⟨i, by omega, fun j hj => ?_, h3⟩
      rcases Nat.lt_or_ge j (n + 1) with r | r
      · exact h2 j r
      · have e : j = n + 1 := by omega
        subst e; omega
theorem fb_best_one {f : Nat → Int} {n i j : Nat} (hi : i < n) (hi2 : ∀ k, k < n → f k ≤ f i) (hi3 : ∀ k, k < i → f k < f i) (hj : j < n) (hj2 : ∀ k, k < n → f k ≤ f j) (hj3 : ∀ k, k < j → f k < f j) : i = j := by
  rcases Nat.lt_trichotomy i j with q | q | q
  · have a := hj3 i q
    have b := hi2 j hj
    omega
  · exact q
  · have a := hi3 j q
    have b := hj2 i hi
    omega
/-- the first least -/
theorem fb_low (f : Nat → Int) {n : Nat} (h : 0 < n) : ∃ i, i < n ∧ (∀ j, j < n → f i ≤ f j) ∧ ∀ j, j < i → f i < f j := by
  obtain ⟨i, h1, h2, h3⟩ := fb_best (fun k => -f k) h
  exact ⟨i, h1, fun j hj => by have := h2 j hj; omega, fun j hj => by have := h3 j hj; omega⟩
/-! ===== signed ints as whole numbers, within bounds ===== -/
theorem fb_rng (x : Int32) : -2147483648 ≤ x.toInt ∧ x.toInt < 2147483648 := by
  have h1 := Int32.le_toInt x
  have h2 := Int32.toInt_lt x
  omega
theorem fb_bmod {z : Int} (h1 : -2147483648 ≤ z) (h2 : z < 2147483648) : z.bmod (2 ^ 32) = z := by
  rw [Int.bmod_eq_of_le (by omega) (by omega)]
theorem fb_addI {x y : Int32} (h1 : -2147483648 ≤ x.toInt + y.toInt) (h2 : x.toInt + y.toInt < 2147483648) : (x + y).toInt = x.toInt + y.toInt := by
  rw [Int32.toInt_add, fb_bmod h1 h2]
theorem fb_subI {x y : Int32} (h1 : -2147483648 ≤ x.toInt - y.toInt) (h2 : x.toInt - y.toInt < 2147483648) : (x - y).toInt = x.toInt - y.toInt := by
  rw [Int32.toInt_sub, fb_bmod h1 h2]
theorem fb_mulI {x y : Int32} (h1 : -2147483648 ≤ x.toInt * y.toInt) (h2 : x.toInt * y.toInt < 2147483648) : (x * y).toInt = x.toInt * y.toInt := by
  rw [Int32.toInt_mul, fb_bmod h1 h2]
theorem fb_negI {x : Int32} (h : x.toInt ≠ -2147483648) : (-x).toInt = -x.toInt := by
  have := fb_rng x
  rw [Int32.toInt_neg, fb_bmod (by omega) (by omega)]
theorem fb_ofI {z : Int} (h1 : -2147483648 ≤ z) (h2 : z < 2147483648) : (Int32.ofInt z).toInt = z := by
  rw [Int32.toInt_ofInt, fb_bmod h1 h2]
theorem fb_asI (x : Int32) : Int32.ofInt x.toInt = x := Int32.ofInt_toInt x
theorem fb_rngL (x : Int64) : -9223372036854775808 ≤ x.toInt ∧ x.toInt < 9223372036854775808 := by
  have h1 := Int64.le_toInt x
  have h2 := Int64.toInt_lt x
  omega
theorem fb_bmodL {z : Int} (h1 : -9223372036854775808 ≤ z) (h2 : z < 9223372036854775808) : z.bmod (2 ^ 64) = z := by
  rw [Int.bmod_eq_of_le (by omega) (by omega)]
theorem fb_addL {x y : Int64} (h1 : -9223372036854775808 ≤ x.toInt + y.toInt) (h2 : x.toInt + y.toInt < 9223372036854775808) : (x + y).toInt = x.toInt + y.toInt := by
  rw [Int64.toInt_add, fb_bmodL h1 h2]
theorem fb_subL {x y : Int64} (h1 : -9223372036854775808 ≤ x.toInt - y.toInt) (h2 : x.toInt - y.toInt < 9223372036854775808) : (x - y).toInt = x.toInt - y.toInt := by
  rw [Int64.toInt_sub, fb_bmodL h1 h2]
theorem fb_mulL {x y : Int64} (h1 : -9223372036854775808 ≤ x.toInt * y.toInt) (h2 : x.toInt * y.toInt < 9223372036854775808) : (x * y).toInt = x.toInt * y.toInt := by
  rw [Int64.toInt_mul, fb_bmodL h1 h2]
/-! ===== cuts of what is narrow already ===== -/
theorem fb_byte {x : Int32} (h1 : -128 ≤ x.toInt) (h2 : x.toInt < 128) : x.toInt8.toInt32 = x := by
  apply Int32.toInt_inj.1
  rw [Int8.toInt_toInt32, Int32.toInt_toInt8, Int.bmod_eq_of_le (by omega) (by omega)]
theorem fb_short {x : Int32} (h1 : -32768 ≤ x.toInt) (h2 : x.toInt < 32768) : x.toInt16.toInt32 = x := by
  apply Int32.toInt_inj.1
  rw [Int16.toInt_toInt32, Int32.toInt_toInt16, Int.bmod_eq_of_le (by omega) (by omega)]
theorem fb_byte_rng (x : Int32) : -128 ≤ x.toInt8.toInt32.toInt ∧ x.toInt8.toInt32.toInt < 128 := by
  rw [Int8.toInt_toInt32]
  have h1 := Int8.le_toInt x.toInt8
  have h2 := Int8.toInt_lt x.toInt8
  omega
theorem fb_short_rng (x : Int32) : -32768 ≤ x.toInt16.toInt32.toInt ∧ x.toInt16.toInt32.toInt < 32768 := by
  rw [Int16.toInt_toInt32]
  have h1 := Int16.le_toInt x.toInt16
  have h2 := Int16.toInt_lt x.toInt16
  omega
theorem fb_byte_twice (x : Int32) : x.toInt8.toInt32.toInt8.toInt32 = x.toInt8.toInt32 := fb_byte (fb_byte_rng x).1 (fb_byte_rng x).2
theorem fb_short_twice (x : Int32) : x.toInt16.toInt32.toInt16.toInt32 = x.toInt16.toInt32 := fb_short (fb_short_rng x).1 (fb_short_rng x).2
theorem fb_char {n : Nat} (h : n < 65536) : (nI n).toUInt32.toUInt16.toUInt32.toInt32 = nI n := by
  apply Int32.toBitVec_inj.1
  apply BitVec.eq_of_toNat_eq
  have e1 : (nI n).toBitVec.toNat = n := by
    show (BitVec.ofNat 32 n).toNat = n
    rw [BitVec.toNat_ofNat, Nat.mod_eq_of_lt (by omega)]
  have e2 : ((nI n).toUInt32.toUInt16.toUInt32).toNat = n := by
    rw [UInt16.toNat_toUInt32, UInt32.toNat_toUInt16]
    show (nI n).toBitVec.toNat % 2 ^ 16 = n
    rw [e1, Nat.mod_eq_of_lt (by omega)]
  rw [e1]
  exact e2
end
section
/-! ===== branches by whole numbers ===== -/
theorem bz_lt {x y : Int32} {X Y : Prop} (u v : Int) (t : u < v → X) (f : v ≤ u → Y) (hx : x.toInt = u := by first | rfl | decide | assumption | exact nI_toInt (by omega)) (hy : y.toInt = v := by first | rfl | decide | assumption | exact nI_toInt (by omega)) : (x < y → X) ∧ (¬ x < y → Y) := by
  subst hx hy
  rw [fa_lt]
  exact ⟨t, fun h => f (by omega)⟩
theorem bz_le {x y : Int32} {X Y : Prop} (u v : Int) (t : u ≤ v → X) (f : v < u → Y) (hx : x.toInt = u := by first | rfl | decide | assumption | exact nI_toInt (by omega)) (hy : y.toInt = v := by first | rfl | decide | assumption | exact nI_toInt (by omega)) : (x ≤ y → X) ∧ (¬ x ≤ y → Y) := by
  subst hx hy
  rw [fa_le]
  exact ⟨t, fun h => f (by omega)⟩
theorem bz_eq {x y : Int32} {X Y : Prop} (u v : Int) (t : u = v → X) (f : u ≠ v → Y) (hx : x.toInt = u := by first | rfl | decide | assumption | exact nI_toInt (by omega)) (hy : y.toInt = v := by first | rfl | decide | assumption | exact nI_toInt (by omega)) : (x = y → X) ∧ (¬ x = y → Y) := by
  subst hx hy
  rw [fa_eq]
  exact ⟨t, fun h => f h⟩
theorem bz_ne {x y : Int32} {X Y : Prop} (u v : Int) (t : u ≠ v → X) (f : u = v → Y) (hx : x.toInt = u := by first | rfl | decide | assumption | exact nI_toInt (by omega)) (hy : y.toInt = v := by first | rfl | decide | assumption | exact nI_toInt (by omega)) : (¬ x = y → X) ∧ (x = y → Y) := by
  subst hx hy
  rw [fa_eq]
  exact ⟨fun h => t h, f⟩
theorem pk_ne {x y : Int32} {A B : Prop} (a b : Nat) (f : a ≠ b → A) (g : a = b → B) (hx : x = nI a := by rfl) (hy : y = nI b := by rfl) (ha : a < 2 ^ 31 := by omega) (hb : b < 2 ^ 31 := by omega) : (¬ x = y → A) ∧ (x = y → B) := by
  subst hx hy
  rw [nI_eq ha hb]
  exact ⟨f, g⟩
theorem ts_t {b : Bool} (h : ¬ b = false) : b = true := by cases b <;> simp_all
theorem ti_n {n : Nat} (h : n < 2147483648) : (nI n).toInt = (n : Int) := nI_toInt h
theorem ti_of {x : Int32} (h : 0 ≤ x.toInt) : ∃ n : Nat, n < 2147483648 ∧ x = nI n ∧ x.toInt = (n : Int) := by
  have hr := fb_rng x
  refine ⟨x.toInt.toNat, by omega, ?_, by omega⟩
  rw [fa_eq, ti_n (by omega)]
  omega
end
section
/-! ===== Math.max, Math.min, System.arraycopy ===== -/
def C_J9_max : ip_C := fun vs hp K => ∃ a b : Int32, vs = [.int a, .int b] ∧ ∀ r : Int32, r.toInt = max a.toInt b.toInt → K (some (.int r)) hp
def C_J9_min : ip_C := fun vs hp K => ∃ a b : Int32, vs = [.int a, .int b] ∧ ∀ r : Int32, r.toInt = min a.toInt b.toInt → K (some (.int r)) hp
def C_arraycopy : ip_C := fun vs hp K => ∃ (a0 a n0 n1 : Nat) (sp dp n : Int32) (f g : Nat → Int32), vs = [.ref a0, .int sp, .ref a, .int dp, .int n] ∧ hp[a0]? = some (.inl (0, n0, .inl f)) ∧ hp[a]? = some (.inl (0, n1, .inl g)) ∧ 0 ≤ sp.toInt ∧ 0 ≤ dp.toInt ∧ 0 ≤ n.toInt ∧ sp.toInt + n.toInt ≤ n0 ∧ dp.toInt + n.toInt ≤ n1 ∧
  K none (hp.set a (.inl (0, n1, .inl (va_cpy f g sp.toNatClampNeg dp.toNatClampNeg n.toNatClampNeg))))
def ip_wMax (own : String) (idx : Nat) : List Cond := [.methodLink own idx Lib.Math.max.name, .static Lib.Math.max.name, .initialized "java/lang/Math", .code Lib.Math.max.name Lib.Math.max.code 2 (some .int)]
def ip_wMin (own : String) (idx : Nat) : List Cond := [.methodLink own idx Lib.Math.min.name, .static Lib.Math.min.name, .initialized "java/lang/Math", .code Lib.Math.min.name Lib.Math.min.code 2 (some .int)]
def ip_wCopy (own : String) (idx : Nat) : List Cond := [.methodLink own idx arraycopyName, .native arraycopyName, .static arraycopyName, .initialized "java/lang/System"]
theorem ip_gsMax {l : Launch} {R : Room} {own : String} {idx : Nat} (hw : ∀ w ∈ ip_wMax own idx, w ∈ ip_ws) (hR : 1 ≤ R.frames ∧ 21 ≤ R.locals) : ip_GS l R own (idx, 2, 0, C_J9_max) := by
  intro p e s m args below meth c cells slots Q cc nL D ad dA A hx hb hml hown hts hK hN hA hc1 hc2 pc L As rest hp ls H locs K' hrel hlen hcat hcase hC kk
  obtain ⟨hL, hP, hD, hS⟩ := id hrel
  simp only at hlen hcase hC
  rcases hcase with ⟨-, hdg⟩ | ⟨q, as, cj, fs, hk, -⟩
  · obtain ⟨a, b, rfl, hK'⟩ := hC
    have hcat' := ip_catSum ad rest
    refine va_mmax (x := a) (y := b) (rest := rest.map (ip_cv ad)) hx hb (by rw [hml, hL.size]) hown (hts _ (hw _ (by simp [ip_wMax]))) (hts _ (hw _ (by simp [ip_wMax]))) (hts _ (hw _ (by simp [ip_wMax]))) (hts _ (hw _ (by simp [ip_wMax]))) hR.1 (by omega) hc1 hc2 hdg ?_
    refine kk (some (.int (if a < b then b else a))) hp H locs hrel (hK' _ ?_)
    split
    · rename_i h; rw [fa_lt] at h; omega
    · rename_i h; rw [fa_lt] at h; omega
  · cases hk
theorem ip_gsMin {l : Launch} {R : Room} {own : String} {idx : Nat} (hw : ∀ w ∈ ip_wMin own idx, w ∈ ip_ws) (hR : 1 ≤ R.frames ∧ 21 ≤ R.locals) : ip_GS l R own (idx, 2, 0, C_J9_min) := by
  intro p e s m args below meth c cells slots Q cc nL D ad dA A hx hb hml hown hts hK hN hA hc1 hc2 pc L As rest hp ls H locs K' hrel hlen hcat hcase hC kk
  obtain ⟨hL, hP, hD, hS⟩ := id hrel
  simp only at hlen hcase hC
  rcases hcase with ⟨-, hdg⟩ | ⟨q, as, cj, fs, hk, -⟩
  · obtain ⟨a, b, rfl, hK'⟩ := hC
    have hcat' := ip_catSum ad rest
    refine va_mmin (x := a) (y := b) (rest := rest.map (ip_cv ad)) hx hb (by rw [hml, hL.size]) hown (hts _ (hw _ (by simp [ip_wMin]))) (hts _ (hw _ (by simp [ip_wMin]))) (hts _ (hw _ (by simp [ip_wMin]))) (hts _ (hw _ (by simp [ip_wMin]))) hR.1 (by omega) hc1 hc2 hdg ?_
    refine kk (some (.int (if b < a then b else a))) hp H locs hrel (hK' _ ?_)
    split
    · rename_i h; rw [fa_lt] at h; omega
    · rename_i h; rw [fa_lt] at h; omega
  · cases hk
theorem ti_cl {x : Int32} (h : 0 ≤ x.toInt) : (x.toNatClampNeg : Int) = x.toInt := by
  rw [Int32.toNatClampNeg]; omega
theorem ip_gsCopy {l : Launch} {R : Room} {own : String} {idx : Nat} (hw : ∀ w ∈ ip_wCopy own idx, w ∈ ip_ws) (hR : 1 ≤ R.frames ∧ 8 + (nativeFrameWords "java/lang/System" "arraycopy" 5 + 11) ≤ R.locals) : ip_GS l R own (idx, 5, 0, C_arraycopy) := by
  intro p e s m args below meth c cells slots Q cc nL D ad dA A hx hb hml hown hts hK hN hA hc1 hc2 pc L As rest hp ls H locs K' hrel hlen hcat hcase hC kk
  obtain ⟨hL, hP, hD, hS⟩ := id hrel
  simp only at hlen hcase hC
  rcases hcase with ⟨-, hdg⟩ | ⟨q, as, cj, fs, hk, -⟩
  · obtain ⟨a0, a, n0, n1, sp, dp, n, f, g, rfl, ho0, ho1, h1, h2, h3, h4, h5, hK'⟩ := hC
    have hcat' := ip_catSum ad rest
    have c1 := ti_cl h1
    have c2 := ti_cl h2
    have c3 := ti_cl h3
    refine va_copyi (ty := .int) (rest := rest.map (ip_cv ad)) hx hb (by rw [hml, hL.size]) hown (hts _ (hw _ (by simp [ip_wCopy]))) (hts _ (hw _ (by simp [ip_wCopy]))) (hts _ (hw _ (by simp [ip_wCopy]))) (hts _ (hw _ (by simp [ip_wCopy]))) hK hP hD hS a0 a 0 0 (ip_cw_at ho0) (ip_cw_at ho1) rfl rfl rfl (by rw [fa_lt]; show ¬ _ < (0 : Int); omega) (by rw [fa_lt]; show ¬ _ < (0 : Int); omega) (by rw [fa_lt]; show ¬ _ < (0 : Int); omega) (by omega) (by omega) (fun _ _ => rfl) hR.1 (by have := hR.2; omega) hdg (fun H1 locs1 hP1 hD1 hS1 => ?_)
    refine kk none _ H1 locs1 ⟨hL, ?_, ?_, hS1⟩ hK'
    · rw [ip_cw_set]; exact hP1
    · rw [ip_cw_set]; exact hD1
  · cases hk
end
section
/-! ===== lN n to 2^64: shifts, and, or, masks, one bit ===== -/
theorem wb_tb (n : Nat) : (lN n).toBitVec = BitVec.ofNat 64 n := rfl
theorem wb_inj {a b : Int64} (h : a.toBitVec = b.toBitVec) : a = b := Int64.toBitVec_inj.mp h
theorem wb_tn {n : Nat} (h : n < 2 ^ 64) : (lN n).toBitVec.toNat = n := by rw [wb_tb, BitVec.toNat_ofNat, Nat.mod_eq_of_lt h]
theorem wb_of (x : Int64) : ∃ n, n < 2 ^ 64 ∧ x = lN n := ⟨x.toBitVec.toNat, x.toBitVec.isLt, wb_inj (by rw [wb_tb]; simp)⟩
theorem wb_of32 (x : Int32) : ∃ n, n < 2 ^ 32 ∧ x = nI n := ⟨x.toBitVec.toNat, x.toBitVec.isLt, Int32.toBitVec_inj.mp (by show _ = BitVec.ofNat 32 _; simp)⟩
theorem wb_c : ∀ k, k < 64 → ((nI k).toInt64 &&& 63) = lN k := by decide +kernel
theorem wb_cu : ∀ k, k < 64 → ((nI k).toInt64.toUInt64 &&& Int64.toUInt64 63) = UInt64.ofNat k := by decide +kernel
theorem wb_sm : ∀ k, k < 64 → (BitVec.ofNat 64 k).smod 64 = BitVec.ofNat 64 k := by decide +kernel
theorem wb_pw {a b : Nat} (h : a ≤ b) : 2 ^ b = 2 ^ a * 2 ^ (b - a) := by rw [← Nat.pow_add]; congr 1; omega
theorem wb_lt2 {a b : Nat} (h : a < b) : 2 ^ a < 2 ^ b := Nat.pow_lt_pow_right (by decide) h
theorem wb_mod (n : Nat) : lN n = lN (n % 2 ^ 64) := wb_inj (by rw [wb_tb, wb_tb]; apply BitVec.eq_of_toNat_eq; rw [BitVec.toNat_ofNat, BitVec.toNat_ofNat, Nat.mod_mod])
theorem wb_shr {n k : Nat} (hn : n < 2 ^ 64) (hk : k < 64) : ((lN n).toUInt64 >>> ((nI k).toInt64.toUInt64 &&& Int64.toUInt64 63)).toInt64 = lN (n / 2 ^ k) := by
  rw [wb_cu k hk]
  apply wb_inj
  apply BitVec.eq_of_toNat_eq
  show ((lN n).toUInt64 >>> UInt64.ofNat k).toNat = (BitVec.ofNat 64 _).toNat
  have h1 : (UInt64.ofNat k).toNat = k := by
    show (BitVec.ofNat 64 k).toNat = k
    rw [BitVec.toNat_ofNat, Nat.mod_eq_of_lt (by omega)]
  have h2 : (lN n).toUInt64.toNat = n := wb_tn hn
  rw [UInt64.toNat_shiftRight, h1, h2, Nat.mod_eq_of_lt hk, Nat.shiftRight_eq_div_pow, BitVec.toNat_ofNat, Nat.mod_eq_of_lt (Nat.lt_of_le_of_lt (Nat.div_le_self _ _) hn)]
theorem wb_shl (n : Nat) {k : Nat} (hk : k < 64) : lN n <<< ((nI k).toInt64 &&& 63) = lN (n * 2 ^ k) := by
  rw [wb_c k hk]
  apply wb_inj
  rw [Int64.toBitVec_shiftLeft, wb_tb, wb_tb, wb_tb, wb_sm k hk]
  apply BitVec.eq_of_toNat_eq
  rw [BitVec.shiftLeft_eq', BitVec.toNat_shiftLeft, BitVec.toNat_ofNat, BitVec.toNat_ofNat, BitVec.toNat_ofNat, Nat.mod_eq_of_lt (show k < 2 ^ 64 by omega), Nat.shiftLeft_eq, Nat.mul_mod, Nat.mod_mod, ← Nat.mul_mod]
theorem wb_and {a b : Nat} (ha : a < 2 ^ 64) (hb : b < 2 ^ 64) : lN a &&& lN b = lN (a &&& b) := by
  apply wb_inj
  rw [Int64.toBitVec_and, wb_tb, wb_tb, wb_tb]
  apply BitVec.eq_of_toNat_eq
  rw [BitVec.toNat_and, BitVec.toNat_ofNat, BitVec.toNat_ofNat, BitVec.toNat_ofNat, Nat.mod_eq_of_lt ha, Nat.mod_eq_of_lt hb, Nat.mod_eq_of_lt (Nat.and_lt_two_pow _ hb)]
theorem wb_or {a b : Nat} (ha : a < 2 ^ 64) (hb : b < 2 ^ 64) : lN a ||| lN b = lN (a ||| b) := by
  apply wb_inj
  rw [Int64.toBitVec_or, wb_tb, wb_tb, wb_tb]
  apply BitVec.eq_of_toNat_eq
  rw [BitVec.toNat_or, BitVec.toNat_ofNat, BitVec.toNat_ofNat, BitVec.toNat_ofNat, Nat.mod_eq_of_lt ha, Nat.mod_eq_of_lt hb, Nat.mod_eq_of_lt (Nat.or_lt_two_pow ha hb)]
theorem wb_mask {n k : Nat} (hn : n < 2 ^ 64) (hk : k < 64) : lN n &&& lN (2 ^ k - 1) = lN (n % 2 ^ k) := by
  rw [wb_and hn (by have := wb_lt2 hk; omega), Nat.and_two_pow_sub_one_eq_mod]
theorem wb_a1 {n : Nat} (hn : n < 2 ^ 64) : lN n &&& 1 = lN (n % 2) := wb_mask (k := 1) hn (by decide)
theorem wb_bit {n k : Nat} (hn : n < 2 ^ 64) (hk : k < 64) : ((lN n).toUInt64 >>> ((nI k).toInt64.toUInt64 &&& Int64.toUInt64 63)).toInt64 &&& 1 = lN (n / 2 ^ k % 2) := by
  rw [wb_shr hn hk, wb_a1 (Nat.lt_of_le_of_lt (Nat.div_le_self _ _) hn)]
end
section
/-! ===== leaves of the class and of the library ===== -/
def C_X7_isLane : ip_C := fun vs hp K => ∃ a : Int32, vs = [.int a] ∧ ∀ b : Bool, (b = true ↔ 0 ≤ a.toInt ∧ a.toInt < 3) → K (some (.int (ip_bi b))) hp
def cs_X7_isLane : List ip_G := []
theorem p_X7_isLane : ip_Pf fl_X7 cn_X7 cs_X7_isLane (some .boolean) tb_X7_isLane 1 C_X7_isLane := ip_pf0 (by
  rintro _ hp K ⟨a, rfl, hK⟩
  refine ⟨Nat.le_of_ble_eq_true rfl, ?_⟩
  refine bz_lt a.toInt 0 (fun h => ?_) (fun h => ?_)
  · exact And.intro rfl (hK false (by simp; omega))
  refine bz_le 3 a.toInt (fun h2 => ?_) (fun h2 => ?_)
  · exact And.intro rfl (hK false (by simp; omega))
  · exact And.intro rfl (hK true (by simp; omega)))
set_option maxRecDepth 100000 in
set_option maxHeartbeats 4000000 in
theorem m_X7_isLane (l : Launch) : ip_Met l yX7_isLane cX7_isLane 1 (some .boolean) (ip_rm 0) C_X7_isLane := ip_met tb_X7_isLane 400 (by decide +kernel) fl_X7_ok cn_X7_ok (ip_cs0) ck_X7_isLane rfl p_X7_isLane
def C_X7_isSet : ip_C := fun vs hp K => ∃ a : Int32, vs = [.int a] ∧ ∀ b : Bool, (b = true ↔ 0 ≤ a.toInt ∧ a.toInt < 64) → K (some (.int (ip_bi b))) hp
def cs_X7_isSet : List ip_G := []
theorem p_X7_isSet : ip_Pf fl_X7 cn_X7 cs_X7_isSet (some .boolean) tb_X7_isSet 1 C_X7_isSet := ip_pf0 (by
  rintro _ hp K ⟨a, rfl, hK⟩
  refine ⟨Nat.le_of_ble_eq_true rfl, ?_⟩
  refine bz_lt a.toInt 0 (fun h => ?_) (fun h => ?_)
  · exact And.intro rfl (hK false (by simp; omega))
  refine bz_le 64 a.toInt (fun h2 => ?_) (fun h2 => ?_)
  · exact And.intro rfl (hK false (by simp; omega))
  · exact And.intro rfl (hK true (by simp; omega)))
set_option maxRecDepth 100000 in
set_option maxHeartbeats 4000000 in
theorem m_X7_isSet (l : Launch) : ip_Met l yX7_isSet cX7_isSet 1 (some .boolean) (ip_rm 0) C_X7_isSet := ip_met tb_X7_isSet 400 (by decide +kernel) fl_X7_ok cn_X7_ok (ip_cs0) ck_X7_isSet rfl p_X7_isSet
def C_X7_isQuestion : ip_C := fun vs hp K => ∃ a : Int32, vs = [.int a] ∧ ∀ b : Bool, (b = true ↔ 0 ≤ a.toInt ∧ a.toInt < 6) → K (some (.int (ip_bi b))) hp
def cs_X7_isQuestion : List ip_G := []
theorem p_X7_isQuestion : ip_Pf fl_X7 cn_X7 cs_X7_isQuestion (some .boolean) tb_X7_isQuestion 1 C_X7_isQuestion := ip_pf0 (by
  rintro _ hp K ⟨a, rfl, hK⟩
  refine ⟨Nat.le_of_ble_eq_true rfl, ?_⟩
  refine bz_lt a.toInt 0 (fun h => ?_) (fun h => ?_)
  · exact And.intro rfl (hK false (by simp; omega))
  refine bz_le 6 a.toInt (fun h2 => ?_) (fun h2 => ?_)
  · exact And.intro rfl (hK false (by simp; omega))
  · exact And.intro rfl (hK true (by simp; omega)))
set_option maxRecDepth 100000 in
set_option maxHeartbeats 4000000 in
theorem m_X7_isQuestion (l : Launch) : ip_Met l yX7_isQuestion cX7_isQuestion 1 (some .boolean) (ip_rm 0) C_X7_isQuestion := ip_met tb_X7_isQuestion 400 (by decide +kernel) fl_X7_ok cn_X7_ok (ip_cs0) ck_X7_isQuestion rfl p_X7_isQuestion
def C_X7_isWhich : ip_C := fun vs hp K => ∃ a : Int32, vs = [.int a] ∧ ∀ b : Bool, (b = true ↔ 0 ≤ a.toInt ∧ a.toInt < 2) → K (some (.int (ip_bi b))) hp
def cs_X7_isWhich : List ip_G := []
theorem p_X7_isWhich : ip_Pf fl_X7 cn_X7 cs_X7_isWhich (some .boolean) tb_X7_isWhich 1 C_X7_isWhich := ip_pf0 (by
  rintro _ hp K ⟨a, rfl, hK⟩
  refine ⟨Nat.le_of_ble_eq_true rfl, ?_⟩
  refine bz_eq a.toInt 0 (fun h => ?_) (fun h => ?_)
  · exact And.intro rfl (hK true (by simp; omega))
  refine bz_ne a.toInt 1 (fun h2 => ?_) (fun h2 => ?_)
  · exact And.intro rfl (hK false (by simp; omega))
  · exact And.intro rfl (hK true (by simp; omega)))
set_option maxRecDepth 100000 in
set_option maxHeartbeats 4000000 in
theorem m_X7_isWhich (l : Launch) : ip_Met l yX7_isWhich cX7_isWhich 1 (some .boolean) (ip_rm 0) C_X7_isWhich := ip_met tb_X7_isWhich 400 (by decide +kernel) fl_X7_ok cn_X7_ok (ip_cs0) ck_X7_isWhich rfl p_X7_isWhich
/-- holds: bit k of a set of at most six -/
theorem bt_all : ∀ a : Fin 64, ∀ k : Fin 6, ((nI a.val >>> (nI k.val &&& 31)) &&& 1 = 0) ↔ a.val.testBit k.val = false := by decide +kernel
theorem bt_all16 : ∀ a : Fin 16, ∀ k : Fin 4, ((nI a.val >>> (nI k.val &&& 31)) &&& 1 = 0) ↔ a.val.testBit k.val = false := by decide +kernel
def C_X7_holds : ip_C := fun vs hp K => ∃ a k : Nat, a < 64 ∧ k < 6 ∧ vs = [.int (nI a), .int (nI k)] ∧ K (some (.int (ip_bi (a.testBit k)))) hp
def cs_X7_holds : List ip_G := []
theorem p_X7_holds : ip_Pf fl_X7 cn_X7 cs_X7_holds (some .boolean) tb_X7_holds 2 C_X7_holds := ip_pf0 (by
  rintro _ hp K ⟨a, k, ha, hk, rfl, hK⟩
  refine ⟨Nat.le_of_ble_eq_true rfl, ?_⟩
  have hb := bt_all ⟨a, ha⟩ ⟨k, hk⟩
  simp only at hb
  refine And.intro (fun h => ?_) (fun h => ?_)
  · rw [hb.mp h] at hK
    exact And.intro rfl hK
  · rw [ts_t (fun q => h (hb.mpr q))] at hK
    exact And.intro rfl hK)
set_option maxRecDepth 100000 in
set_option maxHeartbeats 4000000 in
theorem m_X7_holds (l : Launch) : ip_Met l yX7_holds cX7_holds 2 (some .boolean) (ip_rm 0) C_X7_holds := ip_met tb_X7_holds 400 (by decide +kernel) fl_X7_ok cn_X7_ok (ip_cs0) ck_X7_holds rfl p_X7_holds
def C_X7_stepsOver : ip_C := fun vs hp K => ∃ a p b : Nat, a ≤ p ∧ p ≤ b ∧ b < 100 ∧ vs = [.int (nI a), .int (nI p), .int (nI b)] ∧ K (some (.int (nI (b - a + min (p - a) (b - p))))) hp
def cs_X7_stepsOver : List ip_G := [(285, 2, 0, C_J9_min)]
theorem p_X7_stepsOver : ip_Pf fl_X7 cn_X7 cs_X7_stepsOver (some .int) tb_X7_stepsOver 3 C_X7_stepsOver := ip_pf0 (by
  rintro _ hp K ⟨a, p, b, h1, h2, h3, rfl, hK⟩
  refine ⟨Nat.le_of_ble_eq_true rfl, ?_⟩
  refine Exists.intro (nI p - nI a) ⟨nI b - nI p, rfl, fun r hr => ?_⟩
  rw [pk_sub h1, pk_sub h2, ti_n (by omega), ti_n (by omega)] at hr
  have e : r = nI (min (p - a) (b - p)) := by rw [fa_eq, hr, ti_n (by omega)]; omega
  rw [← nI_add, ← pk_sub (by omega), ← e] at hK
  exact hK)
set_option maxRecDepth 100000 in
set_option maxHeartbeats 4000000 in
theorem m_X7_stepsOver (l : Launch) : ip_Met l yX7_stepsOver cX7_stepsOver 3 (some .int) (ip_rm 1) C_X7_stepsOver := ip_met tb_X7_stepsOver 400 (by decide +kernel) fl_X7_ok cn_X7_ok (ip_cs1 (ip_gsMin (ip_in [446, 275, 41, 276] (by decide +kernel) (by decide +kernel)) ⟨Nat.le_of_ble_eq_true rfl, Nat.le_of_ble_eq_true rfl⟩) (ip_cs0)) ck_X7_stepsOver rfl p_X7_stepsOver
end
section
/-! ===== what is meant: sets of the first n, who answers, what holds ===== -/
def anyb : Nat → (Nat → Bool) → Bool
  | 0, _ => false
  | n + 1, f => anyb n f || f n
def bs : Nat → (Nat → Bool) → Nat
  | 0, _ => 0
  | n + 1, f => bs n f + (if f n then 2 ^ n else 0)
theorem bs_lt (f : Nat → Bool) : ∀ n, bs n f < 2 ^ n
  | 0 => by simp [bs]
  | n + 1 => by
    have := bs_lt f n
    simp only [bs, Nat.pow_succ]
    split <;> omega
theorem bs_bit (f : Nat → Bool) : ∀ n i, (bs n f).testBit i = (decide (i < n) && f i)
  | 0, i => by simp [bs]
  | n + 1, i => by
    have ih := bs_bit f n i
    have hl := bs_lt f n
    simp only [bs]
    by_cases hf : f n = true
    · rw [if_pos hf]
      rw [show bs n f + 2 ^ n = 2 ^ n + bs n f by omega]
      by_cases hi : i = n
      · subst hi
        rw [Nat.testBit_two_pow_add_eq, Nat.testBit_lt_two_pow hl]
        simp [hf]
      · rcases Nat.lt_or_ge i n with h | h
        · rw [Nat.testBit_two_pow_add_gt h, ih]
          simp [h, Nat.lt_succ_of_lt h]
        · have hlt : 2 ^ n + bs n f < 2 ^ i := by
            have : 2 ^ (n + 1) ≤ 2 ^ i := Nat.pow_le_pow_right (by omega) (by omega)
            rw [Nat.pow_succ] at this
            omega
          rw [Nat.testBit_lt_two_pow hlt]
          have : ¬ i < n + 1 := by omega
          simp [this]
    · rw [if_neg hf, Nat.add_zero, ih]
      by_cases hi : i = n
      · subst hi
        simp [hf]
      · have : (i < n + 1) ↔ (i < n) := by omega
        simp [this]
theorem bs_cong {f g : Nat → Bool} : ∀ {n}, (∀ i, i < n → f i = g i) → bs n f = bs n g
  | 0, _ => rfl
  | n + 1, h => by simp only [bs]; rw [bs_cong (fun i hi => h i (by omega)), h n (by omega)]
theorem anyb_cong {f g : Nat → Bool} : ∀ {n}, (∀ i, i < n → f i = g i) → anyb n f = anyb n g
  | 0, _ => rfl
  | n + 1, h => by simp only [anyb]; rw [anyb_cong (fun i hi => h i (by omega)), h n (by omega)]
theorem sh1 : ∀ m : Fin 31, (1 : Int32) <<< (nI m.val &&& 31) = nI (2 ^ m.val) := by decide +kernel
theorem or_bit {a m : Nat} (ha : a < 2 ^ m) (hm : m < 31) : nI a ||| ((1 : Int32) <<< (nI m &&& 31)) = nI (a + 2 ^ m) := by
  have h := sh1 ⟨m, hm⟩
  simp only at h
  have h2 : nI (2 ^ m * 1) ||| nI a = nI (2 ^ m * 1 + a) := fa_or_sum 1 ha
  rw [Nat.mul_one] at h2
  rw [h, fa_or, Nat.or_comm, ← fa_or, h2, Nat.add_comm]
/-- right, wrong answers of a man of a kind with a list, to a question, by the truth -/
def ar (tr kd li q : Nat) : Bool := (kd != 2) && (li.testBit q || (kd == 1 && tr.testBit q))
def aw (tr kd li q : Nat) : Bool := if kd == 2 then li.testBit q else (kd == 1 && !(li.testBit q || tr.testBit q))
/-- HELD by those that pr names -/
def held (tr mn : Nat) (kd li : Nat → Nat) (pr : Nat → Bool) (q : Nat) : Bool := anyb mn (fun m => pr m && ar tr (kd m) (li m) q) && !anyb mn (fun m => pr m && aw tr (kd m) (li m) q)
theorem held_cong {tr mn : Nat} {kd li kd' li' : Nat → Nat} {pr pr' : Nat → Bool} {q : Nat} (h : ∀ m, m < mn → kd m = kd' m ∧ li m = li' m ∧ pr m = pr' m) : held tr mn kd li pr q = held tr mn kd' li' pr' q := by
  have e1 : anyb mn (fun m => pr m && ar tr (kd m) (li m) q) = anyb mn (fun m => pr' m && ar tr (kd' m) (li' m) q) := anyb_cong (fun i hi => by obtain ⟨a, b, c⟩ := h i hi; simp only [a, b, c])
  have e2 : anyb mn (fun m => pr m && aw tr (kd m) (li m) q) = anyb mn (fun m => pr' m && aw tr (kd' m) (li' m) q) := anyb_cong (fun i hi => by obtain ⟨a, b, c⟩ := h i hi; simp only [a, b, c])
  unfold held
  rw [e1, e2]
/-- by the system's numbers -/
def heldS (S : Nat → Nat) (pr : Nat → Bool) (q : Nat) : Bool := held (S 1) (S 3) (fun m => S (40 + m)) (fun m => S (60 + m)) pr q
def dgs (S : Nat → Nat) (pr : Nat → Bool) : Nat := bs 6 (fun q => !heldS S pr q)
def wfM (S : Nat → Nat) : Prop := S 1 < 64 ∧ S 2 ≤ 6 ∧ S 3 ≤ 4 ∧ ∀ m, m < 4 → S (40 + m) ≤ 2 ∧ S (50 + m) < 6 ∧ S (60 + m) < 64
theorem four {m : Nat} (h : m < 4) : m = 0 ∨ m = 1 ∨ m = 2 ∨ m = 3 := by omega
end
section
/-! ===== County ===== -/
def C_X0_isThere : ip_C := fun vs hp K => ∃ tc S G, vs = [.ref 10] ∧ hp = hpC tc S G ∧ S 2 ≤ 6 ∧ K (some (.int (ip_bi (decide (0 < S 2))))) hp
def cs_X0_isThere : List ip_G := []
theorem p_X0_isThere : ip_Pf fl_X0 [] cs_X0_isThere (some .boolean) tb_X0_isThere 1 C_X0_isThere := ip_pf0 (by
  rintro _ _ K ⟨tc, S, G, rfl, rfl, h0, hK⟩
  refine ⟨Nat.le_of_ble_eq_true rfl, ?_⟩
  refine pk_le (S 2) 0 (fun h => ?_) (fun h => ?_)
  · rw [decide_eq_false (by omega)] at hK
    exact And.intro rfl hK
  · rw [decide_eq_true (by omega)] at hK
    exact And.intro rfl hK)
set_option maxRecDepth 100000 in
set_option maxHeartbeats 4000000 in
theorem m_X0_isThere (l : Launch) : ip_Met l yX0_isThere cX0_isThere 1 (some .boolean) (ip_rm 0) C_X0_isThere := ip_met tb_X0_isThere 400 (by decide +kernel) fl_X0_ok ip_cn0 (ip_cs0) ck_X0_isThere rfl p_X0_isThere
def C_X0_hasParish : ip_C := fun vs hp K => ∃ tc S G, ∃ p : Int32, vs = [.ref 10, .int p] ∧ hp = hpC tc S G ∧ S 2 ≤ 6 ∧ ∀ b : Bool, (b = true ↔ 0 ≤ p.toInt ∧ p.toInt < S 2) → K (some (.int (ip_bi b))) hp
def cs_X0_hasParish : List ip_G := []
theorem p_X0_hasParish : ip_Pf fl_X0 [] cs_X0_hasParish (some .boolean) tb_X0_hasParish 2 C_X0_hasParish := ip_pf0 (by
  rintro _ _ K ⟨tc, S, G, p, rfl, rfl, h0, hK⟩
  refine ⟨Nat.le_of_ble_eq_true rfl, ?_⟩
  refine bz_lt p.toInt 0 (fun h => ?_) (fun h => ?_)
  · exact And.intro rfl (hK false (by simp; omega))
  refine bz_le (S 2) p.toInt (fun h2 => ?_) (fun h2 => ?_)
  · exact And.intro rfl (hK false (by simp; omega))
  · exact And.intro rfl (hK true (by simp; omega)))
set_option maxRecDepth 100000 in
set_option maxHeartbeats 4000000 in
theorem m_X0_hasParish (l : Launch) : ip_Met l yX0_hasParish cX0_hasParish 2 (some .boolean) (ip_rm 0) C_X0_hasParish := ip_met tb_X0_hasParish 400 (by decide +kernel) fl_X0_ok ip_cn0 (ip_cs0) ck_X0_hasParish rfl p_X0_hasParish
def C_X0_manOf : ip_C := fun vs hp K => ∃ tc S G, ∃ m : Int32, vs = [.ref 10, .int m] ∧ hp = hpC tc S G ∧ S 3 ≤ 4 ∧ (¬ (0 ≤ m.toInt ∧ m.toInt < S 3) → K (some .null) hp) ∧ ∀ j : Nat, j < S 3 → m = nI j → K (some (.ref (12 + j))) hp
def cs_X0_manOf : List ip_G := []
theorem p_X0_manOf : ip_Pf fl_X0 [] cs_X0_manOf (some (.object "ThunderAsks$Man")) tb_X0_manOf 2 C_X0_manOf := ip_pf0 (by
  rintro _ _ K ⟨tc, S, G, m, rfl, rfl, h0, hK, hK2⟩
  refine ⟨Nat.le_of_ble_eq_true rfl, ?_⟩
  refine bz_lt m.toInt 0 (fun h => ?_) (fun h => ?_)
  · exact hK (by omega)
  refine bz_le (S 3) m.toInt (fun h2 => ?_) (fun h2 => ?_)
  · exact hK (by omega)
  refine bz_lt m.toInt 4 (fun h3 => ?_) (fun h3 => ?_)
  · obtain ⟨j, -, rfl, hj⟩ := ti_of h
    have hj4 : j < S 3 := by omega
    have hk := hK2 j hj4 rfl
    have hin : vp_in (nI j) 4 := pk_in j 4 (by omega)
    rcases four (show j < 4 by omega) with rfl | rfl | rfl | rfl
    all_goals exact And.intro hin hk
  · exact absurd h2 (by omega))
set_option maxRecDepth 100000 in
set_option maxHeartbeats 4000000 in
theorem m_X0_manOf (l : Launch) : ip_Met l yX0_manOf cX0_manOf 2 (some (.object "ThunderAsks$Man")) (ip_rm 0) C_X0_manOf := ip_met tb_X0_manOf 400 (by decide +kernel) fl_X0_ok ip_cn0 (ip_cs0) ck_X0_manOf rfl p_X0_manOf
def C_X0_menIn : ip_C := fun vs hp K => ∃ tc S G, ∃ p : Nat, p < 2147483648 ∧ vs = [.ref 10, .int (nI p)] ∧ hp = hpC tc S G ∧ wfM S ∧ K (some (.int (nI (bs (S 3) (fun m => S (50 + m) == p))))) hp
def cs_X0_menIn : List ip_G := []
def I_X0_menIn (tc : Int32) (S : Nat → Nat) (G : Nat → Nat → Int32) (p : Nat) : Nat → Nat → ip_P := fun pc k L st hp => pc = 4 ∧ ∃ (m : Nat) (x y : Int32), m ≤ S 3 ∧ k = 4 - m ∧ L = [some (.ref 10), some (.int (nI p)), some (.int x), some (.int y)] ∧ st = [] ∧ hp = hpC tc S G ∧ x = nI (bs m (fun m => S (50 + m) == p)) ∧ y = nI m
set_option maxHeartbeats 4000000 in
theorem p_X0_menIn : ip_Pf fl_X0 [] cs_X0_menIn (some .int) tb_X0_menIn 4 C_X0_menIn := by
  rintro _ _ K ⟨tc, S, G, p, hp0, rfl, rfl, ⟨w1, w2, w3, w4⟩, hK⟩
  refine ⟨Nat.le_of_ble_eq_true rfl, I_X0_menIn tc S G p, ?_, ?_⟩
  · exact Exists.intro 4 ⟨trivial, rfl, 0, _, _, by omega, rfl, rfl, rfl, rfl, rfl, rfl⟩
  · rintro pc k L st hp ⟨rfl, m, x, y, hm, rfl, rfl, rfl, rfl, rfl, rfl⟩
    refine pk_le (S 3) m (fun h => ?_) (fun h => ?_)
    · obtain rfl : m = S 3 := by omega
      exact hK
    refine pk_le 4 m (fun h2 => ?_) (fun h2 => ?_)
    · omega
    obtain ⟨-, w5, -⟩ := w4 m (by omega)
    have hb := bs_lt (fun m => S (50 + m) == p) m
    have hin : vp_in (nI m) 4 := pk_in m 4 h2
    have hbr : ∀ {X Y : Prop}, (S (50 + m) ≠ p → X) → (S (50 + m) = p → Y) → (¬ nI (S (50 + m)) = nI p → X) ∧ (nI (S (50 + m)) = nI p → Y) := fun f g => pk_ne _ p f g
    have hn : ∀ x y : Int32, x = nI (bs (m + 1) (fun m => S (50 + m) == p)) → y = nI (m + 1) → ∃ k, ip_lt k (some (4 - m)) ∧ I_X0_menIn tc S G p 4 k [some (.ref 10), some (.int (nI p)), some (.int x), some (.int y)] [] (hpC tc S G) := fun x y hx hy => ⟨4 - (m + 1), by show _ < _; omega, rfl, m + 1, x, y, by omega, rfl, rfl, rfl, rfl, hx, hy⟩
    have h0 : S (50 + m) ≠ p → nI (bs m (fun m => S (50 + m) == p)) = nI (bs (m + 1) (fun m => S (50 + m) == p)) := fun h3 => by simp [bs, h3]
    have h1 : S (50 + m) = p → nI (bs m (fun m => S (50 + m) == p)) ||| ((1 : Int32) <<< (nI m &&& 31)) = nI (bs (m + 1) (fun m => S (50 + m) == p)) := fun h3 => by rw [or_bit hb (by omega)]; simp [bs, h3]
    have h9 : nI m + 1 = nI (m + 1) := nI_1 m
    rcases four h2 with rfl | rfl | rfl | rfl
    all_goals
      refine And.intro hin ?_
      refine hbr (fun h3 => ?_) (fun h3 => ?_)
      · exact hn _ _ (h0 h3) h9
      · exact hn _ _ (h1 h3) h9
set_option maxRecDepth 100000 in
set_option maxHeartbeats 4000000 in
theorem m_X0_menIn (l : Launch) : ip_Met l yX0_menIn cX0_menIn 4 (some .int) (ip_rm 0) C_X0_menIn := ip_met tb_X0_menIn 400 (by decide +kernel) fl_X0_ok ip_cn0 (ip_cs0) ck_X0_menIn rfl p_X0_menIn
end
section
/-! ===== Man, dangers ===== -/
theorem sw12 {kd : Nat} (h : kd ≤ 2) {X Y Z : Prop} (f1 : kd = 1 → X) (f2 : kd = 2 → Y) (f0 : kd = 0 → Z) : ((1 : Int) = (nI kd).toInt → X) ∧ (¬ (1 : Int) = (nI kd).toInt → ((2 : Int) = (nI kd).toInt → Y) ∧ (¬ (2 : Int) = (nI kd).toInt → Z)) := by
  rw [ti_n (by omega)]
  exact ⟨fun q => f1 (by omega), fun q => ⟨fun q2 => f2 (by omega), fun q2 => f0 (by omega)⟩⟩
def rb (tr kd li : Nat) : Nat := if kd = 2 then 0 else if kd = 1 then li ||| tr else li
def wb (tr kd li : Nat) : Nat := if kd = 2 then li else if kd = 1 then 63 ^^^ (li ||| tr) else 0
theorem or64 {a b : Nat} (ha : a < 64) (hb : b < 64) : a ||| b < 64 := Nat.or_lt_two_pow (n := 6) ha hb
theorem rb_lt {tr kd li : Nat} (h1 : tr < 64) (h2 : li < 64) : rb tr kd li < 64 := by
  unfold rb
  split
  · omega
  · split
    · exact or64 h2 h1
    · exact h2
theorem x63 : ∀ a : Fin 64, 63 ^^^ a.val < 64 := by decide +kernel
theorem x63b : ∀ a : Fin 64, ∀ q : Fin 6, (63 ^^^ a.val).testBit q.val = !a.val.testBit q.val := by decide +kernel
theorem nb63 : ∀ a : Fin 64, (63 : Int32) &&& (nI a.val ^^^ (-1)) = nI (63 ^^^ a.val) := by decide +kernel
theorem wb_lt {tr kd li : Nat} (h1 : tr < 64) (h2 : li < 64) : wb tr kd li < 64 := by
  unfold wb
  split
  · exact h2
  · split
    · exact x63 ⟨_, or64 h2 h1⟩
    · omega
theorem rb_bit {tr kd li : Nat} (q : Nat) : (rb tr kd li).testBit q = ar tr kd li q := by
  unfold rb ar
  split
  · rename_i h; simp [h]
  · rename_i h
    split
    · rename_i h2; simp [h2, Nat.testBit_or]
    · rename_i h2
      have h3 : (kd != 2) = true := by simpa using h
      have h4 : (kd == 1) = false := by simpa using h2
      rw [h3, h4]; simp
theorem wbs_bit {tr kd li q : Nat} (h1 : tr < 64) (h2 : li < 64) (hq : q < 6) : (wb tr kd li).testBit q = aw tr kd li q := by
  unfold wb aw
  split
  · rename_i h; simp [h]
  · rename_i h
    split
    · rename_i h3
      have := x63b ⟨_, or64 h2 h1⟩ ⟨q, hq⟩
      simp only at this
      rw [this]
      simp [h3, Nat.testBit_or]
    · rename_i h3; simp [h, h3]
def C_X2_rightBy : ip_C := fun vs hp K => ∃ tc S G, ∃ m tr : Nat, m < 4 ∧ vs = [.ref (12 + m), .int (nI tr)] ∧ hp = hpC tc S G ∧ wfM S ∧ K (some (.int (nI (rb tr (S (40 + m)) (S (60 + m)))))) hp
def cs_X2_rightBy : List ip_G := []
theorem p_X2_rightBy : ip_Pf fl_X2 [] cs_X2_rightBy (some .int) tb_X2_rightBy 2 C_X2_rightBy := ip_pf0 (by
  rintro _ _ K ⟨tc, S, G, m, tr, hm, rfl, rfl, ⟨w1, w2, w3, w4⟩, hK⟩
  refine ⟨Nat.le_of_ble_eq_true rfl, ?_⟩
  obtain ⟨k1, k2, k3⟩ := w4 m hm
  have hsw : ∀ {X Y Z : Prop}, (S (40 + m) = 1 → X) → (S (40 + m) = 2 → Y) → (S (40 + m) = 0 → Z) → ((1 : Int) = (nI (S (40 + m))).toInt → X) ∧ (¬ (1 : Int) = (nI (S (40 + m))).toInt → ((2 : Int) = (nI (S (40 + m))).toInt → Y) ∧ (¬ (2 : Int) = (nI (S (40 + m))).toInt → Z)) := fun f1 f2 f0 => sw12 k1 f1 f2 f0
  have e1 : S (40 + m) = 1 → K (some (.int (nI (S (60 + m)) ||| nI tr))) (hpC tc S G) := fun h => by rw [fa_or]; rw [rb, if_neg (by omega), if_pos h] at hK; exact hK
  have e2 : S (40 + m) = 2 → K (some (.int 0)) (hpC tc S G) := fun h => by rw [rb, if_pos h] at hK; exact hK
  have e0 : S (40 + m) = 0 → K (some (.int (nI (S (60 + m))))) (hpC tc S G) := fun h => by rw [rb, if_neg (by omega), if_neg (by omega)] at hK; exact hK
  rcases four hm with rfl | rfl | rfl | rfl
  all_goals exact hsw e1 e2 e0)
set_option maxRecDepth 100000 in
set_option maxHeartbeats 4000000 in
theorem m_X2_rightBy (l : Launch) : ip_Met l yX2_rightBy cX2_rightBy 2 (some .int) (ip_rm 0) C_X2_rightBy := ip_met tb_X2_rightBy 400 (by decide +kernel) fl_X2_ok ip_cn0 (ip_cs0) ck_X2_rightBy rfl p_X2_rightBy
def C_X2_wrongBy : ip_C := fun vs hp K => ∃ tc S G, ∃ m tr : Nat, m < 4 ∧ tr < 64 ∧ vs = [.ref (12 + m), .int (nI tr)] ∧ hp = hpC tc S G ∧ wfM S ∧ K (some (.int (nI (wb tr (S (40 + m)) (S (60 + m)))))) hp
def cs_X2_wrongBy : List ip_G := []
theorem p_X2_wrongBy : ip_Pf fl_X2 [] cs_X2_wrongBy (some .int) tb_X2_wrongBy 2 C_X2_wrongBy := ip_pf0 (by
  rintro _ _ K ⟨tc, S, G, m, tr, hm, ht, rfl, rfl, ⟨w1, w2, w3, w4⟩, hK⟩
  refine ⟨Nat.le_of_ble_eq_true rfl, ?_⟩
  obtain ⟨k1, k2, k3⟩ := w4 m hm
  have hsw : ∀ {X Y Z : Prop}, (S (40 + m) = 1 → X) → (S (40 + m) = 2 → Y) → (S (40 + m) = 0 → Z) → ((1 : Int) = (nI (S (40 + m))).toInt → X) ∧ (¬ (1 : Int) = (nI (S (40 + m))).toInt → ((2 : Int) = (nI (S (40 + m))).toInt → Y) ∧ (¬ (2 : Int) = (nI (S (40 + m))).toInt → Z)) := fun f1 f2 f0 => sw12 k1 f1 f2 f0
  have e1 : S (40 + m) = 1 → K (some (.int (63 &&& ((nI (S (60 + m)) ||| nI tr) ^^^ (-1))))) (hpC tc S G) := fun h => by
    have hb := nb63 ⟨_, or64 k3 ht⟩
    simp only at hb
    rw [fa_or, hb]; rw [wb, if_neg (by omega), if_pos h] at hK; exact hK
  have e2 : S (40 + m) = 2 → K (some (.int (nI (S (60 + m))))) (hpC tc S G) := fun h => by rw [wb, if_pos h] at hK; exact hK
  have e0 : S (40 + m) = 0 → K (some (.int 0)) (hpC tc S G) := fun h => by rw [wb, if_neg (by omega), if_neg (by omega)] at hK; exact hK
  rcases four hm with rfl | rfl | rfl | rfl
  all_goals exact hsw e1 e2 e0)
set_option maxRecDepth 100000 in
set_option maxHeartbeats 4000000 in
theorem m_X2_wrongBy (l : Launch) : ip_Met l yX2_wrongBy cX2_wrongBy 2 (some .int) (ip_rm 0) C_X2_wrongBy := ip_met tb_X2_wrongBy 400 (by decide +kernel) fl_X2_ok ip_cn0 (ip_cs0) ck_X2_wrongBy rfl p_X2_wrongBy
def RB (S : Nat → Nat) (th : Nat → Bool) : Nat → Nat
  | 0 => 0
  | n + 1 => if th n then RB S th n ||| rb (S 1) (S (40 + n)) (S (60 + n)) else RB S th n
def WB (S : Nat → Nat) (th : Nat → Bool) : Nat → Nat
  | 0 => 0
  | n + 1 => if th n then WB S th n ||| wb (S 1) (S (40 + n)) (S (60 + n)) else WB S th n
theorem RB_lt {S : Nat → Nat} (hS : wfM S) (th : Nat → Bool) : ∀ n, n ≤ 4 → RB S th n < 64 ∧ WB S th n < 64
  | 0, _ => by simp [RB, WB]
  | n + 1, h => by
    obtain ⟨a, b⟩ := RB_lt hS th n (by omega)
    obtain ⟨-, -, k⟩ := hS.2.2.2 n (by omega)
    simp only [RB, WB]
    constructor
    · split
      · exact or64 a (rb_lt hS.1 k)
      · exact a
    · split
      · exact or64 b (wb_lt hS.1 k)
      · exact b
theorem RB_bit {S : Nat → Nat} (hS : wfM S) (th : Nat → Bool) {q : Nat} (hq : q < 6) : ∀ n, n ≤ 4 → (RB S th n).testBit q = anyb n (fun m => th m && ar (S 1) (S (40 + m)) (S (60 + m)) q) ∧ (WB S th n).testBit q = anyb n (fun m => th m && aw (S 1) (S (40 + m)) (S (60 + m)) q)
  | 0, _ => by simp [RB, WB, anyb]
  | n + 1, h => by
    obtain ⟨a, b⟩ := RB_bit hS th hq n (by omega)
    obtain ⟨-, -, k⟩ := hS.2.2.2 n (by omega)
    simp only [RB, WB, anyb]
    constructor
    · split
      · rename_i ht; rw [Nat.testBit_or, a, rb_bit, ht]; simp
      · rename_i ht; simp [ht, a]
    · split
      · rename_i ht; rw [Nat.testBit_or, b, wbs_bit hS.1 k hq, ht]; simp
      · rename_i ht; simp [ht, b]
theorem dgc : ∀ R W : Fin 64, (63 : Int32) &&& ((nI R.val &&& (nI W.val ^^^ (-1))) ^^^ (-1)) = nI (bs 6 (fun q => !(R.val.testBit q && !W.val.testBit q))) := by decide +kernel
theorem dgs_RB {S : Nat → Nat} (hS : wfM S) (th : Nat → Bool) : bs 6 (fun q => !((RB S th (S 3)).testBit q && !(WB S th (S 3)).testBit q)) = dgs S th := by
  refine bs_cong (fun q hq => ?_)
  obtain ⟨a, b⟩ := RB_bit hS th hq (S 3) hS.2.2.1
  rw [a, b]
  rfl
theorem dgs_lt (S : Nat → Nat) (pr : Nat → Bool) : dgs S pr < 64 := bs_lt _ 6
theorem dgs_cong {S : Nat → Nat} {p p' : Nat → Bool} (h : ∀ m, m < S 3 → p m = p' m) : dgs S p = dgs S p' := bs_cong (fun q _ => by rw [heldS, heldS, held_cong (fun m hm => ⟨rfl, rfl, h m hm⟩)])
def C_X0_dangersBy : ip_C := fun vs hp K => ∃ tc S G, ∃ th : Nat, th < 16 ∧ vs = [.ref 10, .int (nI th)] ∧ hp = hpC tc S G ∧ wfM S ∧ K (some (.int (nI (dgs S (fun m => th.testBit m))))) hp
def cs_X0_dangersBy : List ip_G := [(28, 2, 0, C_X7_holds), (35, 2, 2, C_X2_rightBy), (39, 2, 2, C_X2_wrongBy)]
def I_X0_dangersBy (tc : Int32) (S : Nat → Nat) (G : Nat → Nat → Int32) (th : Nat) : Nat → Nat → ip_P := fun pc k L st hp => pc = 7 ∧ ∃ (m : Nat) (x y z : Int32), m ≤ S 3 ∧ k = 4 - m ∧ L = [some (.ref 10), some (.int (nI th)), some (.int x), some (.int y), some (.int z)] ∧ st = [] ∧ hp = hpC tc S G ∧ x = nI (RB S (fun m => th.testBit m) m) ∧ y = nI (WB S (fun m => th.testBit m) m) ∧ z = nI m
set_option maxHeartbeats 4000000 in
theorem p_X0_dangersBy : ip_Pf fl_X0 [] cs_X0_dangersBy (some .int) tb_X0_dangersBy 5 C_X0_dangersBy := by
  rintro _ _ K ⟨tc, S, G, th, hth, rfl, rfl, hwf, hK⟩
  obtain ⟨w1, w2, w3, w4⟩ := id hwf
  refine ⟨Nat.le_of_ble_eq_true rfl, I_X0_dangersBy tc S G th, ?_, ?_⟩
  · exact Exists.intro 4 ⟨trivial, rfl, 0, _, _, _, by omega, rfl, rfl, rfl, rfl, rfl, rfl, rfl⟩
  · rintro pc k L st hp ⟨rfl, m, x, y, z, hm, rfl, rfl, rfl, rfl, rfl, rfl, rfl⟩
    have hend : m = S 3 → K (some (.int ((63 : Int32) &&& ((nI (RB S (fun m => th.testBit m) m) &&& (nI (WB S (fun m => th.testBit m) m) ^^^ (-1))) ^^^ (-1))))) (hpC tc S G) := by
      rintro rfl
      obtain ⟨a, b⟩ := RB_lt hwf (fun m => th.testBit m) (S 3) w3
      have hd := dgc ⟨_, a⟩ ⟨_, b⟩
      simp only at hd
      rw [hd, dgs_RB hwf]
      exact hK
    refine pk_le (S 3) m (fun h => ?_) (fun h => ?_)
    · exact hend (by omega)
    refine pk_le 4 m (fun h2 => ?_) (fun h2 => ?_)
    · omega
    have hin : vp_in (nI m) 4 := pk_in m 4 h2
    have hn : ∀ x y z : Int32, x = nI (RB S (fun m => th.testBit m) (m + 1)) → y = nI (WB S (fun m => th.testBit m) (m + 1)) → z = nI (m + 1) → ∃ k, ip_lt k (some (4 - m)) ∧ I_X0_dangersBy tc S G th 7 k [some (.ref 10), some (.int (nI th)), some (.int x), some (.int y), some (.int z)] [] (hpC tc S G) := fun x y z hx hy hz => ⟨4 - (m + 1), by show _ < _; omega, rfl, m + 1, x, y, z, by omega, rfl, rfl, rfl, rfl, hx, hy, hz⟩
    have h9 : nI m + 1 = nI (m + 1) := nI_1 m
    have h0 : th.testBit m = false → nI (RB S (fun m => th.testBit m) m) = nI (RB S (fun m => th.testBit m) (m + 1)) ∧ nI (WB S (fun m => th.testBit m) m) = nI (WB S (fun m => th.testBit m) (m + 1)) := fun h => by simp [RB, WB, h]
    have h1 : th.testBit m = true → nI (RB S (fun m => th.testBit m) m) ||| nI (rb (S 1) (S (40 + m)) (S (60 + m))) = nI (RB S (fun m => th.testBit m) (m + 1)) ∧ nI (WB S (fun m => th.testBit m) m) ||| nI (wb (S 1) (S (40 + m)) (S (60 + m))) = nI (WB S (fun m => th.testBit m) (m + 1)) := fun h => by simp [RB, WB, h, fa_or]
    refine Exists.intro th ⟨m, by omega, by omega, rfl, ?_⟩
    refine ip_bt (fun h3 => ?_) (fun h3 => ?_)
    · exact hn _ _ _ (h0 h3).1 (h0 h3).2 h9
    obtain ⟨h1a, h1b⟩ := h1 h3
    rcases four h2 with rfl | rfl | rfl | rfl
    all_goals
      refine And.intro hin ?_
      refine Exists.intro tc ⟨S, G, _, S 1, h2, rfl, rfl, hwf, ?_⟩
      refine And.intro hin ?_
      refine Exists.intro tc ⟨S, G, _, S 1, h2, w1, rfl, rfl, hwf, ?_⟩
      exact hn _ _ _ h1a h1b h9
set_option maxRecDepth 100000 in
set_option maxHeartbeats 4000000 in
theorem m_X0_dangersBy (l : Launch) : ip_Met l yX0_dangersBy cX0_dangersBy 5 (some .int) (ip_rm 1) C_X0_dangersBy := ip_met tb_X0_dangersBy 400 (by decide +kernel) fl_X0_ok ip_cn0 (ip_cs1 (ip_gsN "ThunderAsks" (m_X7_holds l) (fun U h => h.1) (ip_in [319, 32, 320] (by decide +kernel) (by decide +kernel)) ⟨by decide +kernel, by decide +kernel, by decide +kernel⟩ ⟨rfl, rfl, Nat.le_of_ble_eq_true rfl, Nat.le_of_ble_eq_true rfl⟩) (ip_cs1 (ip_gsV (m_X2_rightBy l) (ip_in [350, 322, 323, 34, 324] (by decide +kernel) (by decide +kernel)) rfl ⟨by decide +kernel, by decide +kernel, by decide +kernel⟩ ⟨rfl, rfl, Nat.le_of_ble_eq_true rfl, Nat.le_of_ble_eq_true rfl⟩) (ip_cs1 (ip_gsV (m_X2_wrongBy l) (ip_in [351, 326, 327, 34, 328] (by decide +kernel) (by decide +kernel)) rfl ⟨by decide +kernel, by decide +kernel, by decide +kernel⟩ ⟨rfl, rfl, Nat.le_of_ble_eq_true rfl, Nat.le_of_ble_eq_true rfl⟩) (ip_cs0)))) ck_X0_dangersBy rfl p_X0_dangersBy
/-- DANGERS of a parish -/
def dgp (S : Nat → Nat) (p : Nat) : Nat := dgs S (fun m => S (50 + m) == p)
theorem dgp_lt (S : Nat → Nat) (p : Nat) : dgp S p < 64 := dgs_lt S _
def C_X0_dangersOf : ip_C := fun vs hp K => ∃ tc S G, ∃ p : Nat, p < 2147483648 ∧ vs = [.ref 10, .int (nI p)] ∧ hp = hpC tc S G ∧ wfM S ∧ K (some (.int (nI (dgp S p)))) hp
def cs_X0_dangersOf : List ip_G := [(42, 2, 1, C_X0_menIn), (45, 2, 1, C_X0_dangersBy)]
theorem bs16 {S : Nat → Nat} (hS : wfM S) (f : Nat → Bool) : bs (S 3) f < 16 := Nat.lt_of_lt_of_le (bs_lt f (S 3)) (Nat.pow_le_pow_right (n := 2) (by omega) hS.2.2.1)
theorem p_X0_dangersOf : ip_Pf fl_X0 [] cs_X0_dangersOf (some .int) tb_X0_dangersOf 2 C_X0_dangersOf := ip_pf0 (by
  rintro _ _ K ⟨tc, S, G, p, hp0, rfl, rfl, hwf, hK⟩
  refine ⟨Nat.le_of_ble_eq_true rfl, ?_⟩
  refine Exists.intro tc ⟨S, G, p, hp0, rfl, rfl, hwf, ?_⟩
  refine Exists.intro tc ⟨S, G, _, bs16 hwf _, rfl, rfl, hwf, ?_⟩
  have e : dgs S (fun m => (bs (S 3) (fun m => S (50 + m) == p)).testBit m) = dgp S p := dgs_cong (fun m hm => by rw [bs_bit]; simp [hm])
  rw [← e] at hK
  exact hK)
set_option maxRecDepth 100000 in
set_option maxHeartbeats 4000000 in
theorem m_X0_dangersOf (l : Launch) : ip_Met l yX0_dangersOf cX0_dangersOf 2 (some .int) (ip_rm 2) C_X0_dangersOf := ip_met tb_X0_dangersOf 400 (by decide +kernel) fl_X0_ok ip_cn0 (ip_cs1 (ip_gsV (m_X0_menIn l) (ip_in [341, 342, 343, 33, 344] (by decide +kernel) (by decide +kernel)) rfl ⟨by decide +kernel, by decide +kernel, by decide +kernel⟩ ⟨rfl, rfl, Nat.le_of_ble_eq_true rfl, Nat.le_of_ble_eq_true rfl⟩) (ip_cs1 (ip_gsV (m_X0_dangersBy l) (ip_in [345, 346, 347, 33, 348] (by decide +kernel) (by decide +kernel)) rfl ⟨by decide +kernel, by decide +kernel, by decide +kernel⟩ ⟨rfl, rfl, Nat.le_of_ble_eq_true rfl, Nat.le_of_ble_eq_true rfl⟩) (ip_cs0))) ck_X0_dangersOf rfl p_X0_dangersOf
/-- STRUCK -/
def stk (S : Nat → Nat) (p q : Nat) : Bool := !heldS S (fun m => S (50 + m) == p) q
theorem dgp_bit {S : Nat → Nat} {p q : Nat} (hq : q < 6) : (dgp S p).testBit q = stk S p q := by
  unfold dgp dgs stk
  rw [bs_bit]
  simp [hq]
def C_X0_isStruck : ip_C := fun vs hp K => ∃ tc S G, ∃ p q : Nat, p < 2147483648 ∧ q < 6 ∧ vs = [.ref 10, .int (nI p), .int (nI q)] ∧ hp = hpC tc S G ∧ wfM S ∧ K (some (.int (ip_bi (stk S p q)))) hp
def cs_X0_isStruck : List ip_G := [(48, 2, 1, C_X0_dangersOf), (28, 2, 0, C_X7_holds)]
theorem p_X0_isStruck : ip_Pf fl_X0 [] cs_X0_isStruck (some .boolean) tb_X0_isStruck 3 C_X0_isStruck := ip_pf0 (by
  rintro _ _ K ⟨tc, S, G, p, q, hp0, hq, rfl, rfl, hwf, hK⟩
  refine ⟨Nat.le_of_ble_eq_true rfl, ?_⟩
  refine Exists.intro tc ⟨S, G, p, hp0, rfl, rfl, hwf, ?_⟩
  refine Exists.intro (dgp S p) ⟨q, dgp_lt S p, hq, rfl, ?_⟩
  rw [dgp_bit hq]
  exact And.intro (ip_bnar _) hK)
set_option maxRecDepth 100000 in
set_option maxHeartbeats 4000000 in
theorem m_X0_isStruck (l : Launch) : ip_Met l yX0_isStruck cX0_isStruck 3 (some .boolean) (ip_rm 3) C_X0_isStruck := ip_met tb_X0_isStruck 400 (by decide +kernel) fl_X0_ok ip_cn0 (ip_cs1 (ip_gsV (m_X0_dangersOf l) (ip_in [337, 338, 339, 33, 340] (by decide +kernel) (by decide +kernel)) rfl ⟨by decide +kernel, by decide +kernel, by decide +kernel⟩ ⟨rfl, rfl, Nat.le_of_ble_eq_true rfl, Nat.le_of_ble_eq_true rfl⟩) (ip_cs1 (ip_gsN "ThunderAsks" (m_X7_holds l) (fun U h => h.1) (ip_in [319, 32, 320] (by decide +kernel) (by decide +kernel)) ⟨by decide +kernel, by decide +kernel, by decide +kernel⟩ ⟨rfl, rfl, Nat.le_of_ble_eq_true rfl, Nat.le_of_ble_eq_true rfl⟩) (ip_cs0))) ck_X0_isStruck rfl p_X0_isStruck
end
section
/-! ===== rows of numbers: fill, Sheet ===== -/
theorem up_same {α : Type} (G : Nat → α) (j : Nat) : va_up G j (G j) = G := by
  funext i
  unfold va_up
  split
  · rename_i h; rw [h]
  · rfl
/-- where a row stands, how long it is -/
def rowAt (j a n : Nat) : Prop := (j = 0 ∧ a = 3 ∧ n = 60) ∨ (j = 1 ∧ a = 5 ∧ n = 60) ∨ (j = 2 ∧ a = 7 ∧ n = 60) ∨ (j = 3 ∧ a = 9 ∧ n = 60) ∨ (j = 9 ∧ a = 24 ∧ n = 96) ∨ (j = 10 ∧ a = 25 ∧ n = 6)
def C_J7_fill : ip_C := fun vs hp K => ∃ tc S G, ∃ (j a n : Nat) (v : Int32), rowAt j a n ∧ vs = [.ref a, .int v] ∧ hp = hpC tc S G ∧ K none (hpC tc S (va_up G j (fa_fill (fun _ => v) (G j) n)))
def cs_J7_fill : List ip_G := []
def I_J7_fill (tc : Int32) (S : Nat → Nat) (G : Nat → Nat → Int32) (j a n : Nat) (v : Int32) : Nat → Nat → ip_P := fun pc k L st hp => pc = 5 ∧ ∃ (i : Nat) (x : Int32) (F : Nat → Int32), i ≤ n ∧ k = n - i ∧ L = [some (.ref a), some (.int v), some (.int x), some (.int (nI n))] ∧ st = [] ∧ hp = hpC tc S (va_up G j F) ∧ x = nI i ∧ F = fa_fill (fun _ => v) (G j) i
set_option maxHeartbeats 4000000 in
set_option maxRecDepth 100000 in
theorem p_J7_fill : ip_Pf [] [] cs_J7_fill none tb_J7_fill_53178 4 C_J7_fill := by
  rintro _ _ K ⟨tc, S, G, j, a, n, v, hr, rfl, rfl, hK⟩
  refine ⟨Nat.le_of_ble_eq_true rfl, I_J7_fill tc S G j a n v, ?_, ?_⟩
  · have h0 : fa_fill (fun _ => v) (G j) 0 = G j := fa_fill_0 _ _
    have hG : hpC tc S G = hpC tc S (va_up G j (fa_fill (fun _ => v) (G j) 0)) := by rw [h0, up_same]
    rw [hG]
    rcases hr with ⟨rfl, rfl, rfl⟩ | ⟨rfl, rfl, rfl⟩ | ⟨rfl, rfl, rfl⟩ | ⟨rfl, rfl, rfl⟩ | ⟨rfl, rfl, rfl⟩ | ⟨rfl, rfl, rfl⟩
    all_goals exact Exists.intro _ ⟨trivial, rfl, 0, _, _, Nat.zero_le _, rfl, rfl, rfl, rfl, rfl, rfl⟩
  · rintro pc k L st hp ⟨rfl, i, x, F, hi, rfl, rfl, rfl, rfl, rfl, rfl⟩
    have hn : n < 100 := by rcases hr with h | h | h | h | h | h <;> omega
    have hbr : ∀ {X Y : Prop}, (n ≤ i → X) → (i < n → Y) → (nI n ≤ nI i → X) ∧ (¬ nI n ≤ nI i → Y) := fun f g => pk_le n i f g
    have hend : n ≤ i → K none (hpC tc S (va_up G j (fa_fill (fun _ => v) (G j) i))) := fun h => by
      have : i = n := by omega
      subst this; exact hK
    have hin : i < n → vp_in (nI i) n := fun h => pk_in i n h
    have hnx : i < n → ∀ (x : Int32) (F : Nat → Int32), x = nI (i + 1) → F = fa_fill (fun _ => v) (G j) (i + 1) → ∃ k, ip_lt k (some (n - i)) ∧ I_J7_fill tc S G j a n v 5 k [some (.ref a), some (.int v), some (.int x), some (.int (nI n))] [] (hpC tc S (va_up G j F)) := fun h x F hx hF => ⟨n - (i + 1), by show _ < _; omega, rfl, i + 1, x, F, by omega, rfl, rfl, rfl, rfl, hx, hF⟩
    have h9 : nI i + 1 = nI (i + 1) := nI_1 i
    have h8 : upd (fa_fill (fun _ => v) (G j) i) (nI i).toNatClampNeg v = fa_fill (fun _ => v) (G j) (i + 1) := by
      rw [nI_clamp (by omega)]
      exact fa_fill_succ (fun _ => v) (G j) i
    rcases hr with ⟨rfl, rfl, rfl⟩ | ⟨rfl, rfl, rfl⟩ | ⟨rfl, rfl, rfl⟩ | ⟨rfl, rfl, rfl⟩ | ⟨rfl, rfl, rfl⟩ | ⟨rfl, rfl, rfl⟩
    all_goals
      refine hbr (fun h => hend h) (fun h => ?_)
      refine And.intro (hin h) ?_
      exact hnx h _ _ h9 h8
set_option maxRecDepth 100000 in
set_option maxHeartbeats 4000000 in
theorem m_J7_fill (l : Launch) : ip_Met l yJ7_fill_53178 cJ7_fill_53178 4 none (ip_rm 0) C_J7_fill := ip_met tb_J7_fill_53178 400 (by decide +kernel) ip_fl0 ip_cn0 (ip_cs0) ck_J7_fill_53178 rfl p_J7_fill
def wfH (S : Nat → Nat) : Prop := ∀ k, k < 4 → S (10 + k) ≤ 1 ∧ S (20 + k) ≤ 2 ∧ S (30 + k) ≤ 60
def C_X5_hasCells : ip_C := fun vs hp K => ∃ tc S G, ∃ (k : Nat) (i n : Int32), k < 4 ∧ vs = [.ref (2 + 2 * k), .int i, .int n] ∧ hp = hpC tc S G ∧ wfH S ∧ ∀ b : Bool, (b = true ↔ 0 ≤ n.toInt ∧ 0 ≤ i.toInt ∧ i.toInt + n.toInt ≤ S (30 + k)) → K (some (.int (ip_bi b))) hp
def cs_X5_hasCells : List ip_G := []
theorem p_X5_hasCells : ip_Pf fl_X5 [] cs_X5_hasCells (some .boolean) tb_X5_hasCells 3 C_X5_hasCells := ip_pf0 (by
  rintro _ _ K ⟨tc, S, G, k, i, n, hk, rfl, rfl, hwf, hK⟩
  refine ⟨Nat.le_of_ble_eq_true rfl, ?_⟩
  obtain ⟨-, -, hz⟩ := hwf k hk
  have hri := fb_rng i
  have b1 : ∀ {X Y : Prop}, ((S (30 + k) : Int) < i.toInt → X) → (i.toInt ≤ (S (30 + k) : Int) → Y) → (nI (S (30 + k)) < i → X) ∧ (¬ nI (S (30 + k)) < i → Y) := fun f g => bz_lt _ _ f g (ti_n (by omega)) rfl
  have es := ti_n (n := S (30 + k)) (by omega)
  have b2 : ∀ {X Y : Prop}, 0 ≤ i.toInt → i.toInt ≤ (S (30 + k) : Int) → ((S (30 + k) : Int) - i.toInt < n.toInt → X) → (n.toInt ≤ (S (30 + k) : Int) - i.toInt → Y) → (nI (S (30 + k)) - i < n → X) ∧ (¬ nI (S (30 + k)) - i < n → Y) := fun h1 h2 f g => bz_lt ((S (30 + k) : Int) - i.toInt) n.toInt f g (by rw [fb_subI (by rw [es]; omega) (by rw [es]; omega), es]) rfl
  have kF : ¬ (0 ≤ n.toInt ∧ 0 ≤ i.toInt ∧ i.toInt + n.toInt ≤ S (30 + k)) → K (some (.int 0)) (hpC tc S G) := fun h => hK false (by simpa using h)
  have kT : (0 ≤ n.toInt ∧ 0 ≤ i.toInt ∧ i.toInt + n.toInt ≤ S (30 + k)) → K (some (.int 1)) (hpC tc S G) := fun h => hK true (by simpa using h)
  refine bz_lt n.toInt 0 (fun h => ?_) (fun h => ?_)
  · exact And.intro rfl (kF (by omega))
  refine bz_lt i.toInt 0 (fun h2 => ?_) (fun h2 => ?_)
  · exact And.intro rfl (kF (by omega))
  rcases four hk with rfl | rfl | rfl | rfl
  all_goals
    refine b1 (fun h3 => ?_) (fun h3 => ?_)
    · exact And.intro rfl (kF (by omega))
    refine b2 h2 h3 (fun h4 => ?_) (fun h4 => ?_)
    · exact And.intro rfl (kF (by omega))
    · exact And.intro rfl (kT (by omega)))
set_option maxRecDepth 100000 in
set_option maxHeartbeats 4000000 in
theorem m_X5_hasCells (l : Launch) : ip_Met l yX5_hasCells cX5_hasCells 3 (some .boolean) (ip_rm 0) C_X5_hasCells := ip_met tb_X5_hasCells 400 (by decide +kernel) fl_X5_ok ip_cn0 (ip_cs0) ck_X5_hasCells rfl p_X5_hasCells
def fo (S : Nat → Nat) (k : Nat) (w i n : Int) : Nat := if S (10 + k) = 0 then 1 else if (S (20 + k) : Int) ≠ w then 2 else if n < 0 then 4 else if 0 ≤ i ∧ i + n ≤ S (30 + k) then 0 else 3
def C_X5_faultOf : ip_C := fun vs hp K => ∃ tc S G, ∃ (k : Nat) (w i n : Int32), k < 4 ∧ vs = [.ref (2 + 2 * k), .int w, .int i, .int n] ∧ hp = hpC tc S G ∧ wfH S ∧ K (some (.int (nI (fo S k w.toInt i.toInt n.toInt)))) hp
def cs_X5_faultOf : List ip_G := [(41, 3, 5, C_X5_hasCells)]
theorem p_X5_faultOf : ip_Pf fl_X5 [] cs_X5_faultOf (some .int) tb_X5_faultOf 4 C_X5_faultOf := ip_pf0 (by
  rintro _ _ K ⟨tc, S, G, k, w, i, n, hk, rfl, rfl, hwf, hK⟩
  refine ⟨Nat.le_of_ble_eq_true rfl, ?_⟩
  obtain ⟨ht, hl, hz⟩ := hwf k hk
  have b0 : ∀ {X Y : Prop}, (S (10 + k) ≠ 0 → X) → (S (10 + k) = 0 → Y) → (¬ nI (S (10 + k)) = 0 → X) ∧ (nI (S (10 + k)) = 0 → Y) := fun f g => pk_ne _ 0 f g
  have b1 : ∀ {X Y : Prop}, ((S (20 + k) : Int) = w.toInt → X) → ((S (20 + k) : Int) ≠ w.toInt → Y) → (nI (S (20 + k)) = w → X) ∧ (¬ nI (S (20 + k)) = w → Y) := fun f g => bz_eq _ _ f g (ti_n (by omega)) rfl
  have k1 : S (10 + k) = 0 → K (some (.int 1)) (hpC tc S G) := fun h => by rw [fo, if_pos h] at hK; exact hK
  have k2 : S (10 + k) ≠ 0 → (S (20 + k) : Int) ≠ w.toInt → K (some (.int 2)) (hpC tc S G) := fun h h2 => by rw [fo, if_neg h, if_pos h2] at hK; exact hK
  have k4 : S (10 + k) ≠ 0 → (S (20 + k) : Int) = w.toInt → n.toInt < 0 → K (some (.int 4)) (hpC tc S G) := fun h h2 h3 => by rw [fo, if_neg h, if_neg (by simpa using h2), if_pos h3] at hK; exact hK
  have k0 : S (10 + k) ≠ 0 → (S (20 + k) : Int) = w.toInt → ¬ n.toInt < 0 → (0 ≤ i.toInt ∧ i.toInt + n.toInt ≤ S (30 + k)) → K (some (.int 0)) (hpC tc S G) := fun h h2 h3 h4 => by rw [fo, if_neg h, if_neg (by simpa using h2), if_neg h3, if_pos h4] at hK; exact hK
  have k3 : S (10 + k) ≠ 0 → (S (20 + k) : Int) = w.toInt → ¬ n.toInt < 0 → ¬ (0 ≤ i.toInt ∧ i.toInt + n.toInt ≤ S (30 + k)) → K (some (.int 3)) (hpC tc S G) := fun h h2 h3 h4 => by rw [fo, if_neg h, if_neg (by simpa using h2), if_neg h3, if_neg h4] at hK; exact hK
  rcases four hk with rfl | rfl | rfl | rfl
  all_goals
    refine b0 (fun h => ?_) (fun h => ?_)
    · refine b1 (fun h2 => ?_) (fun h2 => ?_)
      · refine bz_le 0 n.toInt (fun h3 => ?_) (fun h3 => ?_)
        · refine Exists.intro tc ⟨S, G, _, i, n, hk, rfl, rfl, hwf, fun b hb => ?_⟩
          refine ip_bt (fun h4 => ?_) (fun h4 => ?_)
          · exact k3 h h2 (by omega) (fun q => by rw [hb.mpr ⟨h3, q⟩] at h4; cases h4)
          · exact k0 h h2 (by omega) (hb.mp h4).2
        · exact k4 h h2 h3
      · exact k2 h h2
    · exact k1 h)
set_option maxRecDepth 100000 in
set_option maxHeartbeats 4000000 in
theorem m_X5_faultOf (l : Launch) : ip_Met l yX5_faultOf cX5_faultOf 4 (some .int) (ip_rm 1) C_X5_faultOf := ip_met tb_X5_faultOf 400 (by decide +kernel) fl_X5_ok ip_cn0 (ip_cs1 (ip_gsV (m_X5_hasCells l) (ip_in [241, 242, 243, 38, 244] (by decide +kernel) (by decide +kernel)) rfl ⟨by decide +kernel, by decide +kernel, by decide +kernel⟩ ⟨rfl, rfl, Nat.le_of_ble_eq_true rfl, Nat.le_of_ble_eq_true rfl⟩) (ip_cs0)) ck_X5_faultOf rfl p_X5_faultOf
def vat (S : Nat → Nat) (G : Nat → Nat → Int32) (k : Nat) (i : Int) : Int32 := if 0 ≤ i ∧ i < S (30 + k) then G k i.toNat else 0
theorem cl_nat (x : Int32) : x.toNatClampNeg = x.toInt.toNat := rfl
def C_X5_valueAt : ip_C := fun vs hp K => ∃ tc S G, ∃ (k : Nat) (i : Int32), k < 4 ∧ vs = [.ref (2 + 2 * k), .int i] ∧ hp = hpC tc S G ∧ wfH S ∧ K (some (.int (vat S G k i.toInt))) hp
def cs_X5_valueAt : List ip_G := [(41, 3, 5, C_X5_hasCells)]
theorem p_X5_valueAt : ip_Pf fl_X5 [] cs_X5_valueAt (some .int) tb_X5_valueAt 2 C_X5_valueAt := ip_pf0 (by
  rintro _ _ K ⟨tc, S, G, k, i, hk, rfl, rfl, hwf, hK⟩
  refine ⟨Nat.le_of_ble_eq_true rfl, ?_⟩
  obtain ⟨-, -, hz⟩ := hwf k hk
  have k0 : ¬ (0 ≤ i.toInt ∧ i.toInt < S (30 + k)) → K (some (.int 0)) (hpC tc S G) := fun h => by rw [vat, if_neg h] at hK; exact hK
  have k1 : (0 ≤ i.toInt ∧ i.toInt < S (30 + k)) → vp_in i 60 ∧ K (some (.int (G k i.toNatClampNeg))) (hpC tc S G) := fun h => by
    rw [vat, if_pos h] at hK
    exact ⟨vp_in_iff.mpr ⟨h.1, by omega⟩, hK⟩
  have one : (1 : Int32).toInt = 1 := by decide
  rcases four hk with rfl | rfl | rfl | rfl
  all_goals
    refine Exists.intro tc ⟨S, G, _, i, 1, hk, rfl, rfl, hwf, fun b hb => ?_⟩
    rw [one] at hb
    refine ip_bt (fun h => ?_) (fun h => ?_)
    · exact k0 (fun q => by rw [hb.mpr ⟨by omega, q.1, by omega⟩] at h; cases h)
    · have h2 := hb.mp h
      exact k1 ⟨h2.2.1, by omega⟩)
set_option maxRecDepth 100000 in
set_option maxHeartbeats 4000000 in
theorem m_X5_valueAt (l : Launch) : ip_Met l yX5_valueAt cX5_valueAt 2 (some .int) (ip_rm 1) C_X5_valueAt := ip_met tb_X5_valueAt 400 (by decide +kernel) fl_X5_ok ip_cn0 (ip_cs1 (ip_gsV (m_X5_hasCells l) (ip_in [241, 242, 243, 38, 244] (by decide +kernel) (by decide +kernel)) rfl ⟨by decide +kernel, by decide +kernel, by decide +kernel⟩ ⟨rfl, rfl, Nat.le_of_ble_eq_true rfl, Nat.le_of_ble_eq_true rfl⟩) (ip_cs0)) ck_X5_valueAt rfl p_X5_valueAt
def cut (ln : Nat) (v : Int32) : Int32 := if ln = 0 then v.toInt8.toInt32 else if ln = 1 then v.toInt16.toInt32 else v
def C_X5_write : ip_C := fun vs hp K => ∃ tc S G, ∃ (k : Nat) (i v : Int32), k < 4 ∧ vs = [.ref (2 + 2 * k), .int i, .int v] ∧ hp = hpC tc S G ∧ wfH S ∧ 0 ≤ i.toInt ∧ i.toInt < S (30 + k) ∧ K none (hpC tc S (va_up G k (upd (G k) i.toNatClampNeg (cut (S (20 + k)) v))))
def cs_X5_write : List ip_G := [(41, 3, 5, C_X5_hasCells)]
theorem p_X5_write : ip_Pf fl_X5 [] cs_X5_write none tb_X5_write 3 C_X5_write := ip_pf0 (by
  rintro _ _ K ⟨tc, S, G, k, i, v, hk, rfl, rfl, hwf, hi, hi2, hK⟩
  refine ⟨Nat.le_of_ble_eq_true rfl, ?_⟩
  obtain ⟨-, hl, hz⟩ := hwf k hk
  have one : (1 : Int32).toInt = 1 := by decide
  have hin : vp_in i 60 := vp_in_iff.mpr ⟨hi, by omega⟩
  have b0 : ∀ {X Y : Prop}, (S (20 + k) ≠ 0 → X) → (S (20 + k) = 0 → Y) → (¬ nI (S (20 + k)) = 0 → X) ∧ (nI (S (20 + k)) = 0 → Y) := fun f g => pk_ne _ 0 f g
  have b1 : ∀ {X Y : Prop}, (S (20 + k) ≠ 1 → X) → (S (20 + k) = 1 → Y) → (¬ nI (S (20 + k)) = 1 → X) ∧ (nI (S (20 + k)) = 1 → Y) := fun f g => pk_ne _ 1 f g
  have k0 : S (20 + k) = 0 → K none (hpC tc S (va_up G k (upd (G k) i.toNatClampNeg v.toInt8.toInt32))) := fun h => by rw [cut, if_pos h] at hK; exact hK
  have k1 : S (20 + k) = 1 → K none (hpC tc S (va_up G k (upd (G k) i.toNatClampNeg v.toInt16.toInt32))) := fun h => by rw [cut, if_neg (by omega), if_pos h] at hK; exact hK
  have k2 : S (20 + k) ≠ 0 → S (20 + k) ≠ 1 → K none (hpC tc S (va_up G k (upd (G k) i.toNatClampNeg v))) := fun h h2 => by rw [cut, if_neg h, if_neg h2] at hK; exact hK
  have ht : ∀ b : Bool, (b = true ↔ 0 ≤ (1 : Int) ∧ 0 ≤ i.toInt ∧ i.toInt + 1 ≤ S (30 + k)) → b = true := fun b hb => hb.mpr ⟨by omega, hi, by omega⟩
  rcases four hk with rfl | rfl | rfl | rfl
  all_goals
    refine Exists.intro tc ⟨S, G, _, i, 1, hk, rfl, rfl, hwf, fun b hb => ?_⟩
    rw [one] at hb
    have hb := ht b hb
    refine ip_bt (fun h => ?_) (fun h => ?_)
    · rw [hb] at h; cases h
    refine b0 (fun h2 => ?_) (fun h2 => ?_)
    · refine b1 (fun h3 => ?_) (fun h3 => ?_)
      · exact And.intro hin (k2 h2 h3)
      · exact And.intro hin (k1 h3)
    · exact And.intro hin (k0 h2))
set_option maxRecDepth 100000 in
set_option maxHeartbeats 4000000 in
theorem m_X5_write (l : Launch) : ip_Met l yX5_write cX5_write 3 none (ip_rm 1) C_X5_write := ip_met tb_X5_write 400 (by decide +kernel) fl_X5_ok ip_cn0 (ip_cs1 (ip_gsV (m_X5_hasCells l) (ip_in [241, 242, 243, 38, 244] (by decide +kernel) (by decide +kernel)) rfl ⟨by decide +kernel, by decide +kernel, by decide +kernel⟩ ⟨rfl, rfl, Nat.le_of_ble_eq_true rfl, Nat.le_of_ble_eq_true rfl⟩) (ip_cs0)) ck_X5_write rfl p_X5_write
def C_X5_renew : ip_C := fun vs hp K => ∃ tc S G, ∃ (k ln sz : Nat), k < 4 ∧ sz ≤ 60 ∧ vs = [.ref (2 + 2 * k), .int (nI ln), .int (nI sz)] ∧ hp = hpC tc S G ∧ K none (hpC tc (va_up (va_up (va_up S (10 + k) 1) (20 + k) ln) (30 + k) sz) (va_up G k (fa_fill (fun _ => 0) (G k) 60)))
def cs_X5_renew : List ip_G := [(23, 2, 0, C_J9_min), (29, 2, 0, C_J9_max), (35, 2, 0, C_J7_fill)]
set_option maxHeartbeats 4000000 in
theorem p_X5_renew : ip_Pf fl_X5 [] cs_X5_renew none tb_X5_renew 3 C_X5_renew := ip_pf0 (by
  rintro _ _ K ⟨tc, S, G, k, ln, sz, hk, hs, rfl, rfl, hK⟩
  refine ⟨Nat.le_of_ble_eq_true rfl, ?_⟩
  have e60 : (60 : Int32).toInt = 60 := by decide
  have e0 : (0 : Int32).toInt = 0 := by decide
  have es := ti_n (n := sz) (by omega)
  have hr : ∀ r r2 : Int32, r.toInt = min (nI sz).toInt (60 : Int32).toInt → r2.toInt = max (0 : Int32).toInt r.toInt → r2 = nI sz := fun r r2 h1 h2 => by
    rw [fa_eq, h2, h1, e60, e0, es]; omega
  rcases four hk with rfl | rfl | rfl | rfl
  · refine And.intro (Or.inr rfl) ?_
    refine Exists.intro (nI sz) ⟨60, rfl, fun r h1 => ?_⟩
    refine Exists.intro 0 ⟨r, rfl, fun r2 h2 => ?_⟩
    obtain rfl := hr r r2 h1 h2
    exact Exists.intro tc ⟨va_up (va_up (va_up S 10 1) 20 ln) 30 sz, G, 0, 3, 60, 0, by simp [rowAt], rfl, rfl, hK⟩
  · refine And.intro (Or.inr rfl) ?_
    refine Exists.intro (nI sz) ⟨60, rfl, fun r h1 => ?_⟩
    refine Exists.intro 0 ⟨r, rfl, fun r2 h2 => ?_⟩
    obtain rfl := hr r r2 h1 h2
    exact Exists.intro tc ⟨va_up (va_up (va_up S 11 1) 21 ln) 31 sz, G, 1, 5, 60, 0, by simp [rowAt], rfl, rfl, hK⟩
  · refine And.intro (Or.inr rfl) ?_
    refine Exists.intro (nI sz) ⟨60, rfl, fun r h1 => ?_⟩
    refine Exists.intro 0 ⟨r, rfl, fun r2 h2 => ?_⟩
    obtain rfl := hr r r2 h1 h2
    exact Exists.intro tc ⟨va_up (va_up (va_up S 12 1) 22 ln) 32 sz, G, 2, 7, 60, 0, by simp [rowAt], rfl, rfl, hK⟩
  · refine And.intro (Or.inr rfl) ?_
    refine Exists.intro (nI sz) ⟨60, rfl, fun r h1 => ?_⟩
    refine Exists.intro 0 ⟨r, rfl, fun r2 h2 => ?_⟩
    obtain rfl := hr r r2 h1 h2
    exact Exists.intro tc ⟨va_up (va_up (va_up S 13 1) 23 ln) 33 sz, G, 3, 9, 60, 0, by simp [rowAt], rfl, rfl, hK⟩)
set_option maxRecDepth 100000 in
set_option maxHeartbeats 4000000 in
theorem m_X5_renew (l : Launch) : ip_Met l yX5_renew cX5_renew 3 none (ip_rm 1) C_X5_renew := ip_met tb_X5_renew 400 (by decide +kernel) fl_X5_ok ip_cn0 (ip_cs1 (ip_gsMin (ip_in [553, 275, 41, 276] (by decide +kernel) (by decide +kernel)) ⟨Nat.le_of_ble_eq_true rfl, Nat.le_of_ble_eq_true rfl⟩) (ip_cs1 (ip_gsMax (ip_in [554, 452, 41, 453] (by decide +kernel) (by decide +kernel)) ⟨Nat.le_of_ble_eq_true rfl, Nat.le_of_ble_eq_true rfl⟩) (ip_cs1 (ip_gsS (m_J7_fill l) (ip_in [555, 401, 42, 402] (by decide +kernel) (by decide +kernel)) ⟨by decide +kernel, by decide +kernel, by decide +kernel⟩ ⟨rfl, rfl, Nat.le_of_ble_eq_true rfl, Nat.le_of_ble_eq_true rfl⟩) (ip_cs0)))) ck_X5_renew rfl p_X5_renew
end
section
/-! ===== Storm, Readings ===== -/
def pN (f : Nat → Int32) (t : Nat) : Nat := (f t).toNatClampNeg
def wfT (S : Nat → Nat) (G : Nat → Nat → Int32) : Prop := S 5 ≤ 20 ∧ ∀ t, t < S 5 → G 7 t = nI (pN (G 7) t) ∧ pN (G 7) t < 6 ∧ G 8 t = nI (pN (G 8) t) ∧ pN (G 8) t < 6
def stT (S : Nat → Nat) (G : Nat → Nat → Int32) (t : Nat) : Bool := stk S (pN (G 7) t) (pN (G 8) t)
def C_X6_add : ip_C := fun vs hp K => ∃ tc S G, ∃ (p q : Int32), vs = [.ref 20, .int p, .int q] ∧ hp = hpC tc S G ∧ S 5 < 20 ∧ ∀ hp', hp' = hpC tc (va_up S 5 (S 5 + 1)) (va_up (va_up G 7 (upd (G 7) (S 5) p)) 8 (upd (G 8) (S 5) q)) → K none hp'
def cs_X6_add : List ip_G := []
theorem p_X6_add : ip_Pf fl_X6 [] cs_X6_add none tb_X6_add 3 C_X6_add := ip_pf0 (by
  rintro _ _ K ⟨tc, S, G, p, q, rfl, rfl, h5, hK⟩
  refine ⟨Nat.le_of_ble_eq_true rfl, ?_⟩
  refine pk_lt (S 5) 0 (fun h => ?_) (fun h => ?_)
  · omega
  refine pk_le 20 (S 5) (fun h2 => ?_) (fun h2 => ?_)
  · omega
  refine And.intro (pk_in (S 5) 20 h5) ?_
  refine And.intro (pk_in (S 5) 20 h5) ?_
  refine hK _ ?_
  rw [nI_1, nI_clamp (by omega)]
  rfl)
set_option maxRecDepth 100000 in
set_option maxHeartbeats 4000000 in
theorem m_X6_add (l : Launch) : ip_Met l yX6_add cX6_add 3 none (ip_rm 0) C_X6_add := ip_met tb_X6_add 400 (by decide +kernel) fl_X6_ok ip_cn0 (ip_cs0) ck_X6_add rfl p_X6_add
def I_X6 (pc0 : Nat) (tc : Int32) (S : Nat → Nat) (G : Nat → Nat → Int32) (v : Nat → Int32) : Nat → Nat → ip_P := fun pc k L st hp => pc = pc0 ∧ ∃ (t : Nat) (x y : Int32), t ≤ S 5 ∧ k = 20 - t ∧ L = [some (.ref 20), some (.ref 10), some (.int x), some (.int y)] ∧ st = [] ∧ hp = hpC tc S G ∧ x = v t ∧ y = nI t
def C_X6_countIn : ip_C := fun vs hp K => ∃ tc S G, vs = [.ref 20, .ref 10] ∧ hp = hpC tc S G ∧ wfM S ∧ wfT S G ∧ K (some (.int (nI (fb_ct (stT S G) (S 5))))) hp
def cs_X6_countIn : List ip_G := [(22, 3, 1, C_X0_isStruck)]
theorem p_X6_countIn : ip_Pf fl_X6 [] cs_X6_countIn (some .int) tb_X6_countIn 4 C_X6_countIn := by
  rintro _ _ K ⟨tc, S, G, rfl, rfl, hwf, ⟨t0, t1⟩, hK⟩
  refine ⟨Nat.le_of_ble_eq_true rfl, I_X6 4 tc S G (fun t => nI (fb_ct (stT S G) t)), ?_, ?_⟩
  · exact Exists.intro 20 ⟨trivial, rfl, 0, _, _, by omega, rfl, rfl, rfl, rfl, rfl, rfl⟩
  · rintro pc k L st hp ⟨rfl, t, x, y, ht, rfl, rfl, rfl, rfl, rfl, rfl⟩
    refine pk_le (S 5) t (fun h => ?_) (fun h => ?_)
    · obtain rfl : t = S 5 := by omega
      exact hK
    obtain ⟨e1, e2, e3, e4⟩ := t1 t h
    have hc := nI_clamp (n := t) (by omega)
    have hn : ∀ x y : Int32, x = nI (fb_ct (stT S G) (t + 1)) → y = nI (t + 1) → ∃ k, ip_lt k (some (20 - t)) ∧ I_X6 4 tc S G (fun t => nI (fb_ct (stT S G) t)) 4 k [some (.ref 20), some (.ref 10), some (.int x), some (.int y)] [] (hpC tc S G) := fun x y hx hy => ⟨20 - (t + 1), by show _ < _; omega, rfl, t + 1, x, y, by omega, rfl, rfl, rfl, rfl, hx, hy⟩
    refine And.intro (pk_in t 20 (by omega)) ?_
    refine And.intro (pk_in t 20 (by omega)) ?_
    refine Exists.intro tc ⟨S, G, pN (G 7) t, pN (G 8) t, by omega, e4, (by show [Value.ref 10, .int (G 7 (nI t).toNatClampNeg), .int (G 8 (nI t).toNatClampNeg)] = _; rw [hc, ← e1, ← e3]), rfl, hwf, ?_⟩
    refine ip_bt (fun h3 => ?_) (fun h3 => ?_)
    · exact hn _ _ (by rw [fb_ct_succ, show stT S G t = false from h3]; simp) (nI_1 t)
    · exact hn _ _ (by rw [fb_ct_succ, show stT S G t = true from h3, nI_1]; simp) (nI_1 t)
set_option maxRecDepth 100000 in
set_option maxHeartbeats 4000000 in
theorem m_X6_countIn (l : Launch) : ip_Met l yX6_countIn cX6_countIn 4 (some .int) (ip_rm 4) C_X6_countIn := ip_met tb_X6_countIn 400 (by decide +kernel) fl_X6_ok ip_cn0 (ip_cs1 (ip_gsV (m_X0_isStruck l) (ip_in [378, 334, 335, 33, 336] (by decide +kernel) (by decide +kernel)) rfl ⟨by decide +kernel, by decide +kernel, by decide +kernel⟩ ⟨rfl, rfl, Nat.le_of_ble_eq_true rfl, Nat.le_of_ble_eq_true rfl⟩) (ip_cs0)) ck_X6_countIn rfl p_X6_countIn
def C_X6_firstIn : ip_C := fun vs hp K => ∃ tc S G, vs = [.ref 20, .ref 10] ∧ hp = hpC tc S G ∧ wfM S ∧ wfT S G ∧ (∀ t, t < S 5 → stT S G t = true → (∀ i, i < t → stT S G i = false) → K (some (.int (nI t))) hp) ∧ ((∀ i, i < S 5 → stT S G i = false) → K (some (.int (-9))) hp)
def cs_X6_firstIn : List ip_G := [(22, 3, 1, C_X0_isStruck)]
def I_X6_firstIn (tc : Int32) (S : Nat → Nat) (G : Nat → Nat → Int32) : Nat → Nat → ip_P := fun pc k L st hp => pc = 2 ∧ ∃ (t : Nat) (y : Int32), t ≤ S 5 ∧ k = 20 - t ∧ L = [some (.ref 20), some (.ref 10), some (.int y)] ∧ st = [] ∧ hp = hpC tc S G ∧ y = nI t ∧ ∀ i, i < t → stT S G i = false
theorem p_X6_firstIn : ip_Pf fl_X6 [] cs_X6_firstIn (some .int) tb_X6_firstIn 3 C_X6_firstIn := by
  rintro _ _ K ⟨tc, S, G, rfl, rfl, hwf, ⟨t0, t1⟩, hK, hK2⟩
  refine ⟨Nat.le_of_ble_eq_true rfl, I_X6_firstIn tc S G, ?_, ?_⟩
  · exact Exists.intro 20 ⟨trivial, rfl, 0, _, by omega, rfl, rfl, rfl, rfl, rfl, fun i hi => absurd hi (by omega)⟩
  · rintro pc k L st hp ⟨rfl, t, y, ht, rfl, rfl, rfl, rfl, rfl, hno⟩
    refine pk_le (S 5) t (fun h => ?_) (fun h => ?_)
    · exact hK2 (fun i hi => hno i (by omega))
    obtain ⟨e1, e2, e3, e4⟩ := t1 t h
    have hc := nI_clamp (n := t) (by omega)
    refine And.intro (pk_in t 20 (by omega)) ?_
    refine And.intro (pk_in t 20 (by omega)) ?_
    refine Exists.intro tc ⟨S, G, pN (G 7) t, pN (G 8) t, by omega, e4, (by show [Value.ref 10, .int (G 7 (nI t).toNatClampNeg), .int (G 8 (nI t).toNatClampNeg)] = _; rw [hc, ← e1, ← e3]), rfl, hwf, ?_⟩
    refine ip_bt (fun h3 => ?_) (fun h3 => ?_)
    · exact Exists.intro (20 - (t + 1)) ⟨by show _ < _; omega, rfl, t + 1, _, by omega, rfl, rfl, rfl, rfl, nI_1 t, fun i hi => by
        rcases Nat.lt_or_ge i t with q | q
        · exact hno i q
        · obtain rfl : i = t := by omega
          exact h3⟩
    · exact hK t h h3 hno
set_option maxRecDepth 100000 in
set_option maxHeartbeats 4000000 in
theorem m_X6_firstIn (l : Launch) : ip_Met l yX6_firstIn cX6_firstIn 3 (some .int) (ip_rm 4) C_X6_firstIn := ip_met tb_X6_firstIn 400 (by decide +kernel) fl_X6_ok ip_cn0 (ip_cs1 (ip_gsV (m_X0_isStruck l) (ip_in [378, 334, 335, 33, 336] (by decide +kernel) (by decide +kernel)) rfl ⟨by decide +kernel, by decide +kernel, by decide +kernel⟩ ⟨rfl, rfl, Nat.le_of_ble_eq_true rfl, Nat.le_of_ble_eq_true rfl⟩) (ip_cs0)) ck_X6_firstIn rfl p_X6_firstIn
theorem bs_or_one {n p : Nat} {f : Nat → Bool} (hp : p < n) : bs n f ||| 2 ^ p = bs n (fun i => f i || i == p) := by
  apply Nat.eq_of_testBit_eq
  intro i
  rw [Nat.testBit_or, bs_bit, bs_bit, Nat.testBit_two_pow]
  by_cases h : i = p
  · subst h; simp [hp]
  · have h1 : ¬ p = i := fun q => h q.symm
    have h2 : (i == p) = false := by simpa using h
    rw [h2]
    simp [h1]
def C_X6_struckIn : ip_C := fun vs hp K => ∃ tc S G, vs = [.ref 20, .ref 10] ∧ hp = hpC tc S G ∧ wfM S ∧ wfT S G ∧ K (some (.int (nI (bs 6 (fun p => anyb (S 5) (fun t => stT S G t && pN (G 7) t == p)))))) hp
def cs_X6_struckIn : List ip_G := [(22, 3, 1, C_X0_isStruck)]
theorem p_X6_struckIn : ip_Pf fl_X6 [] cs_X6_struckIn (some .int) tb_X6_struckIn 4 C_X6_struckIn := by
  rintro _ _ K ⟨tc, S, G, rfl, rfl, hwf, ⟨t0, t1⟩, hK⟩
  refine ⟨Nat.le_of_ble_eq_true rfl, I_X6 4 tc S G (fun n => nI (bs 6 (fun p => anyb n (fun t => stT S G t && pN (G 7) t == p)))), ?_, ?_⟩
  · refine Exists.intro 20 ⟨trivial, rfl, 0, _, _, by omega, rfl, rfl, rfl, rfl, ?_, rfl⟩
    exact (by decide +kernel : (0 : Int32) = nI (bs 6 (fun _ => false)))
  · rintro pc k L st hp ⟨rfl, t, x, y, ht, rfl, rfl, rfl, rfl, rfl, rfl⟩
    refine pk_le (S 5) t (fun h => ?_) (fun h => ?_)
    · obtain rfl : t = S 5 := by omega
      exact hK
    obtain ⟨e1, e2, e3, e4⟩ := t1 t h
    have hc := nI_clamp (n := t) (by omega)
    have hn : ∀ x y : Int32, x = nI (bs 6 (fun p => anyb (t + 1) (fun t => stT S G t && pN (G 7) t == p))) → y = nI (t + 1) → ∃ k, ip_lt k (some (20 - t)) ∧ I_X6 4 tc S G (fun n => nI (bs 6 (fun p => anyb n (fun t => stT S G t && pN (G 7) t == p)))) 4 k [some (.ref 20), some (.ref 10), some (.int x), some (.int y)] [] (hpC tc S G) := fun x y hx hy => ⟨20 - (t + 1), by show _ < _; omega, rfl, t + 1, x, y, by omega, rfl, rfl, rfl, rfl, hx, hy⟩
    refine And.intro (pk_in t 20 (by omega)) ?_
    refine And.intro (pk_in t 20 (by omega)) ?_
    refine Exists.intro tc ⟨S, G, pN (G 7) t, pN (G 8) t, by omega, e4, (by show [Value.ref 10, .int (G 7 (nI t).toNatClampNeg), .int (G 8 (nI t).toNatClampNeg)] = _; rw [hc, ← e1, ← e3]), rfl, hwf, ?_⟩
    refine ip_bt (fun h3 => ?_) (fun h3 => ?_)
    · exact hn _ _ (by simp only [anyb, show stT S G t = false from h3]; simp) (nI_1 t)
    · refine And.intro (pk_in t 20 (by omega)) ?_
      refine hn _ _ ?_ (nI_1 t)
      have hs := sh1 ⟨pN (G 7) t, by omega⟩
      simp only at hs
      rw [hc, e1, hs, fa_or, bs_or_one e2]
      congr 1
      refine bs_cong (fun p _ => ?_)
      simp only [anyb, show stT S G t = true from h3, Bool.true_and]
      congr 1
      exact Bool.eq_iff_iff.mpr (by simp; exact eq_comm)
set_option maxRecDepth 100000 in
set_option maxHeartbeats 4000000 in
theorem m_X6_struckIn (l : Launch) : ip_Met l yX6_struckIn cX6_struckIn 4 (some .int) (ip_rm 4) C_X6_struckIn := ip_met tb_X6_struckIn 400 (by decide +kernel) fl_X6_ok ip_cn0 (ip_cs1 (ip_gsV (m_X0_isStruck l) (ip_in [378, 334, 335, 33, 336] (by decide +kernel) (by decide +kernel)) rfl ⟨by decide +kernel, by decide +kernel, by decide +kernel⟩ ⟨rfl, rfl, Nat.le_of_ble_eq_true rfl, Nat.le_of_ble_eq_true rfl⟩) (ip_cs0)) ck_X6_struckIn rfl p_X6_struckIn
def wfR (S : Nat → Nat) (G : Nat → Nat → Int32) : Prop := S 4 ≤ 8 ∧ ∀ r, r < S 4 → G 4 r = nI (pN (G 4) r) ∧ pN (G 4) r < 6 ∧ G 5 r = nI (pN (G 5) r) ∧ pN (G 5) r < 6 ∧ (G 6 r = 0 ∨ G 6 r = 1)
def isSo (S : Nat → Nat) (G : Nat → Nat → Int32) (r : Nat) : Bool := stk S (pN (G 4) r) (pN (G 5) r) == decide (G 6 r = 1)
def allSo (S : Nat → Nat) (G : Nat → Nat → Int32) : Bool := !anyb (S 4) (fun r => !isSo S G r)
def C_X4_note : ip_C := fun vs hp K => ∃ tc S G, ∃ (p q : Int32) (b : Bool), vs = [.ref 16, .int p, .int q, .int (ip_bi b)] ∧ hp = hpC tc S G ∧ S 4 ≤ 8 ∧ (S 4 = 8 → K (some (.int 0)) hp) ∧ (S 4 < 8 → ∀ hp', hp' = hpC tc (va_up S 4 (S 4 + 1)) (va_up (va_up (va_up G 4 (upd (G 4) (S 4) p)) 5 (upd (G 5) (S 4) q)) 6 (upd (G 6) (S 4) (ip_bi b))) → K (some (.int 1)) hp')
def cs_X4_note : List ip_G := []
theorem nar_bi (b : Bool) : vp_nar .boolean (ip_bi b) = ip_bi b := by cases b <;> decide
theorem p_X4_note : ip_Pf fl_X4 [] cs_X4_note (some .boolean) tb_X4_note 4 C_X4_note := ip_pf0 (by
  rintro _ _ K ⟨tc, S, G, p, q, b, rfl, rfl, h4, hK, hK2⟩
  refine ⟨Nat.le_of_ble_eq_true rfl, ?_⟩
  refine pk_lt (S 4) 0 (fun h => ?_) (fun h => ?_)
  · omega
  refine pk_lt (S 4) 8 (fun h2 => ?_) (fun h2 => ?_)
  · refine And.intro (pk_in (S 4) 8 h2) ?_
    refine And.intro (pk_in (S 4) 8 h2) ?_
    refine And.intro (pk_in (S 4) 8 h2) ?_
    refine And.intro rfl (hK2 h2 _ ?_)
    rw [nI_1, nI_clamp (by omega), nar_bi]
    rfl
  · exact And.intro rfl (hK (by omega)))
set_option maxRecDepth 100000 in
set_option maxHeartbeats 4000000 in
theorem m_X4_note (l : Launch) : ip_Met l yX4_note cX4_note 4 (some .boolean) (ip_rm 0) C_X4_note := ip_met tb_X4_note 400 (by decide +kernel) fl_X4_ok ip_cn0 (ip_cs0) ck_X4_note rfl p_X4_note
def C_X4_allSoIn : ip_C := fun vs hp K => ∃ tc S G, vs = [.ref 16, .ref 10] ∧ hp = hpC tc S G ∧ wfM S ∧ wfR S G ∧ K (some (.int (ip_bi (allSo S G)))) hp
def cs_X4_allSoIn : List ip_G := [(26, 3, 1, C_X0_isStruck)]
def I_X4_allSoIn (tc : Int32) (S : Nat → Nat) (G : Nat → Nat → Int32) : Nat → Nat → ip_P := fun pc k L st hp => pc = 2 ∧ ∃ (t : Nat) (y : Int32), t ≤ S 4 ∧ k = 8 - t ∧ L = [some (.ref 16), some (.ref 10), some (.int y)] ∧ st = [] ∧ hp = hpC tc S G ∧ y = nI t ∧ anyb t (fun r => !isSo S G r) = false
theorem anyb_true {f : Nat → Bool} : ∀ {n i : Nat}, i < n → f i = true → anyb n f = true
  | n + 1, i, h, hf => by
    simp only [anyb]
    rcases Nat.lt_or_ge i n with q | q
    · rw [anyb_true q hf]; rfl
    · obtain rfl : i = n := by omega
      rw [hf, Bool.or_true]
theorem anyb_false {f : Nat → Bool} {n : Nat} (h : ∀ i, i < n → f i = false) : anyb n f = false := by
  induction n with
  | zero => rfl
  | succ n ih => rw [anyb, ih (fun i hi => h i (by omega)), h n (by omega)]; rfl
theorem anyb_iff {f : Nat → Bool} {n : Nat} : anyb n f = true ↔ ∃ i, i < n ∧ f i = true := by
  constructor
  · induction n with
    | zero => intro h; cases h
    | succ n ih =>
      intro h
      rw [anyb, Bool.or_eq_true] at h
      rcases h with h | h
      · obtain ⟨i, a, b⟩ := ih h
        exact ⟨i, by omega, b⟩
      · exact ⟨n, by omega, h⟩
  · rintro ⟨i, a, b⟩
    exact anyb_true a b
theorem p_X4_allSoIn : ip_Pf fl_X4 [] cs_X4_allSoIn (some .boolean) tb_X4_allSoIn 3 C_X4_allSoIn := by
  rintro _ _ K ⟨tc, S, G, rfl, rfl, hwf, ⟨t0, t1⟩, hK⟩
  refine ⟨Nat.le_of_ble_eq_true rfl, I_X4_allSoIn tc S G, ?_, ?_⟩
  · exact Exists.intro 8 ⟨trivial, rfl, 0, _, by omega, rfl, rfl, rfl, rfl, rfl, rfl⟩
  · rintro pc k L st hp ⟨rfl, t, y, ht, rfl, rfl, rfl, rfl, rfl, hno⟩
    refine pk_le (S 4) t (fun h => ?_) (fun h => ?_)
    · obtain rfl : t = S 4 := by omega
      rw [allSo, hno] at hK
      exact And.intro rfl hK
    obtain ⟨e1, e2, e3, e4, e5⟩ := t1 t h
    have hc := nI_clamp (n := t) (by omega)
    refine And.intro (pk_in t 8 (by omega)) ?_
    refine And.intro (pk_in t 8 (by omega)) ?_
    refine Exists.intro tc ⟨S, G, pN (G 4) t, pN (G 5) t, by omega, e4, (by show [Value.ref 10, .int (G 4 (nI t).toNatClampNeg), .int (G 5 (nI t).toNatClampNeg)] = _; rw [hc, ← e1, ← e3]), rfl, hwf, ?_⟩
    refine And.intro (pk_in t 8 (by omega)) ?_
    have hso : (ip_bi (stk S (pN (G 4) t) (pN (G 5) t)) = G 6 (nI t).toNatClampNeg) ↔ isSo S G t = true := by
      rw [hc, isSo]
      rcases e5 with e5 | e5 <;> rw [e5] <;> cases stk S (pN (G 4) t) (pN (G 5) t) <;> decide
    refine And.intro (fun h3 => ?_) (fun h3 => ?_)
    · exact Exists.intro (8 - (t + 1)) ⟨by show _ < _; omega, rfl, t + 1, _, by omega, rfl, rfl, rfl, rfl, nI_1 t, by rw [anyb, hno, hso.mp h3]; rfl⟩
    · have h4 : isSo S G t = false := by
        cases h5 : isSo S G t
        · rfl
        · exact absurd (hso.mpr h5) h3
      rw [allSo, anyb_true (i := t) h (by rw [h4]; rfl)] at hK
      exact And.intro rfl hK
set_option maxRecDepth 100000 in
set_option maxHeartbeats 4000000 in
theorem m_X4_allSoIn (l : Launch) : ip_Met l yX4_allSoIn cX4_allSoIn 3 (some .boolean) (ip_rm 4) C_X4_allSoIn := ip_met tb_X4_allSoIn 400 (by decide +kernel) fl_X4_ok ip_cn0 (ip_cs1 (ip_gsV (m_X0_isStruck l) (ip_in [502, 334, 335, 33, 336] (by decide +kernel) (by decide +kernel)) rfl ⟨by decide +kernel, by decide +kernel, by decide +kernel⟩ ⟨rfl, rfl, Nat.le_of_ble_eq_true rfl, Nat.le_of_ble_eq_true rfl⟩) (ip_cs0)) ck_X4_allSoIn rfl p_X4_allSoIn
end
section
/-! ===== sets of sets, as longs ===== -/
theorem ls_or {a s : Nat} (ha : a < 2 ^ s) (hs : s < 64) : lN a ||| (Int64.ofNat 1 <<< ((nI s).toInt64 &&& 63)) = lN (a + 2 ^ s) := by
  have h1 : (Int64.ofNat 1 <<< ((nI s).toInt64 &&& 63)) = lN (2 ^ s) := by
    have := wb_shl 1 hs
    rw [Nat.one_mul] at this
    exact this
  have h2 : 2 ^ s < 2 ^ 64 := wb_lt2 hs
  rw [h1, wb_or (by omega) h2]
  congr 1
  apply Nat.eq_of_testBit_eq
  intro i
  rw [Nat.testBit_or, Nat.testBit_two_pow, show a + 2 ^ s = 2 ^ s + a by omega]
  rcases Nat.lt_trichotomy i s with h | h | h
  · rw [Nat.testBit_two_pow_add_gt h]
    simp [show ¬ s = i by omega]
  · subst h
    rw [Nat.testBit_two_pow_add_eq, Nat.testBit_lt_two_pow ha]
    simp
  · have a1 : 2 ^ (s + 1) ≤ 2 ^ i := Nat.pow_le_pow_right (by decide) h
    rw [Nat.pow_succ] at a1
    rw [Nat.testBit_lt_two_pow (show 2 ^ s + a < 2 ^ i by omega), Nat.testBit_lt_two_pow (show a < 2 ^ i by omega)]
    simp [show ¬ s = i by omega]
theorem ls_bit (n : Nat) {s : Nat} (hs : s < 64) : ((lN n >>> ((nI s).toInt64 &&& 63)) &&& Int64.ofNat 1 = Int64.ofNat 0) ↔ n.testBit s = false := by
  rw [wb_c s hs]
  have e : ((lN n >>> lN s) &&& Int64.ofNat 1).toBitVec = ((BitVec.ofNat 64 n).sshiftRight s) &&& 1#64 := by
    rw [Int64.toBitVec_and, Int64.toBitVec_shiftRight, wb_tb, wb_tb, wb_sm s hs]
    rw [BitVec.sshiftRight_eq', BitVec.toNat_ofNat, Nat.mod_eq_of_lt (by omega)]
    rfl
  have b0 : (((BitVec.ofNat 64 n).sshiftRight s) &&& 1#64).getLsbD 0 = n.testBit s := by
    have e2 : (BitVec.ofNat 64 n).getLsbD s = n.testBit s := by rw [BitVec.getLsbD, BitVec.toNat_ofNat, Nat.testBit_mod_two_pow]; simp [hs]
    rw [BitVec.getLsbD_and, BitVec.getLsbD_sshiftRight]
    simp [hs]
    rw [← BitVec.getLsbD_eq_getElem, e2]
  constructor
  · intro h
    have h2 : ((lN n >>> lN s) &&& Int64.ofNat 1).toBitVec = 0#64 := by rw [h]; rfl
    rw [e] at h2
    rw [← b0, h2]
    rfl
  · intro h
    apply wb_inj
    rw [e]
    show _ = 0#64
    apply BitVec.eq_of_getLsbD_eq
    intro i hi
    by_cases hz : i = 0
    · subst hz
      rw [b0, h]
      rfl
    · simp [hz]
def C_X7_holdsSet : ip_C := fun vs hp K => ∃ n s : Nat, s < 64 ∧ vs = [.long (lN n), .int (nI s)] ∧ K (some (.int (ip_bi (n.testBit s)))) hp
def cs_X7_holdsSet : List ip_G := []
theorem p_X7_holdsSet : ip_Pf fl_X7 cn_X7 cs_X7_holdsSet (some .boolean) tb_X7_holdsSet 3 C_X7_holdsSet := ip_pf0 (by
  rintro _ hp K ⟨n, s, hs, rfl, hK⟩
  refine ⟨Nat.le_of_ble_eq_true rfl, ?_⟩
  refine And.intro (fun h => ?_) (fun h => ?_)
  · rw [(ls_bit n hs).mp ((lg_cmp_eq _ _).mp h)] at hK
    exact And.intro rfl hK
  · rw [ts_t (fun q => h ((lg_cmp_eq _ _).mpr ((ls_bit n hs).mpr q)))] at hK
    exact And.intro rfl hK)
set_option maxRecDepth 100000 in
set_option maxHeartbeats 4000000 in
theorem m_X7_holdsSet (l : Launch) : ip_Met l yX7_holdsSet cX7_holdsSet 3 (some .boolean) (ip_rm 0) C_X7_holdsSet := ip_met tb_X7_holdsSet 400 (by decide +kernel) fl_X7_ok cn_X7_ok (ip_cs0) ck_X7_holdsSet rfl p_X7_holdsSet
-- what may be so: the truth
theorem wfM_tr {S : Nat → Nat} (h : wfM S) {x : Nat} (hx : x < 64) : wfM (va_up S 1 x) := by
  obtain ⟨a, b, c, d⟩ := h
  refine ⟨hx, b, c, fun m hm => ?_⟩
  have e1 : va_up S 1 x (40 + m) = S (40 + m) := by simp only [va_up]; rw [if_neg (by omega)]
  have e2 : va_up S 1 x (50 + m) = S (50 + m) := by simp only [va_up]; rw [if_neg (by omega)]
  have e3 : va_up S 1 x (60 + m) = S (60 + m) := by simp only [va_up]; rw [if_neg (by omega)]
  rw [e1, e2, e3]
  exact d m hm
theorem wfM_kd {S : Nat → Nat} (h : wfM S) {m0 x : Nat} (hm : m0 < 4) (hx : x ≤ 2) : wfM (va_up S (40 + m0) x) := by
  obtain ⟨a, b, c, d⟩ := h
  have e : ∀ j, j ≠ 40 + m0 → va_up S (40 + m0) x j = S j := fun j hj => by simp only [va_up]; rw [if_neg hj]
  refine ⟨by rw [e 1 (by omega)]; exact a, by rw [e 2 (by omega)]; exact b, by rw [e 3 (by omega)]; exact c, fun m hm => ?_⟩
  rw [e (50 + m) (by omega), e (60 + m) (by omega)]
  refine ⟨?_, (d m hm).2⟩
  by_cases hz : m = m0
  · subst hz; simp [va_up, hx]
  · rw [e (40 + m) (by omega)]; exact (d m hm).1
theorem wfM_pl {S : Nat → Nat} (h : wfM S) {m0 x : Nat} (hm : m0 < 4) (hx : x < 6) : wfM (va_up S (50 + m0) x) := by
  obtain ⟨a, b, c, d⟩ := h
  have e : ∀ j, j ≠ 50 + m0 → va_up S (50 + m0) x j = S j := fun j hj => by simp only [va_up]; rw [if_neg hj]
  refine ⟨by rw [e 1 (by omega)]; exact a, by rw [e 2 (by omega)]; exact b, by rw [e 3 (by omega)]; exact c, fun m hm => ?_⟩
  rw [e (40 + m) (by omega), e (60 + m) (by omega)]
  refine ⟨(d m hm).1, ?_, (d m hm).2.2⟩
  by_cases hz : m = m0
  · subst hz; simp [va_up, hx]
  · rw [e (50 + m) (by omega)]; exact (d m hm).2.1
theorem wfM_li {S : Nat → Nat} (h : wfM S) {m0 x : Nat} (hm : m0 < 4) (hx : x < 64) : wfM (va_up S (60 + m0) x) := by
  obtain ⟨a, b, c, d⟩ := h
  have e : ∀ j, j ≠ 60 + m0 → va_up S (60 + m0) x j = S j := fun j hj => by simp only [va_up]; rw [if_neg hj]
  refine ⟨by rw [e 1 (by omega)]; exact a, by rw [e 2 (by omega)]; exact b, by rw [e 3 (by omega)]; exact c, fun m hm => ?_⟩
  rw [e (40 + m) (by omega), e (50 + m) (by omega)]
  refine ⟨(d m hm).1, (d m hm).2.1, ?_⟩
  by_cases hz : m = m0
  · subst hz; simp [va_up, hx]
  · rw [e (60 + m) (by omega)]; exact (d m hm).2.2
theorem wfR_up {S : Nat → Nat} {G : Nat → Nat → Int32} (h : wfR S G) {j x : Nat} (hj : j ≠ 4) : wfR (va_up S j x) G := by
  have e : va_up S j x 4 = S 4 := by simp only [va_up]; rw [if_neg (by omega)]
  unfold wfR
  rw [e]
  exact h
theorem wfT_up {S : Nat → Nat} {G : Nat → Nat → Int32} (h : wfT S G) {j x : Nat} (hj : j ≠ 5) : wfT (va_up S j x) G := by
  have e : va_up S j x 5 = S 5 := by simp only [va_up]; rw [if_neg (by omega)]
  unfold wfT
  rw [e]
  exact h
def C_X4_likelyTruths : ip_C := fun vs hp K => ∃ tc S G, vs = [.ref 16, .ref 10] ∧ hp = hpC tc S G ∧ wfM S ∧ wfR S G ∧ K (some (.long (lN (bs 64 (fun s => allSo (va_up S 1 s) G))))) hp
def cs_X4_likelyTruths : List ip_G := [(35, 2, 4, C_X4_allSoIn)]
def I_X4_likelyTruths (tc : Int32) (S : Nat → Nat) (G : Nat → Nat → Int32) : Nat → Nat → ip_P := fun pc k L st hp => pc = 10 ∧ ∃ (s z : Nat) (x : Int64) (y : Int32), s ≤ 64 ∧ k = 64 - s ∧ L = [some (.ref 16), some (.ref 10), some (.int (nI (S 1))), some (.long x), none, some (.int y)] ∧ st = [] ∧ hp = hpC tc (va_up S 1 z) G ∧ x = lN (bs s (fun s => allSo (va_up S 1 s) G)) ∧ y = nI s
set_option maxHeartbeats 4000000 in
theorem p_X4_likelyTruths : ip_Pf fl_X4 [] cs_X4_likelyTruths (some .long) tb_X4_likelyTruths 6 C_X4_likelyTruths := by
  rintro _ _ K ⟨tc, S, G, rfl, rfl, hwf, hwr, hK⟩
  refine ⟨Nat.le_of_ble_eq_true rfl, I_X4_likelyTruths tc S G, ?_, ?_⟩
  · exact Exists.intro 64 ⟨trivial, rfl, 0, S 1, _, _, by omega, rfl, rfl, rfl, rfl, rfl, rfl⟩
  · rintro pc k L st hp ⟨rfl, s, z, x, y, hs, rfl, rfl, rfl, rfl, rfl, rfl⟩
    refine pk_le 64 s (fun h => ?_) (fun h => ?_)
    · obtain rfl : s = 64 := by omega
      exact hK
    have h1 : allSo (va_up S 1 s) G = true → lN (bs s (fun s => allSo (va_up S 1 s) G)) ||| (Int64.ofNat 1 <<< ((nI s).toInt64 &&& 63)) = lN (bs (s + 1) (fun s => allSo (va_up S 1 s) G)) := fun h3 => by rw [ls_or (bs_lt _ s) h]; simp [bs, h3]
    refine Exists.intro tc ⟨va_up S 1 s, G, rfl, rfl, wfM_tr hwf h, wfR_up hwr (by decide), ?_⟩
    refine ip_bt (fun h3 => ?_) (fun h3 => ?_)
    · exact Exists.intro (64 - (s + 1)) ⟨by show _ < _; omega, rfl, s + 1, s, _, _, by omega, rfl, rfl, rfl, rfl, by simp [bs, h3], nI_1 s⟩
    · exact Exists.intro (64 - (s + 1)) ⟨by show _ < _; omega, rfl, s + 1, s, _, _, by omega, rfl, rfl, rfl, rfl, h1 h3, nI_1 s⟩
set_option maxRecDepth 100000 in
set_option maxHeartbeats 4000000 in
theorem m_X4_likelyTruths (l : Launch) : ip_Met l yX4_likelyTruths cX4_likelyTruths 6 (some .long) (ip_rm 5) C_X4_likelyTruths := ip_met tb_X4_likelyTruths 400 (by decide +kernel) fl_X4_ok ip_cn0 (ip_cs1 (ip_gsV (m_X4_allSoIn l) (ip_in [498, 499, 500, 35, 501] (by decide +kernel) (by decide +kernel)) rfl ⟨by decide +kernel, by decide +kernel, by decide +kernel⟩ ⟨rfl, rfl, Nat.le_of_ble_eq_true rfl, Nat.le_of_ble_eq_true rfl⟩) (ip_cs0)) ck_X4_likelyTruths rfl p_X4_likelyTruths
def C_X4_likelyLists : ip_C := fun vs hp K => ∃ tc S G, ∃ m : Nat, m < 4 ∧ vs = [.ref 16, .ref 10, .ref (12 + m)] ∧ hp = hpC tc S G ∧ wfM S ∧ wfR S G ∧ K (some (.long (lN (bs 64 (fun s => allSo (va_up S (60 + m) s) G))))) hp
def cs_X4_likelyLists : List ip_G := [(35, 2, 4, C_X4_allSoIn)]
def I_X4_likelyLists (tc : Int32) (S : Nat → Nat) (G : Nat → Nat → Int32) (m : Nat) : Nat → Nat → ip_P := fun pc k L st hp => pc = 11 ∧ ∃ (s z : Nat) (x : Int64) (y : Int32), s ≤ 64 ∧ k = 64 - s ∧ L = [some (.ref 16), some (.ref 10), some (.ref (12 + m)), some (.int (nI (S (60 + m)))), some (.long x), none, some (.int y)] ∧ st = [] ∧ hp = hpC tc (va_up S (60 + m) z) G ∧ x = lN (bs s (fun s => allSo (va_up S (60 + m) s) G)) ∧ y = nI s
set_option maxHeartbeats 4000000 in
theorem p_X4_likelyLists : ip_Pf fl_X4 [] cs_X4_likelyLists (some .long) tb_X4_likelyLists 7 C_X4_likelyLists := by
  rintro _ _ K ⟨tc, S, G, m, hm, rfl, rfl, hwf, hwr, hK⟩
  refine ⟨Nat.le_of_ble_eq_true rfl, I_X4_likelyLists tc S G m, ?_, ?_⟩
  · rcases four hm with rfl | rfl | rfl | rfl
    · exact Exists.intro 64 ⟨trivial, rfl, 0, S 60, _, _, by omega, rfl, rfl, rfl, rfl, rfl, rfl⟩
    · exact Exists.intro 64 ⟨trivial, rfl, 0, S 61, _, _, by omega, rfl, rfl, rfl, rfl, rfl, rfl⟩
    · exact Exists.intro 64 ⟨trivial, rfl, 0, S 62, _, _, by omega, rfl, rfl, rfl, rfl, rfl, rfl⟩
    · exact Exists.intro 64 ⟨trivial, rfl, 0, S 63, _, _, by omega, rfl, rfl, rfl, rfl, rfl, rfl⟩
  · rintro pc k L st hp ⟨rfl, s, z, x, y, hs, rfl, rfl, rfl, rfl, rfl, rfl⟩
    have hend : 64 ≤ s → K (some (.long (lN (bs s (fun s => allSo (va_up S (60 + m) s) G))))) (hpC tc S G) := fun h => by
      obtain rfl : s = 64 := by omega
      exact hK
    have hn : s < 64 → ∀ (x : Int64) (y : Int32), x = lN (bs (s + 1) (fun s => allSo (va_up S (60 + m) s) G)) → y = nI (s + 1) → ∃ k, ip_lt k (some (64 - s)) ∧ I_X4_likelyLists tc S G m 11 k [some (.ref 16), some (.ref 10), some (.ref (12 + m)), some (.int (nI (S (60 + m)))), some (.long x), none, some (.int y)] [] (hpC tc (va_up S (60 + m) s) G) := fun h x y hx hy => ⟨64 - (s + 1), by show _ < _; omega, rfl, s + 1, s, x, y, by omega, rfl, rfl, rfl, rfl, hx, hy⟩
    have h0 : allSo (va_up S (60 + m) s) G = false → lN (bs s (fun s => allSo (va_up S (60 + m) s) G)) = lN (bs (s + 1) (fun s => allSo (va_up S (60 + m) s) G)) := fun h3 => by simp [bs, h3]
    have h1 : s < 64 → allSo (va_up S (60 + m) s) G = true → lN (bs s (fun s => allSo (va_up S (60 + m) s) G)) ||| (Int64.ofNat 1 <<< ((nI s).toInt64 &&& 63)) = lN (bs (s + 1) (fun s => allSo (va_up S (60 + m) s) G)) := fun h h3 => by rw [ls_or (bs_lt _ s) h]; simp [bs, h3]
    have w1 : s < 64 → wfM (va_up S (60 + m) s) := fun h => wfM_li hwf hm h
    have w2 : wfR (va_up S (60 + m) s) G := wfR_up hwr (by omega)
    have h9 : nI s + 1 = nI (s + 1) := nI_1 s
    rcases four hm with rfl | rfl | rfl | rfl
    all_goals
      refine pk_le 64 s (fun h => ?_) (fun h => ?_)
      · exact hend h
      refine Exists.intro tc ⟨va_up S _ s, G, rfl, rfl, w1 h, w2, ?_⟩
      refine ip_bt (fun h3 => ?_) (fun h3 => ?_)
      · exact hn h _ _ (h0 h3) h9
      · exact hn h _ _ (h1 h h3) h9
set_option maxRecDepth 100000 in
set_option maxHeartbeats 4000000 in
theorem m_X4_likelyLists (l : Launch) : ip_Met l yX4_likelyLists cX4_likelyLists 7 (some .long) (ip_rm 5) C_X4_likelyLists := ip_met tb_X4_likelyLists 400 (by decide +kernel) fl_X4_ok ip_cn0 (ip_cs1 (ip_gsV (m_X4_allSoIn l) (ip_in [498, 499, 500, 35, 501] (by decide +kernel) (by decide +kernel)) rfl ⟨by decide +kernel, by decide +kernel, by decide +kernel⟩ ⟨rfl, rfl, Nat.le_of_ble_eq_true rfl, Nat.le_of_ble_eq_true rfl⟩) (ip_cs0)) ck_X4_likelyLists rfl p_X4_likelyLists
def C_X4_likelyParishes : ip_C := fun vs hp K => ∃ tc S G, ∃ m : Nat, m < 4 ∧ vs = [.ref 16, .ref 10, .ref (12 + m)] ∧ hp = hpC tc S G ∧ wfM S ∧ wfR S G ∧ K (some (.int (nI (bs (S 2) (fun p => allSo (va_up S (50 + m) p) G))))) hp
def cs_X4_likelyParishes : List ip_G := [(35, 2, 4, C_X4_allSoIn)]
def I_X4_likelyParishes (tc : Int32) (S : Nat → Nat) (G : Nat → Nat → Int32) (m : Nat) : Nat → Nat → ip_P := fun pc k L st hp => pc = 11 ∧ ∃ (s z : Nat) (x : Int32) (y : Int32), s ≤ S 2 ∧ k = 64 - s ∧ L = [some (.ref 16), some (.ref 10), some (.ref (12 + m)), some (.int (nI (S (50 + m)))), some (.int x), some (.int y)] ∧ st = [] ∧ hp = hpC tc (va_up S (50 + m) z) G ∧ x = nI (bs s (fun s => allSo (va_up S (50 + m) s) G)) ∧ y = nI s
set_option maxHeartbeats 4000000 in
theorem p_X4_likelyParishes : ip_Pf fl_X4 [] cs_X4_likelyParishes (some .int) tb_X4_likelyParishes 6 C_X4_likelyParishes := by
  rintro _ _ K ⟨tc, S, G, m, hm, rfl, rfl, hwf, hwr, hK⟩
  have hS2 := hwf.2.1
  refine ⟨Nat.le_of_ble_eq_true rfl, I_X4_likelyParishes tc S G m, ?_, ?_⟩
  · rcases four hm with rfl | rfl | rfl | rfl
    · exact Exists.intro 64 ⟨trivial, rfl, 0, S 50, _, _, by omega, rfl, rfl, rfl, rfl, rfl, rfl⟩
    · exact Exists.intro 64 ⟨trivial, rfl, 0, S 51, _, _, by omega, rfl, rfl, rfl, rfl, rfl, rfl⟩
    · exact Exists.intro 64 ⟨trivial, rfl, 0, S 52, _, _, by omega, rfl, rfl, rfl, rfl, rfl, rfl⟩
    · exact Exists.intro 64 ⟨trivial, rfl, 0, S 53, _, _, by omega, rfl, rfl, rfl, rfl, rfl, rfl⟩
  · rintro pc k L st hp ⟨rfl, s, z, x, y, hs, rfl, rfl, rfl, rfl, rfl, rfl⟩
    have hend : S 2 ≤ s → K (some (.int (nI (bs s (fun s => allSo (va_up S (50 + m) s) G))))) (hpC tc S G) := fun h => by
      obtain rfl : s = S 2 := by omega
      exact hK
    have hbr : ∀ {X Y : Prop}, (S 2 ≤ s → X) → (s < S 2 → Y) → (nI (S 2) ≤ nI s → X) ∧ (¬ nI (S 2) ≤ nI s → Y) := fun f g => pk_le (S 2) s f g
    have hn : s < S 2 → ∀ (x : Int32) (y : Int32), x = nI (bs (s + 1) (fun s => allSo (va_up S (50 + m) s) G)) → y = nI (s + 1) → ∃ k, ip_lt k (some (64 - s)) ∧ I_X4_likelyParishes tc S G m 11 k [some (.ref 16), some (.ref 10), some (.ref (12 + m)), some (.int (nI (S (50 + m)))), some (.int x), some (.int y)] [] (hpC tc (va_up S (50 + m) s) G) := fun h x y hx hy => ⟨64 - (s + 1), by show _ < _; omega, rfl, s + 1, s, x, y, by omega, rfl, rfl, rfl, rfl, hx, hy⟩
    have h0 : allSo (va_up S (50 + m) s) G = false → nI (bs s (fun s => allSo (va_up S (50 + m) s) G)) = nI (bs (s + 1) (fun s => allSo (va_up S (50 + m) s) G)) := fun h3 => by simp [bs, h3]
    have h1 : allSo (va_up S (50 + m) s) G = true → nI (bs s (fun s => allSo (va_up S (50 + m) s) G)) ||| ((1 : Int32) <<< (nI s &&& 31)) = nI (bs (s + 1) (fun s => allSo (va_up S (50 + m) s) G)) := fun h3 => by rw [or_bit (bs_lt _ s) (by omega)]; simp [bs, h3]
    have w1 : s < S 2 → wfM (va_up S (50 + m) s) := fun h => wfM_pl hwf hm (by omega)
    have w2 : wfR (va_up S (50 + m) s) G := wfR_up hwr (by omega)
    have h9 : nI s + 1 = nI (s + 1) := nI_1 s
    rcases four hm with rfl | rfl | rfl | rfl
    all_goals
      refine hbr (fun h => ?_) (fun h => ?_)
      · exact hend h
      refine Exists.intro tc ⟨va_up S _ s, G, rfl, rfl, w1 h, w2, ?_⟩
      refine ip_bt (fun h3 => ?_) (fun h3 => ?_)
      · exact hn h _ _ (h0 h3) h9
      · exact hn h _ _ (h1 h3) h9
set_option maxRecDepth 100000 in
set_option maxHeartbeats 4000000 in
theorem m_X4_likelyParishes (l : Launch) : ip_Met l yX4_likelyParishes cX4_likelyParishes 6 (some .int) (ip_rm 5) C_X4_likelyParishes := ip_met tb_X4_likelyParishes 400 (by decide +kernel) fl_X4_ok ip_cn0 (ip_cs1 (ip_gsV (m_X4_allSoIn l) (ip_in [498, 499, 500, 35, 501] (by decide +kernel) (by decide +kernel)) rfl ⟨by decide +kernel, by decide +kernel, by decide +kernel⟩ ⟨rfl, rfl, Nat.le_of_ble_eq_true rfl, Nat.le_of_ble_eq_true rfl⟩) (ip_cs0)) ck_X4_likelyParishes rfl p_X4_likelyParishes
def C_X4_likelyKinds : ip_C := fun vs hp K => ∃ tc S G, ∃ m : Nat, m < 4 ∧ vs = [.ref 16, .ref 10, .ref (12 + m)] ∧ hp = hpC tc S G ∧ wfM S ∧ wfR S G ∧ K (some (.int (nI (bs 3 (fun p => allSo (va_up S (40 + m) p) G))))) hp
def cs_X4_likelyKinds : List ip_G := [(35, 2, 4, C_X4_allSoIn)]
def I_X4_likelyKinds (tc : Int32) (S : Nat → Nat) (G : Nat → Nat → Int32) (m : Nat) : Nat → Nat → ip_P := fun pc k L st hp => pc = 11 ∧ ∃ (s z : Nat) (x : Int32) (y : Int32), s ≤ 3 ∧ k = 64 - s ∧ L = [some (.ref 16), some (.ref 10), some (.ref (12 + m)), some (.int (nI (S (40 + m)))), some (.int x), some (.int y)] ∧ st = [] ∧ hp = hpC tc (va_up S (40 + m) z) G ∧ x = nI (bs s (fun s => allSo (va_up S (40 + m) s) G)) ∧ y = nI s
set_option maxHeartbeats 4000000 in
theorem p_X4_likelyKinds : ip_Pf fl_X4 [] cs_X4_likelyKinds (some .int) tb_X4_likelyKinds 6 C_X4_likelyKinds := by
  rintro _ _ K ⟨tc, S, G, m, hm, rfl, rfl, hwf, hwr, hK⟩
  refine ⟨Nat.le_of_ble_eq_true rfl, I_X4_likelyKinds tc S G m, ?_, ?_⟩
  · rcases four hm with rfl | rfl | rfl | rfl
    · exact Exists.intro 64 ⟨trivial, rfl, 0, S 40, _, _, by omega, rfl, rfl, rfl, rfl, rfl, rfl⟩
    · exact Exists.intro 64 ⟨trivial, rfl, 0, S 41, _, _, by omega, rfl, rfl, rfl, rfl, rfl, rfl⟩
    · exact Exists.intro 64 ⟨trivial, rfl, 0, S 42, _, _, by omega, rfl, rfl, rfl, rfl, rfl, rfl⟩
    · exact Exists.intro 64 ⟨trivial, rfl, 0, S 43, _, _, by omega, rfl, rfl, rfl, rfl, rfl, rfl⟩
  · rintro pc k L st hp ⟨rfl, s, z, x, y, hs, rfl, rfl, rfl, rfl, rfl, rfl⟩
    have hend : 3 ≤ s → K (some (.int (nI (bs s (fun s => allSo (va_up S (40 + m) s) G))))) (hpC tc S G) := fun h => by
      obtain rfl : s = 3 := by omega
      exact hK
    have hbr : ∀ {X Y : Prop}, (3 ≤ s → X) → (s < 3 → Y) → (nI 3 ≤ nI s → X) ∧ (¬ nI 3 ≤ nI s → Y) := fun f g => pk_le 3 s f g
    have hn : s < 3 → ∀ (x : Int32) (y : Int32), x = nI (bs (s + 1) (fun s => allSo (va_up S (40 + m) s) G)) → y = nI (s + 1) → ∃ k, ip_lt k (some (64 - s)) ∧ I_X4_likelyKinds tc S G m 11 k [some (.ref 16), some (.ref 10), some (.ref (12 + m)), some (.int (nI (S (40 + m)))), some (.int x), some (.int y)] [] (hpC tc (va_up S (40 + m) s) G) := fun h x y hx hy => ⟨64 - (s + 1), by show _ < _; omega, rfl, s + 1, s, x, y, by omega, rfl, rfl, rfl, rfl, hx, hy⟩
    have h0 : allSo (va_up S (40 + m) s) G = false → nI (bs s (fun s => allSo (va_up S (40 + m) s) G)) = nI (bs (s + 1) (fun s => allSo (va_up S (40 + m) s) G)) := fun h3 => by simp [bs, h3]
    have h1 : allSo (va_up S (40 + m) s) G = true → nI (bs s (fun s => allSo (va_up S (40 + m) s) G)) ||| ((1 : Int32) <<< (nI s &&& 31)) = nI (bs (s + 1) (fun s => allSo (va_up S (40 + m) s) G)) := fun h3 => by rw [or_bit (bs_lt _ s) (by omega)]; simp [bs, h3]
    have w1 : s < 3 → wfM (va_up S (40 + m) s) := fun h => wfM_kd hwf hm (by omega)
    have w2 : wfR (va_up S (40 + m) s) G := wfR_up hwr (by omega)
    have h9 : nI s + 1 = nI (s + 1) := nI_1 s
    rcases four hm with rfl | rfl | rfl | rfl
    all_goals
      refine hbr (fun h => ?_) (fun h => ?_)
      · exact hend h
      refine Exists.intro tc ⟨va_up S _ s, G, rfl, rfl, w1 h, w2, ?_⟩
      refine ip_bt (fun h3 => ?_) (fun h3 => ?_)
      · exact hn h _ _ (h0 h3) h9
      · exact hn h _ _ (h1 h3) h9
set_option maxRecDepth 100000 in
set_option maxHeartbeats 4000000 in
theorem m_X4_likelyKinds (l : Launch) : ip_Met l yX4_likelyKinds cX4_likelyKinds 6 (some .int) (ip_rm 5) C_X4_likelyKinds := ip_met tb_X4_likelyKinds 400 (by decide +kernel) fl_X4_ok ip_cn0 (ip_cs1 (ip_gsV (m_X4_allSoIn l) (ip_in [498, 499, 500, 35, 501] (by decide +kernel) (by decide +kernel)) rfl ⟨by decide +kernel, by decide +kernel, by decide +kernel⟩ ⟨rfl, rfl, Nat.le_of_ble_eq_true rfl, Nat.le_of_ble_eq_true rfl⟩) (ip_cs0)) ck_X4_likelyKinds rfl p_X4_likelyKinds
end
section
/-! ===== choosing among sets; counting; parts in least terms ===== -/
def ob (o : Option Nat) : Int32 := match o with
  | none => -9
  | some b => nI b
def lst (f : Nat → Bool) : Nat → Option Nat
  | 0 => none
  | n + 1 => match lst f n with
    | some a => some a
    | none => if f n then some n else none
theorem lst_none {f : Nat → Bool} : ∀ {n : Nat}, (∀ i, i < n → f i = false) → lst f n = none
  | 0, _ => rfl
  | n + 1, h => by simp only [lst]; rw [lst_none (fun i hi => h i (by omega)), h n (by omega)]; rfl
theorem lst_some {f : Nat → Bool} {s : Nat} (hs : f s = true) (hn : ∀ i, i < s → f i = false) : ∀ {n : Nat}, s < n → lst f n = some s
  | n + 1, h => by
    simp only [lst]
    rcases Nat.lt_or_ge s n with q | q
    · rw [lst_some hs hn q]
    · obtain rfl : s = n := by omega
      rw [lst_none hn, hs]; rfl
/-- how many of the six -/
def pc6 (a : Nat) : Nat := fb_ct (fun i => a.testBit i) 6
theorem pc6_le (a : Nat) : pc6 a ≤ 6 := fb_ct_le _ 6
def fqB (f : Nat → Bool) : Nat → Option Nat
  | 0 => none
  | n + 1 => if f n && (match fqB f n with
    | none => true
    | some b => decide (pc6 n < pc6 b)) then some n else fqB f n
def fqW (o : Option Nat) : Nat := match o with
  | none => 7
  | some b => pc6 b
def ush (x s : Int32) : Int32 := (x.toUInt32 >>> (s.toUInt32 &&& Int32.toUInt32 31)).toInt32
def bcA (x : Int32) : Int32 := x - (ush x 1 &&& 1431655765)
def bcB (x : Int32) : Int32 := (x &&& 858993459) + (ush x 2 &&& 858993459)
def bcC (x : Int32) : Int32 := (x + ush x 4) &&& 252645135
def bcD (x : Int32) : Int32 := x + ush x 8
def bcE (x : Int32) : Int32 := x + ush x 16
theorem bc_ok : ∀ a : Fin 64, bcE (bcD (bcC (bcB (bcA (nI a.val))))) &&& 63 = nI (pc6 a.val) := by decide +kernel
def C_J6_bitCount : ip_C := fun vs hp K => ∃ a : Nat, a < 64 ∧ vs = [.int (nI a)] ∧ K (some (.int (nI (pc6 a)))) hp
def cs_J6_bitCount : List ip_G := []
theorem p_J6_bitCount : ip_Pf [] cn_J6 cs_J6_bitCount (some .int) tb_J6_bitCount_0f7a4 1 C_J6_bitCount := ip_pf0 (by
  rintro _ hp K ⟨a, ha, rfl, hK⟩
  refine ⟨Nat.le_of_ble_eq_true rfl, ?_⟩
  rw [← bc_ok ⟨a, ha⟩] at hK
  exact hK)
set_option maxRecDepth 100000 in
set_option maxHeartbeats 4000000 in
theorem m_J6_bitCount (l : Launch) : ip_Met l yJ6_bitCount_0f7a4 cJ6_bitCount_0f7a4 1 (some .int) (ip_rm 0) C_J6_bitCount := ip_met tb_J6_bitCount_0f7a4 400 (by decide +kernel) ip_fl0 cn_J6_ok (ip_cs0) ck_J6_bitCount_0f7a4 rfl p_J6_bitCount
def C_X7_leastOf : ip_C := fun vs hp K => ∃ f : Nat → Bool, vs = [.long (lN (bs 64 f))] ∧ K (some (.int (ob (lst f 64)))) hp
def cs_X7_leastOf : List ip_G := [(288, 2, 0, C_X7_holdsSet)]
def I_X7_leastOf (f : Nat → Bool) (hp0 : ip_H) : Nat → Nat → ip_P := fun pc k L st hp => pc = 2 ∧ ∃ (s : Nat) (y : Int32), s ≤ 64 ∧ k = 64 - s ∧ L = [some (.long (lN (bs 64 f))), none, some (.int y)] ∧ st = [] ∧ hp = hp0 ∧ y = nI s ∧ ∀ i, i < s → f i = false
theorem p_X7_leastOf : ip_Pf fl_X7 cn_X7 cs_X7_leastOf (some .int) tb_X7_leastOf 3 C_X7_leastOf := by
  rintro _ hp0 K ⟨f, rfl, hK⟩
  refine ⟨Nat.le_of_ble_eq_true rfl, I_X7_leastOf f hp0, ?_, ?_⟩
  · exact Exists.intro 64 ⟨trivial, rfl, 0, _, by omega, rfl, rfl, rfl, rfl, rfl, fun i hi => absurd hi (by omega)⟩
  · rintro pc k L st hp ⟨rfl, s, y, hs, rfl, rfl, rfl, rfl, rfl, hno⟩
    refine pk_le 64 s (fun h => ?_) (fun h => ?_)
    · rw [lst_none (fun i hi => hno i (by omega))] at hK
      exact hK
    refine Exists.intro (bs 64 f) ⟨s, h, rfl, ?_⟩
    rw [show (bs 64 f).testBit s = f s by rw [bs_bit]; simp [h]]
    refine ip_bt (fun h3 => ?_) (fun h3 => ?_)
    · exact Exists.intro (64 - (s + 1)) ⟨by show _ < _; omega, rfl, s + 1, _, by omega, rfl, rfl, rfl, rfl, nI_1 s, fun i hi => by
        rcases Nat.lt_or_ge i s with q | q
        · exact hno i q
        · obtain rfl : i = s := by omega
          exact h3⟩
    · rw [lst_some h3 hno h] at hK
      exact hK
set_option maxRecDepth 100000 in
set_option maxHeartbeats 4000000 in
theorem m_X7_leastOf (l : Launch) : ip_Met l yX7_leastOf cX7_leastOf 3 (some .int) (ip_rm 1) C_X7_leastOf := ip_met tb_X7_leastOf 400 (by decide +kernel) fl_X7_ok cn_X7_ok (ip_cs1 (ip_gsS (m_X7_holdsSet l) (ip_in [430, 431, 32, 432] (by decide +kernel) (by decide +kernel)) ⟨by decide +kernel, by decide +kernel, by decide +kernel⟩ ⟨rfl, rfl, Nat.le_of_ble_eq_true rfl, Nat.le_of_ble_eq_true rfl⟩) (ip_cs0)) ck_X7_leastOf rfl p_X7_leastOf
def C_X7_countHolding : ip_C := fun vs hp K => ∃ (f : Nat → Bool) (q : Nat), q < 6 ∧ vs = [.long (lN (bs 64 f)), .int (nI q)] ∧ K (some (.int (nI (fb_ct (fun s => f s && s.testBit q) 64)))) hp
def cs_X7_countHolding : List ip_G := [(288, 2, 0, C_X7_holdsSet), (113, 2, 0, C_X7_holds)]
def I_X7_countHolding (f : Nat → Bool) (q : Nat) (hp0 : ip_H) : Nat → Nat → ip_P := fun pc k L st hp => pc = 5 ∧ ∃ (s : Nat) (x y : Int32), s ≤ 64 ∧ k = 64 - s ∧ L = [some (.long (lN (bs 64 f))), none, some (.int (nI q)), some (.int x), some (.int y)] ∧ st = [] ∧ hp = hp0 ∧ x = nI (fb_ct (fun s => f s && s.testBit q) s) ∧ y = nI s
theorem p_X7_countHolding : ip_Pf fl_X7 cn_X7 cs_X7_countHolding (some .int) tb_X7_countHolding 5 C_X7_countHolding := by
  rintro _ hp0 K ⟨f, q, hq, rfl, hK⟩
  refine ⟨Nat.le_of_ble_eq_true rfl, I_X7_countHolding f q hp0, ?_, ?_⟩
  · exact Exists.intro 64 ⟨trivial, rfl, 0, _, _, by omega, rfl, rfl, rfl, rfl, rfl, rfl⟩
  · rintro pc k L st hp ⟨rfl, s, x, y, hs, rfl, rfl, rfl, rfl, rfl, rfl⟩
    refine pk_le 64 s (fun h => ?_) (fun h => ?_)
    · obtain rfl : s = 64 := by omega
      exact hK
    have hn : ∀ x y : Int32, x = nI (fb_ct (fun s => f s && s.testBit q) (s + 1)) → y = nI (s + 1) → ∃ k, ip_lt k (some (64 - s)) ∧ I_X7_countHolding f q hp 5 k [some (.long (lN (bs 64 f))), none, some (.int (nI q)), some (.int x), some (.int y)] [] hp := fun x y hx hy => ⟨64 - (s + 1), by show _ < _; omega, rfl, s + 1, x, y, by omega, rfl, rfl, rfl, rfl, hx, hy⟩
    refine Exists.intro (bs 64 f) ⟨s, h, rfl, ?_⟩
    rw [show (bs 64 f).testBit s = f s by rw [bs_bit]; simp [h]]
    refine ip_bt (fun h3 => ?_) (fun h3 => ?_)
    · exact hn _ _ (by rw [fb_ct_succ, h3]; simp) (nI_1 s)
    refine Exists.intro s ⟨q, h, hq, rfl, ?_⟩
    refine ip_bt (fun h4 => ?_) (fun h4 => ?_)
    · exact hn _ _ (by rw [fb_ct_succ, h3, h4]; simp) (nI_1 s)
    · exact hn _ _ (by rw [fb_ct_succ, h3, h4, nI_1]; simp) (nI_1 s)
set_option maxRecDepth 100000 in
set_option maxHeartbeats 4000000 in
theorem m_X7_countHolding (l : Launch) : ip_Met l yX7_countHolding cX7_countHolding 5 (some .int) (ip_rm 1) C_X7_countHolding := ip_met tb_X7_countHolding 400 (by decide +kernel) fl_X7_ok cn_X7_ok (ip_cs1 (ip_gsS (m_X7_holdsSet l) (ip_in [430, 431, 32, 432] (by decide +kernel) (by decide +kernel)) ⟨by decide +kernel, by decide +kernel, by decide +kernel⟩ ⟨rfl, rfl, Nat.le_of_ble_eq_true rfl, Nat.le_of_ble_eq_true rfl⟩) (ip_cs1 (ip_gsS (m_X7_holds l) (ip_in [318, 319, 32, 320] (by decide +kernel) (by decide +kernel)) ⟨by decide +kernel, by decide +kernel, by decide +kernel⟩ ⟨rfl, rfl, Nat.le_of_ble_eq_true rfl, Nat.le_of_ble_eq_true rfl⟩) (ip_cs0))) ck_X7_countHolding rfl p_X7_countHolding
def C_X7_fewestQuestions : ip_C := fun vs hp K => ∃ f : Nat → Bool, vs = [.long (lN (bs 64 f))] ∧ K (some (.int (ob (fqB f 64)))) hp
def cs_X7_fewestQuestions : List ip_G := [(288, 2, 0, C_X7_holdsSet), (184, 1, 0, C_J6_bitCount)]
def I_X7_fewestQuestions (f : Nat → Bool) (hp0 : ip_H) : Nat → Nat → ip_P := fun pc k L st hp => pc = 9 ∧ ∃ (s : Nat) (x y z : Int32), s ≤ 64 ∧ k = 64 - s ∧ L = [some (.long (lN (bs 64 f))), none, some (.int x), some (.int y), some (.int z)] ∧ st = [] ∧ hp = hp0 ∧ x = ob (fqB f s) ∧ y = nI (fqW (fqB f s)) ∧ z = nI s
theorem fqW_le (f : Nat → Bool) (n : Nat) : fqW (fqB f n) ≤ 7 := by
  unfold fqW
  split
  · omega
  · rename_i b hb
    have := pc6_le b
    omega
theorem p_X7_fewestQuestions : ip_Pf fl_X7 cn_X7 cs_X7_fewestQuestions (some .int) tb_X7_fewestQuestions 5 C_X7_fewestQuestions := by
  rintro _ hp0 K ⟨f, rfl, hK⟩
  refine ⟨Nat.le_of_ble_eq_true rfl, I_X7_fewestQuestions f hp0, ?_, ?_⟩
  · exact Exists.intro 64 ⟨trivial, rfl, 0, _, _, _, by omega, rfl, rfl, rfl, rfl, rfl, rfl, rfl⟩
  · rintro pc k L st hp ⟨rfl, s, x, y, z, hs, rfl, rfl, rfl, rfl, rfl, rfl, rfl⟩
    refine pk_le 64 s (fun h => ?_) (fun h => ?_)
    · obtain rfl : s = 64 := by omega
      exact hK
    have hn : ∀ x y z : Int32, x = ob (fqB f (s + 1)) → y = nI (fqW (fqB f (s + 1))) → z = nI (s + 1) → ∃ k, ip_lt k (some (64 - s)) ∧ I_X7_fewestQuestions f hp 9 k [some (.long (lN (bs 64 f))), none, some (.int x), some (.int y), some (.int z)] [] hp := fun x y z hx hy hz => ⟨64 - (s + 1), by show _ < _; omega, rfl, s + 1, x, y, z, by omega, rfl, rfl, rfl, rfl, hx, hy, hz⟩
    have hw := fqW_le f s
    have hp6 := pc6_le s
    have hcond : (match fqB f s with | none => true | some b => decide (pc6 s < pc6 b)) = decide (pc6 s < fqW (fqB f s)) := by
      unfold fqW
      split
      · exact (decide_eq_true (by omega)).symm
      · rfl
    have e0 : f s = false ∨ fqW (fqB f s) ≤ pc6 s → fqB f (s + 1) = fqB f s := fun h => by
      simp only [fqB]
      rw [hcond]
      rcases h with h | h
      · rw [h]; rfl
      · rw [decide_eq_false (by omega), Bool.and_false]; rfl
    have e1 : f s = true → pc6 s < fqW (fqB f s) → fqB f (s + 1) = some s := fun h h2 => by
      simp only [fqB]
      rw [hcond, h, decide_eq_true h2]; rfl
    refine Exists.intro (bs 64 f) ⟨s, h, rfl, ?_⟩
    rw [show (bs 64 f).testBit s = f s by rw [bs_bit]; simp [h]]
    refine ip_bt (fun h3 => ?_) (fun h3 => ?_)
    · exact hn _ _ _ (by rw [e0 (Or.inl h3)]) (by rw [e0 (Or.inl h3)]) (nI_1 s)
    refine Exists.intro s ⟨h, rfl, ?_⟩
    refine pk_le (fqW (fqB f s)) (pc6 s) (fun h4 => ?_) (fun h4 => ?_)
    · exact hn _ _ _ (by rw [e0 (Or.inr h4)]) (by rw [e0 (Or.inr h4)]) (nI_1 s)
    refine Exists.intro s ⟨h, rfl, ?_⟩
    exact hn _ _ _ (by rw [e1 h3 h4]; rfl) (by rw [e1 h3 h4]; rfl) (nI_1 s)
set_option maxRecDepth 100000 in
set_option maxHeartbeats 4000000 in
theorem m_X7_fewestQuestions (l : Launch) : ip_Met l yX7_fewestQuestions cX7_fewestQuestions 5 (some .int) (ip_rm 1) C_X7_fewestQuestions := ip_met tb_X7_fewestQuestions 400 (by decide +kernel) fl_X7_ok cn_X7_ok (ip_cs1 (ip_gsS (m_X7_holdsSet l) (ip_in [430, 431, 32, 432] (by decide +kernel) (by decide +kernel)) ⟨by decide +kernel, by decide +kernel, by decide +kernel⟩ ⟨rfl, rfl, Nat.le_of_ble_eq_true rfl, Nat.le_of_ble_eq_true rfl⟩) (ip_cs1 (ip_gsS (m_J6_bitCount l) (ip_in [433, 434, 44, 435] (by decide +kernel) (by decide +kernel)) ⟨by decide +kernel, by decide +kernel, by decide +kernel⟩ ⟨rfl, rfl, Nat.le_of_ble_eq_true rfl, Nat.le_of_ble_eq_true rfl⟩) (ip_cs0))) ck_X7_fewestQuestions rfl p_X7_fewestQuestions
-- what he must learn
def les (S : Nat → Nat) (G : Nat → Nat → Int32) (m s : Nat) : Bool := decide (S (60 + m) &&& s = 0) && !anyb (S 5) (fun t => stT (va_up S (60 + m) (S (60 + m) ||| s)) G t)
def C_X7_lessons : ip_C := fun vs hp K => ∃ tc S G, ∃ m : Nat, m < 4 ∧ vs = [.ref 0, .ref (12 + m)] ∧ hp = hpC tc S G ∧ wfM S ∧ wfT S G ∧ K (some (.long (lN (bs 64 (les S G m))))) hp
def cs_X7_lessons : List ip_G := [(137, 2, 6, C_X6_firstIn)]
def I_X7_lessons (tc : Int32) (S : Nat → Nat) (G : Nat → Nat → Int32) (m : Nat) : Nat → Nat → ip_P := fun pc k L st hp => pc = 10 ∧ ∃ (s z : Nat) (x : Int64) (y : Int32), s ≤ 64 ∧ k = 64 - s ∧ L = [some (.ref 0), some (.ref (12 + m)), some (.int (nI (S (60 + m)))), some (.long x), none, some (.int y)] ∧ st = [] ∧ hp = hpC tc (va_up S (60 + m) z) G ∧ x = lN (bs s (les S G m)) ∧ y = nI s
theorem anyb_no {f : Nat → Bool} {n : Nat} (h : anyb n f = false) : ∀ i, i < n → f i = false := fun i hi => by
  cases hf : f i
  · rfl
  · rw [anyb_true hi hf] at h; cases h
set_option maxHeartbeats 4000000 in
theorem p_X7_lessons : ip_Pf fl_X7 cn_X7 cs_X7_lessons (some .long) tb_X7_lessons 6 C_X7_lessons := by
  rintro _ _ K ⟨tc, S, G, m, hm, rfl, rfl, hwf, hwt, hK⟩
  refine ⟨Nat.le_of_ble_eq_true rfl, I_X7_lessons tc S G m, ?_, ?_⟩
  · rcases four hm with rfl | rfl | rfl | rfl
    · exact Exists.intro 64 ⟨trivial, rfl, 0, S 60, _, _, by omega, rfl, rfl, rfl, rfl, rfl, rfl⟩
    · exact Exists.intro 64 ⟨trivial, rfl, 0, S 61, _, _, by omega, rfl, rfl, rfl, rfl, rfl, rfl⟩
    · exact Exists.intro 64 ⟨trivial, rfl, 0, S 62, _, _, by omega, rfl, rfl, rfl, rfl, rfl, rfl⟩
    · exact Exists.intro 64 ⟨trivial, rfl, 0, S 63, _, _, by omega, rfl, rfl, rfl, rfl, rfl, rfl⟩
  · rintro pc k L st hp ⟨rfl, s, z, x, y, hs, rfl, rfl, rfl, rfl, rfl, rfl⟩
    have hl64 := (hwf.2.2.2 m hm).2.2
    have hend : 64 ≤ s → K (some (.long (lN (bs s (les S G m))))) (hpC tc S G) := fun h => by
      obtain rfl : s = 64 := by omega
      exact hK
    have hn : s < 64 → ∀ (x : Int64) (y w : Int32), w = nI (S (60 + m) ||| s) → x = lN (bs (s + 1) (les S G m)) → y = nI (s + 1) → ∃ k, ip_lt k (some (64 - s)) ∧ I_X7_lessons tc S G m 10 k [some (.ref 0), some (.ref (12 + m)), some (.int (nI (S (60 + m)))), some (.long x), none, some (.int y)] [] (hpC tc (va_up S (60 + m) (S (60 + m) ||| s)) G) := fun h x y w hw hx hy => ⟨64 - (s + 1), by show _ < _; omega, rfl, s + 1, _, x, y, by omega, rfl, rfl, rfl, rfl, hx, hy⟩
    have w1 : s < 64 → wfM (va_up S (60 + m) (S (60 + m) ||| s)) := fun h => wfM_li hwf hm (or64 hl64 h)
    have w2 : wfT (va_up S (60 + m) (S (60 + m) ||| s)) G := wfT_up hwt (by omega)
    have e5 : va_up S (60 + m) (S (60 + m) ||| s) 5 = S 5 := by simp only [va_up]; rw [if_neg (by omega)]
    have h0 : les S G m s = false → lN (bs s (les S G m)) = lN (bs (s + 1) (les S G m)) := fun h3 => by simp [bs, h3]
    have h1 : s < 64 → les S G m s = true → lN (bs s (les S G m)) ||| (Int64.ofNat 1 <<< ((nI s).toInt64 &&& 63)) = lN (bs (s + 1) (les S G m)) := fun h h3 => by rw [ls_or (bs_lt _ s) h]; simp [bs, h3]
    have h9 : nI s + 1 = nI (s + 1) := nI_1 s
    have hor : nI (S (60 + m)) ||| nI s = nI (S (60 + m) ||| s) := fa_or _ _
    have hba : s < 64 → S (60 + m) &&& s < 64 := fun h => Nat.and_lt_two_pow (n := 6) _ h
    have hb1 : s < 64 → ∀ {X Y : Prop}, (S (60 + m) &&& s ≠ 0 → X) → (S (60 + m) &&& s = 0 → Y) → (¬ nI (S (60 + m)) &&& nI s = 0 → X) ∧ (nI (S (60 + m)) &&& nI s = 0 → Y) := fun h X Y f g => by
      rw [fa_and]
      exact pk_ne _ 0 f g rfl rfl (by have := hba h; omega)
    have l0 : S (60 + m) &&& s ≠ 0 → les S G m s = false := fun h => by rw [les, decide_eq_false h]; rfl
    have l1 : ∀ t, t < va_up S (60 + m) (S (60 + m) ||| s) 5 → stT (va_up S (60 + m) (S (60 + m) ||| s)) G t = true → les S G m s = false := fun t ht h => by rw [e5] at ht; rw [les, anyb_true ht h, Bool.not_true, Bool.and_false]
    have l2 : S (60 + m) &&& s = 0 → (∀ t, t < va_up S (60 + m) (S (60 + m) ||| s) 5 → stT (va_up S (60 + m) (S (60 + m) ||| s)) G t = false) → les S G m s = true := fun h h2 => by rw [e5] at h2; rw [les, decide_eq_true h, anyb_false h2]; rfl
    have ht20 : ∀ t, t < va_up S (60 + m) (S (60 + m) ||| s) 5 → t < 20 := fun t h => by have := hwt.1; omega
    have hne : ∀ t, t < 20 → ¬ nI t = -9 := by decide +kernel
    have hK0 : hpC tc (va_up S (60 + m) (S (60 + m) ||| s)) G = hpC tc (va_up S (60 + m) (S (60 + m) ||| s)) G := rfl
    rcases four hm with rfl | rfl | rfl | rfl
    all_goals
      refine pk_le 64 s (fun h => ?_) (fun h => ?_)
      · exact hend h
      refine hb1 h (fun h2 => ?_) (fun h2 => ?_)
      · rw [hor]
        exact hn h _ _ _ rfl (h0 (l0 h2)) h9
      rw [hor]
      refine Exists.intro tc ⟨va_up S _ (_ ||| s), G, rfl, rfl, w1 h, w2, fun t ht h3 _ => ?_, fun h3 => ?_⟩
      · refine And.intro (fun _ => ?_) (fun h4 => absurd h4 (hne t (ht20 t ht)))
        exact hn h _ _ _ rfl (h0 (l1 t ht h3)) h9
      · refine And.intro (fun h4 => absurd rfl h4) (fun _ => ?_)
        exact hn h _ _ _ rfl (h1 h (l2 h2 h3)) h9
set_option maxRecDepth 100000 in
set_option maxHeartbeats 4000000 in
theorem m_X7_lessons (l : Launch) : ip_Met l yX7_lessons cX7_lessons 6 (some .long) (ip_rm 5) C_X7_lessons := ip_met tb_X7_lessons 400 (by decide +kernel) fl_X7_ok cn_X7_ok (ip_cs1 (ip_gsV (m_X6_firstIn l) (ip_in [379, 380, 381, 36, 382] (by decide +kernel) (by decide +kernel)) rfl ⟨by decide +kernel, by decide +kernel, by decide +kernel⟩ ⟨rfl, rfl, Nat.le_of_ble_eq_true rfl, Nat.le_of_ble_eq_true rfl⟩) (ip_cs0)) ck_X7_lessons rfl p_X7_lessons
end
section
/-! ===== Long.bitCount ===== -/
theorem and_split {a b : Nat} (ha : a < 256) (hb : b < 256) (x y : Nat) : (a + 256 * x) &&& (b + 256 * y) = (a &&& b) + 256 * (x &&& y) := by
  apply Nat.eq_of_testBit_eq
  intro i
  have h256 : 256 = 2 ^ 8 := rfl
  have key : ∀ {c : Nat} (z : Nat), c < 256 → (c + 256 * z).testBit i = if i < 8 then c.testBit i else z.testBit (i - 8) := by
    intro c z hc
    rw [show c + 256 * z = 2 ^ 8 * z + c by omega, Nat.testBit_two_pow_mul_add z hc]
  have hab : a &&& b < 256 := Nat.and_lt_two_pow (n := 8) _ hb
  rw [Nat.testBit_and, key x ha, key y hb, key _ hab, Nat.testBit_and]
  split
  · rfl
  · rw [Nat.testBit_and]
def mk8 (v : Nat) : Nat → Nat
  | 0 => 0
  | k + 1 => v + 256 * mk8 v k
def bA (k n : Nat) : Nat := n - ((n / 2) &&& mk8 85 k)
def bB (k n : Nat) : Nat := (n &&& mk8 51 k) + ((n / 4) &&& mk8 51 k)
def bC (k n : Nat) : Nat := (n + n / 16) &&& mk8 15 k
def a8 (a : Nat) : Nat := a - ((a / 2) &&& 85)
def b8 (a : Nat) : Nat := (a &&& 51) + ((a / 4) &&& 51)
def c8 (a : Nat) : Nat := (a + a / 16) &&& 15
theorem t_a8 : ∀ a : Fin 256, ∀ e : Fin 2, ((a.val / 2 + 128 * e.val) &&& 85) = (a.val / 2) &&& 85 ∧ a.val / 2 + 128 * e.val < 256 := by decide +kernel
theorem t_b8 : ∀ a : Fin 256, ∀ e : Fin 4, ((a.val / 4 + 64 * e.val) &&& 51) = (a.val / 4) &&& 51 ∧ a.val / 4 + 64 * e.val < 256 := by decide +kernel
theorem t_c8 : ∀ a : Fin 256, b8 (a8 a.val) ≤ 68 ∧ b8 (a8 a.val) % 16 ≤ 4 ∧ c8 (b8 (a8 a.val)) = fb_ct (fun i => a.val.testBit i) 8 := by decide +kernel
theorem t_d8 : ∀ a : Fin 73, ∀ e : Fin 5, ((a.val + 16 * e.val) &&& 15) = a.val &&& 15 := by decide +kernel
theorem t_a8lt : ∀ a : Fin 256, a8 a.val < 256 ∧ ((a.val / 2) &&& 85) ≤ a.val := by decide +kernel
theorem and_le (a b : Nat) : a &&& b ≤ a := Nat.and_le_left
theorem bA_s (k a x : Nat) (ha : a < 256) : bA (k + 1) (a + 256 * x) = a8 a + 256 * bA k x := by
  have h1 : (a + 256 * x) / 2 = (a / 2 + 128 * (x % 2)) + 256 * (x / 2) := by omega
  obtain ⟨e1, e2⟩ := t_a8 ⟨a, ha⟩ ⟨x % 2, by omega⟩
  simp only at e1 e2
  have h2 := (t_a8lt ⟨a, ha⟩).2
  simp only at h2
  have h3 : (x / 2) &&& mk8 85 k ≤ x := Nat.le_trans (and_le _ _) (by omega)
  unfold bA a8
  rw [h1, mk8, and_split e2 (by omega), e1]
  omega
theorem bB_s (k a x : Nat) (ha : a < 256) : bB (k + 1) (a + 256 * x) = b8 a + 256 * bB k x := by
  have h1 : (a + 256 * x) / 4 = (a / 4 + 64 * (x % 4)) + 256 * (x / 4) := by omega
  obtain ⟨e1, e2⟩ := t_b8 ⟨a, ha⟩ ⟨x % 4, by omega⟩
  simp only at e1 e2
  unfold bB b8
  rw [h1, mk8, and_split e2 (by omega), e1, and_split ha (by omega)]
  omega
def bT (k n : Nat) : Nat := bC k (bB k (bA k n))
theorem bBA_mod (k : Nat) : ∀ x, x < 256 ^ k → bB k (bA k x) % 16 ≤ 4 := by
  intro x hx
  cases k with
  | zero => simp [bB, mk8]
  | succ k =>
    obtain ⟨a, y, rfl, ha⟩ : ∃ a y, x = a + 256 * y ∧ a < 256 := ⟨x % 256, x / 256, by omega, by omega⟩
    have hlt : a8 a < 256 := (t_a8lt ⟨a, ha⟩).1
    have h2 : b8 (a8 a) % 16 ≤ 4 := (t_c8 ⟨a, ha⟩).2.1
    rw [bA_s k a y ha, bB_s k _ _ hlt]
    omega
theorem bT_s (k a x : Nat) (ha : a < 256) (hx : x < 256 ^ k) : bT (k + 1) (a + 256 * x) = fb_ct (fun i => a.testBit i) 8 + 256 * bT k x := by
  obtain ⟨p1, p2, p3⟩ := t_c8 ⟨a, ha⟩
  simp only at p1 p2 p3
  have hm := bBA_mod k x hx
  unfold bT
  have hlt : a8 a < 256 := (t_a8lt ⟨a, ha⟩).1
  rw [bA_s k a x ha, bB_s k _ _ hlt]
  unfold bC
  have h1 : (b8 (a8 a) + 256 * bB k (bA k x)) + (b8 (a8 a) + 256 * bB k (bA k x)) / 16 = (b8 (a8 a) + b8 (a8 a) / 16 + 16 * (bB k (bA k x) % 16)) + 256 * (bB k (bA k x) + bB k (bA k x) / 16) := by omega
  have h2 := t_d8 ⟨b8 (a8 a) + b8 (a8 a) / 16, by omega⟩ ⟨bB k (bA k x) % 16, by omega⟩
  simp only at h2
  rw [h1, mk8, and_split (by omega) (by omega), h2]
  rw [← p3]
  rfl
theorem ct_split (k a x : Nat) (ha : a < 256) : fb_ct (fun i => (a + 256 * x).testBit i) (8 + k) = fb_ct (fun i => a.testBit i) 8 + fb_ct (fun i => x.testBit i) k := by
  have key : ∀ i, (a + 256 * x).testBit i = if i < 8 then a.testBit i else x.testBit (i - 8) := by
    intro i
    rw [show a + 256 * x = 2 ^ 8 * x + a by omega, Nat.testBit_two_pow_mul_add x ha]
  rw [fb_ct_split]
  congr 1
  · exact fb_ct_cong (fun i hi => by rw [key, if_pos hi])
  · exact fb_ct_cong (fun i _ => by rw [key, if_neg (by omega), show 8 + i - 8 = i by omega])
theorem bT_step (k m n : Nat) (hn : n < 256 ^ (k + 1)) : ∃ p y, p ≤ 8 ∧ y < 256 ^ k ∧ bT (k + 1) n = p + 256 * bT k y ∧ fb_ct (fun i => n.testBit i) (8 + m) = p + fb_ct (fun i => y.testBit i) m := by
  rw [Nat.pow_succ] at hn
  obtain ⟨a, y, rfl, ha⟩ : ∃ a y, n = a + 256 * y ∧ a < 256 := ⟨n % 256, n / 256, by omega, by omega⟩
  have hy : y < 256 ^ k := by omega
  exact ⟨_, y, fb_ct_le _ 8, hy, bT_s k a y ha hy, ct_split m a y ha⟩
theorem div256 {a r x : Nat} (h : a < 256) (e : x = a + 256 * r) : x / 256 = r := by omega
theorem lin2 {p q r1 r2 r3 : Nat} (e1 : r1 = p + 256 * r2) (e2 : r2 = q + 256 * r3) : r1 + r2 = (p + q) + 256 * (r2 + r3) := by omega
theorem lin3 {s t u0 u1 u2 u3 : Nat} (e1 : u0 = s + 256 * u1) (e2 : u2 = t + 256 * u3) : u0 + u2 = (s + t) + 256 * (u1 + u3) := by omega
theorem def8 (p0 p1 p2 p3 p4 p5 p6 p7 x y z w : Nat) (h0 : p0 ≤ 8) (h1 : p1 ≤ 8) (h2 : p2 ≤ 8) (h3 : p3 ≤ 8) (h4 : p4 ≤ 8) (h5 : p5 ≤ 8) (h6 : p6 ≤ 8) (h7 : p7 ≤ 8) (hx : x = p0 + 256 * (p1 + 256 * (p2 + 256 * (p3 + 256 * (p4 + 256 * (p5 + 256 * (p6 + 256 * p7))))))) (hy : y = x + x / 256) (hz : z = y + y / 65536) (hw : w = z + z / 4294967296) : w % 128 = p0 + (p1 + (p2 + (p3 + (p4 + (p5 + (p6 + p7)))))) := by
  obtain ⟨r7, e7⟩ : ∃ r, r = p7 + 256 * 0 := ⟨_, rfl⟩
  obtain ⟨r6, e6⟩ : ∃ r, r = p6 + 256 * r7 := ⟨_, rfl⟩
  obtain ⟨r5, e5⟩ : ∃ r, r = p5 + 256 * r6 := ⟨_, rfl⟩
  obtain ⟨r4, e4⟩ : ∃ r, r = p4 + 256 * r5 := ⟨_, rfl⟩
  obtain ⟨r3, e3⟩ : ∃ r, r = p3 + 256 * r4 := ⟨_, rfl⟩
  obtain ⟨r2, e2⟩ : ∃ r, r = p2 + 256 * r3 := ⟨_, rfl⟩
  obtain ⟨r1, e1⟩ : ∃ r, r = p1 + 256 * r2 := ⟨_, rfl⟩
  have e0 : x = p0 + 256 * r1 := by rw [e1, e2, e3, e4, e5, e6, e7, Nat.mul_zero, Nat.add_zero]; exact hx
  have b : ∀ {a c : Nat}, a ≤ 8 → c ≤ 8 → a + c < 256 := fun ha hc => by clear hx hy hz hw e0 e1 e2 e3 e4 e5 e6 e7; omega
  have b4 : ∀ {a c d f : Nat}, a ≤ 8 → c ≤ 8 → d ≤ 8 → f ≤ 8 → a + c + (d + f) < 256 := fun ha hc hd hf => by clear hx hy hz hw e0 e1 e2 e3 e4 e5 e6 e7; omega
  rw [div256 (Nat.lt_of_le_of_lt h0 (by decide)) e0] at hy
  have w0 := lin2 e0 e1
  have w1 := lin2 e1 e2
  have w2 := lin2 e2 e3
  have w3 := lin2 e3 e4
  have w4 := lin2 e4 e5
  have w5 := lin2 e5 e6
  have w6 := lin2 e6 e7
  have w7 : r7 + 0 = p7 + 256 * (0 + 0) := by rw [e7]
  rw [← hy] at w0
  have q2 : y / 65536 = r2 + r3 := by
    rw [show (65536 : Nat) = 256 * 256 from rfl, ← Nat.div_div_eq_div_mul, div256 (b h0 h1) w0, div256 (b h1 h2) w1]
  rw [q2] at hz
  have y0 := lin3 w0 w2
  have y1 := lin3 w1 w3
  have y2 := lin3 w2 w4
  have y3 := lin3 w3 w5
  have y4 := lin3 w4 w6
  rw [← hz] at y0
  have q3 : z / 4294967296 = r4 + r5 + (r6 + r7) := by
    rw [show (4294967296 : Nat) = 256 * 256 * 256 * 256 from rfl, ← Nat.div_div_eq_div_mul, ← Nat.div_div_eq_div_mul, ← Nat.div_div_eq_div_mul, div256 (b4 h0 h1 h2 h3) y0, div256 (b4 h1 h2 h3 h4) y1, div256 (b4 h2 h3 h4 h5) y2, div256 (b4 h3 h4 h5 h6) y3]
  rw [q3] at hw
  rw [y0, y4] at hw
  rw [hw]
  have fin : ∀ T1 T5 : Nat, (p0 + p1 + (p2 + p3) + 256 * T1 + (p4 + p5 + (p6 + p7) + 256 * T5)) % 128 = p0 + (p1 + (p2 + (p3 + (p4 + (p5 + (p6 + p7)))))) := fun T1 T5 => by
    clear hx hy hz hw e0 e1 e2 e3 e4 e5 e6 e7 w0 w1 w2 w3 w4 w5 w6 w7 q2 q3 y0 y1 y2 y3 y4 b b4
    omega
  exact fin _ _
theorem bT_8 (n : Nat) (hn : n < 256 ^ 8) (x y z w : Nat) (hx : x = bT 8 n) (hy : y = x + x / 256) (hz : z = y + y / 65536) (hw : w = z + z / 4294967296) : w % 128 = fb_ct (fun i => n.testBit i) (8 + (8 + (8 + (8 + (8 + (8 + (8 + (8 + 0)))))))) := by
  obtain ⟨p0, n1, q0, hn1, a0, b0⟩ := bT_step 7 (8 + (8 + (8 + (8 + (8 + (8 + (8 + 0))))))) n hn
  obtain ⟨p1, n2, q1, hn2, a1, b1⟩ := bT_step 6 (8 + (8 + (8 + (8 + (8 + (8 + 0)))))) n1 hn1
  obtain ⟨p2, n3, q2, hn3, a2, b2⟩ := bT_step 5 (8 + (8 + (8 + (8 + (8 + 0))))) n2 hn2
  obtain ⟨p3, n4, q3, hn4, a3, b3⟩ := bT_step 4 (8 + (8 + (8 + (8 + 0)))) n3 hn3
  obtain ⟨p4, n5, q4, hn5, a4, b4⟩ := bT_step 3 (8 + (8 + (8 + 0))) n4 hn4
  obtain ⟨p5, n6, q5, hn6, a5, b5⟩ := bT_step 2 (8 + (8 + 0)) n5 hn5
  obtain ⟨p6, n7, q6, hn7, a6, b6⟩ := bT_step 1 (8 + 0) n6 hn6
  obtain ⟨p7, n8, q7, hn8, a7, b7⟩ := bT_step 0 0 n7 hn7
  have hz0 : bT 0 n8 = 0 := by simp [bT, bC, mk8]
  rw [b0, b1, b2, b3, b4, b5, b6, b7]
  rw [a0, a1, a2, a3, a4, a5, a6, a7, hz0, Nat.mul_zero, Nat.add_zero] at hx
  exact def8 p0 p1 p2 p3 p4 p5 p6 p7 x y z w q0 q1 q2 q3 q4 q5 q6 q7 hx hy hz hw
end
section
theorem mk8_55 : mk8 85 8 = 6148914691236517205 ∧ mk8 51 8 = 3689348814741910323 ∧ mk8 15 8 = 1085102592571150095 := by decide +kernel
def lus (x : Int64) (s : Int32) : Int64 := (x.toUInt64 >>> (s.toInt64.toUInt64 &&& Int64.toUInt64 63)).toInt64
def lcA (x : Int64) : Int64 := x - (lus x 1 &&& 6148914691236517205)
def lcB (x : Int64) : Int64 := (x &&& 3689348814741910323) + (lus x 2 &&& 3689348814741910323)
def lcC (x : Int64) : Int64 := (x + lus x 4) &&& 1085102592571150095
def lcD (x : Int64) : Int64 := x + lus x 8
def lcE (x : Int64) : Int64 := x + lus x 16
def lcF (x : Int64) : Int64 := x + lus x 32
theorem lus_n {n k : Nat} (hn : n < 2 ^ 64) (hk : k < 64) : lus (lN n) (nI k) = lN (n / 2 ^ k) := wb_shr hn hk
theorem bA_le (n : Nat) : bA 8 n ≤ n := Nat.sub_le _ _
theorem bB_le (n : Nat) : bB 8 n ≤ n + n / 4 := by unfold bB; exact Nat.add_le_add (and_le _ _) (and_le _ _)
theorem lc_all {n : Nat} (hn : n < 2 ^ 64) : ∃ x y z w : Nat, x = bT 8 n ∧ y = x + x / 256 ∧ z = y + y / 65536 ∧ w = z + z / 4294967296 ∧ lcF (lcE (lcD (lcC (lcB (lcA (lN n)))))) = lN w := by
  obtain ⟨m1, m2, m3⟩ := mk8_55
  have hA : lcA (lN n) = lN (bA 8 n) := by
    have h1 : lus (lN n) 1 = lN (n / 2) := lus_n (k := 1) hn (by decide)
    unfold lcA bA
    rw [h1, m1]
    show lN n - (lN (n / 2) &&& lN 6148914691236517205) = _
    rw [wb_and (by omega) (by decide), lN_sub (Nat.le_trans (and_le _ _) (by omega))]
  have ha := bA_le n
  generalize hA2 : bA 8 n = a at hA ha
  have hal : a < 2 ^ 64 := by omega
  have hB : lcB (lN a) = lN (bB 8 a) := by
    have h1 : lus (lN a) 2 = lN (a / 4) := lus_n (k := 2) hal (by decide)
    unfold lcB bB
    rw [h1, m2]
    show (lN a &&& lN 3689348814741910323) + (lN (a / 4) &&& lN 3689348814741910323) = _
    rw [wb_and hal (by decide), wb_and (by omega) (by decide), lN_add]
  have hbl : bB 8 a ≤ 7378697629483820646 := by
    unfold bB
    rw [m2]
    have u1 : a &&& 3689348814741910323 ≤ 3689348814741910323 := Nat.and_le_right
    have u2 : a / 4 &&& 3689348814741910323 ≤ 3689348814741910323 := Nat.and_le_right
    omega
  generalize hB2 : bB 8 a = b at hB hbl
  have hC : lcC (lN b) = lN (bC 8 b) := by
    have h1 : lus (lN b) 4 = lN (b / 16) := lus_n (k := 4) (by omega) (by decide)
    unfold lcC bC
    rw [h1, m3, lN_add]
    show lN (b + b / 16) &&& lN 1085102592571150095 = _
    rw [wb_and (by omega) (by decide)]
  have hcl : bC 8 b ≤ 1085102592571150095 := by
    unfold bC
    rw [m3]
    exact Nat.and_le_right
  refine ⟨bT 8 n, _, _, _, rfl, rfl, rfl, rfl, ?_⟩
  have hT : bT 8 n = bC 8 b := by unfold bT; rw [hA2, hB2]
  rw [hA, hB, hC, ← hT]
  rw [← hT] at hcl
  generalize bT 8 n = x at hcl
  have hD : lcD (lN x) = lN (x + x / 256) := by
    have h1 : lus (lN x) 8 = lN (x / 256) := lus_n (k := 8) (by omega) (by decide)
    unfold lcD
    rw [h1, lN_add]
  rw [hD]
  have hE : ∀ y, y < 2 ^ 62 → lcE (lN y) = lN (y + y / 65536) := fun y hy => by
    have h1 : lus (lN y) 16 = lN (y / 65536) := lus_n (k := 16) (by omega) (by decide)
    unfold lcE
    rw [h1, lN_add]
  have hF : ∀ y, y < 2 ^ 62 → lcF (lN y) = lN (y + y / 4294967296) := fun y hy => by
    have h1 : lus (lN y) 32 = lN (y / 4294967296) := lus_n (k := 32) (by omega) (by decide)
    unfold lcF
    rw [h1, lN_add]
  rw [hE _ (by omega), hF _ (by omega)]
def C_J13_bitCount : ip_C := fun vs hp K => ∃ n : Nat, n < 2 ^ 64 ∧ vs = [.long (lN n)] ∧ K (some (.int (nI (fb_ct (fun i => n.testBit i) 64)))) hp
def cs_J13_bitCount : List ip_G := []
theorem p_J13_bitCount : ip_Pf [] cn_J13 cs_J13_bitCount (some .int) tb_J13_bitCount_95d88 2 C_J13_bitCount := ip_pf0 (by
  rintro _ hp K ⟨n, hn, rfl, hK⟩
  refine ⟨Nat.le_of_ble_eq_true rfl, ?_⟩
  obtain ⟨x, y, z, w, hx, hy, hz, hw, h⟩ := lc_all hn
  have e := bT_8 n hn x y z w hx hy hz hw
  have e2 : (lcF (lcE (lcD (lcC (lcB (lcA (lN n))))))).toInt32 &&& 127 = nI (fb_ct (fun i => n.testBit i) 64) := by
    rw [h, lN_i]
    have := fa_mask w 7
    rw [show (2 ^ 7 - 1 : Nat) = 127 from rfl, show (2 ^ 7 : Nat) = 128 from rfl, e] at this
    exact this
  rw [← e2] at hK
  exact hK)
set_option maxRecDepth 100000 in
set_option maxHeartbeats 4000000 in
theorem m_J13_bitCount (l : Launch) : ip_Met l yJ13_bitCount_95d88 cJ13_bitCount_95d88 2 (some .int) (ip_rm 0) C_J13_bitCount := ip_met tb_J13_bitCount_95d88 400 (by decide +kernel) ip_fl0 cn_J13_ok (ip_cs0) ck_J13_bitCount_95d88 rfl p_J13_bitCount
end
section
/-! ===== the class's own calls, the plain ones ===== -/
abbrev inI (a : Int32) (n : Nat) : Prop := 0 ≤ a.toInt ∧ a.toInt < n
def nt (a : Int32) : Nat := a.toInt.toNat
theorem nt_n {n : Nat} (h : n < 2147483648) : nt (nI n) = n := by unfold nt; rw [ti_n h]; omega
theorem inI_nt {a : Int32} {n : Nat} (h : inI a n) : nt a < n ∧ a = nI (nt a) := by
  obtain ⟨j, hj, rfl, e⟩ := ti_of h.1
  rw [nt_n hj]
  exact ⟨by have := h.2; omega, rfl⟩
theorem inI_n {j n : Nat} (h : j < n) (hn : n < 2147483648) : inI (nI j) n := by unfold inI; rw [ti_n (by omega)]; omega
def wfC (S : Nat → Nat) (G : Nat → Nat → Int32) : Prop := wfM S ∧ wfH S ∧ wfR S G ∧ S 0 ≤ 4 ∧ (S 2 = 0 ↔ S 3 = 0) ∧ S 2 ≠ 1
def C_X7_sheetOf : ip_C := fun vs hp K => ∃ tc S G, ∃ k : Int32, vs = [.ref 0, .int k] ∧ hp = hpC tc S G ∧ (¬ inI k 4 → K (some .null) hp) ∧ ∀ j : Nat, j < 4 → k = nI j → K (some (.ref (2 + 2 * j))) hp
def cs_X7_sheetOf : List ip_G := []
theorem p_X7_sheetOf : ip_Pf fl_X7 cn_X7 cs_X7_sheetOf (some (.object "ThunderAsks$Sheet")) tb_X7_sheetOf 2 C_X7_sheetOf := ip_pf0 (by
  rintro _ _ K ⟨tc, S, G, k, rfl, rfl, hK, hK2⟩
  refine ⟨Nat.le_of_ble_eq_true rfl, ?_⟩
  refine bz_lt k.toInt 0 (fun h => ?_) (fun h => ?_)
  · exact hK (fun q => by have := q.1; omega)
  refine bz_lt k.toInt 4 (fun h3 => ?_) (fun h3 => ?_)
  · obtain ⟨j, -, rfl, hj⟩ := ti_of h
    have hj4 : j < 4 := by omega
    have hk := hK2 j hj4 rfl
    have hin : vp_in (nI j) 4 := pk_in j 4 (by omega)
    rcases four hj4 with rfl | rfl | rfl | rfl
    all_goals exact And.intro hin hk
  · exact hK (fun q => by have := q.2; omega))
set_option maxRecDepth 100000 in
set_option maxHeartbeats 4000000 in
theorem m_X7_sheetOf (l : Launch) : ip_Met l yX7_sheetOf cX7_sheetOf 2 (some (.object "ThunderAsks$Sheet")) (ip_rm 0) C_X7_sheetOf := ip_met tb_X7_sheetOf 400 (by decide +kernel) fl_X7_ok cn_X7_ok (ip_cs0) ck_X7_sheetOf rfl p_X7_sheetOf
def C_X7_faulty : ip_C := fun vs hp K => ∃ tc S G, ∃ f : Nat, vs = [.ref 0, .int (nI f)] ∧ hp = hpC tc S G ∧ K (some (.int (-10 - nI f))) (hpC tc (va_up S 0 f) G)
def cs_X7_faulty : List ip_G := []
theorem p_X7_faulty : ip_Pf fl_X7 cn_X7 cs_X7_faulty (some .int) tb_X7_faulty 2 C_X7_faulty := ip_pf0 (by
  rintro _ _ K ⟨tc, S, G, f, rfl, rfl, hK⟩
  exact ⟨Nat.le_of_ble_eq_true rfl, hK⟩)
set_option maxRecDepth 100000 in
set_option maxHeartbeats 4000000 in
theorem m_X7_faulty (l : Launch) : ip_Met l yX7_faulty cX7_faulty 2 (some .int) (ip_rm 0) C_X7_faulty := ip_met tb_X7_faulty 400 (by decide +kernel) fl_X7_ok cn_X7_ok (ip_cs0) ck_X7_faulty rfl p_X7_faulty
def C_X7_begin : ip_C := fun vs hp K => ∃ tc S G, ∃ b : Int32, vs = [.ref 0, .int b] ∧ hp = hpC tc S G ∧ K none (hpC (31 * tc + b) S G)
def cs_X7_begin : List ip_G := []
theorem p_X7_begin : ip_Pf fl_X7 cn_X7 cs_X7_begin none tb_X7_begin 2 C_X7_begin := ip_pf0 (by
  rintro _ _ K ⟨tc, S, G, b, rfl, rfl, hK⟩
  exact ⟨Nat.le_of_ble_eq_true rfl, hK⟩)
set_option maxRecDepth 100000 in
set_option maxHeartbeats 4000000 in
theorem m_X7_begin (l : Launch) : ip_Met l yX7_begin cX7_begin 2 none (ip_rm 0) C_X7_begin := ip_met tb_X7_begin 400 (by decide +kernel) fl_X7_ok cn_X7_ok (ip_cs0) ck_X7_begin rfl p_X7_begin
def C_X7_manTells : ip_C := fun vs hp K => ∃ tc S G, ∃ m : Nat, m < 4 ∧ vs = [.ref 0, .ref (12 + m)] ∧ hp = hpC tc S G ∧ K (some (.int (nI (S (50 + m))))) (hpC (31 * tc + 1) S G)
def cs_X7_manTells : List ip_G := [(269, 2, 7, C_X7_begin)]
theorem p_X7_manTells : ip_Pf fl_X7 cn_X7 cs_X7_manTells (some .int) tb_X7_manTells 2 C_X7_manTells := ip_pf0 (by
  rintro _ _ K ⟨tc, S, G, m, hm, rfl, rfl, hK⟩
  refine ⟨Nat.le_of_ble_eq_true rfl, ?_⟩
  refine Exists.intro tc ⟨S, G, 1, rfl, rfl, ?_⟩
  rcases four hm with rfl | rfl | rfl | rfl
  all_goals exact hK)
set_option maxRecDepth 100000 in
set_option maxHeartbeats 4000000 in
theorem m_X7_manTells (l : Launch) : ip_Met l yX7_manTells cX7_manTells 2 (some .int) (ip_rm 1) C_X7_manTells := ip_met tb_X7_manTells 400 (by decide +kernel) fl_X7_ok cn_X7_ok (ip_cs1 (ip_gsV (m_X7_begin l) (ip_in [586, 588, 6, 32, 589] (by decide +kernel) (by decide +kernel)) rfl ⟨by decide +kernel, by decide +kernel, by decide +kernel⟩ ⟨rfl, rfl, Nat.le_of_ble_eq_true rfl, Nat.le_of_ble_eq_true rfl⟩) (ip_cs0)) ck_X7_manTells rfl p_X7_manTells
def C_X7_boldTells : ip_C := fun vs hp K => ∃ tc S G, ∃ m : Nat, m < 4 ∧ vs = [.ref 0, .ref (12 + m)] ∧ hp = hpC tc S G ∧ K (some (.int (nI (S (50 + m)) + 100))) (hpC (31 * (31 * tc + 2) + 1) S G)
def cs_X7_boldTells : List ip_G := [(269, 2, 7, C_X7_begin), (266, 2, 7, C_X7_manTells)]
theorem p_X7_boldTells : ip_Pf fl_X7 cn_X7 cs_X7_boldTells (some .int) tb_X7_boldTells 2 C_X7_boldTells := ip_pf0 (by
  rintro _ _ K ⟨tc, S, G, m, hm, rfl, rfl, hK⟩
  refine ⟨Nat.le_of_ble_eq_true rfl, ?_⟩
  refine Exists.intro tc ⟨S, G, 2, rfl, rfl, ?_⟩
  exact Exists.intro _ ⟨S, G, m, hm, rfl, rfl, hK⟩)
set_option maxRecDepth 100000 in
set_option maxHeartbeats 4000000 in
theorem m_X7_boldTells (l : Launch) : ip_Met l yX7_boldTells cX7_boldTells 2 (some .int) (ip_rm 2) C_X7_boldTells := ip_met tb_X7_boldTells 400 (by decide +kernel) fl_X7_ok cn_X7_ok (ip_cs1 (ip_gsV (m_X7_begin l) (ip_in [586, 588, 6, 32, 589] (by decide +kernel) (by decide +kernel)) rfl ⟨by decide +kernel, by decide +kernel, by decide +kernel⟩ ⟨rfl, rfl, Nat.le_of_ble_eq_true rfl, Nat.le_of_ble_eq_true rfl⟩) (ip_cs1 (ip_gsV (m_X7_manTells l) (ip_in [594, 596, 8, 32, 597] (by decide +kernel) (by decide +kernel)) rfl ⟨by decide +kernel, by decide +kernel, by decide +kernel⟩ ⟨rfl, rfl, Nat.le_of_ble_eq_true rfl, Nat.le_of_ble_eq_true rfl⟩) (ip_cs0))) ck_X7_boldTells rfl p_X7_boldTells
def C_X7_spitefulTells : ip_C := fun vs hp K => ∃ tc S G, ∃ m : Nat, m < 4 ∧ vs = [.ref 0, .ref (12 + m)] ∧ hp = hpC tc S G ∧ K (some (.int (nI (S (50 + m)) + 100 + nI (S (50 + m))))) (hpC (31 * (31 * (31 * (31 * tc + 3) + 2) + 1) + 1) S G)
def cs_X7_spitefulTells : List ip_G := [(269, 2, 7, C_X7_begin), (263, 2, 7, C_X7_boldTells), (266, 2, 7, C_X7_manTells)]
theorem p_X7_spitefulTells : ip_Pf fl_X7 cn_X7 cs_X7_spitefulTells (some .int) tb_X7_spitefulTells 3 C_X7_spitefulTells := ip_pf0 (by
  rintro _ _ K ⟨tc, S, G, m, hm, rfl, rfl, hK⟩
  refine ⟨Nat.le_of_ble_eq_true rfl, ?_⟩
  refine Exists.intro tc ⟨S, G, 3, rfl, rfl, ?_⟩
  refine Exists.intro _ ⟨S, G, m, hm, rfl, rfl, ?_⟩
  exact Exists.intro _ ⟨S, G, m, hm, rfl, rfl, hK⟩)
set_option maxRecDepth 100000 in
set_option maxHeartbeats 4000000 in
theorem m_X7_spitefulTells (l : Launch) : ip_Met l yX7_spitefulTells cX7_spitefulTells 3 (some .int) (ip_rm 3) C_X7_spitefulTells := ip_met tb_X7_spitefulTells 400 (by decide +kernel) fl_X7_ok cn_X7_ok (ip_cs1 (ip_gsV (m_X7_begin l) (ip_in [586, 588, 6, 32, 589] (by decide +kernel) (by decide +kernel)) rfl ⟨by decide +kernel, by decide +kernel, by decide +kernel⟩ ⟨rfl, rfl, Nat.le_of_ble_eq_true rfl, Nat.le_of_ble_eq_true rfl⟩) (ip_cs1 (ip_gsV (m_X7_boldTells l) (ip_in [590, 592, 7, 32, 593] (by decide +kernel) (by decide +kernel)) rfl ⟨by decide +kernel, by decide +kernel, by decide +kernel⟩ ⟨rfl, rfl, Nat.le_of_ble_eq_true rfl, Nat.le_of_ble_eq_true rfl⟩) (ip_cs1 (ip_gsV (m_X7_manTells l) (ip_in [594, 596, 8, 32, 597] (by decide +kernel) (by decide +kernel)) rfl ⟨by decide +kernel, by decide +kernel, by decide +kernel⟩ ⟨rfl, rfl, Nat.le_of_ble_eq_true rfl, Nat.le_of_ble_eq_true rfl⟩) (ip_cs0)))) ck_X7_spitefulTells rfl p_X7_spitefulTells
def C_X7_trace : ip_C := fun vs hp K => ∃ tc S G, vs = [.ref 0] ∧ hp = hpC tc S G ∧ K (some (.int tc)) hp
def cs_X7_trace : List ip_G := []
theorem p_X7_trace : ip_Pf fl_X7 cn_X7 cs_X7_trace (some .int) tb_X7_trace 1 C_X7_trace := ip_pf0 (by
  rintro _ _ K ⟨tc, S, G, rfl, rfl, hK⟩
  exact ⟨Nat.le_of_ble_eq_true rfl, hK⟩)
set_option maxRecDepth 100000 in
set_option maxHeartbeats 4000000 in
theorem m_X7_trace (l : Launch) : ip_Met l yX7_trace cX7_trace 1 (some .int) (ip_rm 0) C_X7_trace := ip_met tb_X7_trace 400 (by decide +kernel) fl_X7_ok cn_X7_ok (ip_cs0) ck_X7_trace rfl p_X7_trace
def C_X7_fault : ip_C := fun vs hp K => ∃ tc S G, vs = [.ref 0] ∧ hp = hpC tc S G ∧ K (some (.int (nI (S 0)))) hp
def cs_X7_fault : List ip_G := []
theorem p_X7_fault : ip_Pf fl_X7 cn_X7 cs_X7_fault (some .int) tb_X7_fault 1 C_X7_fault := ip_pf0 (by
  rintro _ _ K ⟨tc, S, G, rfl, rfl, hK⟩
  exact ⟨Nat.le_of_ble_eq_true rfl, hK⟩)
set_option maxRecDepth 100000 in
set_option maxHeartbeats 4000000 in
theorem m_X7_fault (l : Launch) : ip_Met l yX7_fault cX7_fault 1 (some .int) (ip_rm 0) C_X7_fault := ip_met tb_X7_fault 400 (by decide +kernel) fl_X7_ok cn_X7_ok (ip_cs0) ck_X7_fault rfl p_X7_fault
def r_many (S : Nat → Nat) (w : Int32) : Int32 := if w.toInt = 0 then nI (S 3) else if w.toInt = 1 then nI (S 2) else if w.toInt = 2 then nI (S 1) else if w.toInt = 3 then nI (S 4) else -2
def C_X7_many : ip_C := fun vs hp K => ∃ tc S G, ∃ w : Int32, vs = [.ref 0, .int w] ∧ hp = hpC tc S G ∧ K (some (.int (r_many S w))) hp
def cs_X7_many : List ip_G := []
theorem p_X7_many : ip_Pf fl_X7 cn_X7 cs_X7_many (some .int) tb_X7_many 2 C_X7_many := ip_pf0 (by
  rintro _ _ K ⟨tc, S, G, w, rfl, rfl, hK⟩
  refine ⟨Nat.le_of_ble_eq_true rfl, ?_⟩
  have k0 : w.toInt = 0 → K (some (.int (nI (S 3)))) (hpC tc S G) := fun h => by rw [r_many, if_pos h] at hK; exact hK
  have k1 : w.toInt ≠ 0 → w.toInt = 1 → K (some (.int (nI (S 2)))) (hpC tc S G) := fun h h1 => by rw [r_many, if_neg h, if_pos h1] at hK; exact hK
  have k2 : w.toInt ≠ 0 → w.toInt ≠ 1 → w.toInt = 2 → K (some (.int (nI (S 1)))) (hpC tc S G) := fun h h1 h2 => by rw [r_many, if_neg h, if_neg h1, if_pos h2] at hK; exact hK
  have k3 : w.toInt ≠ 0 → w.toInt ≠ 1 → w.toInt ≠ 2 → w.toInt = 3 → K (some (.int (nI (S 4)))) (hpC tc S G) := fun h h1 h2 h3 => by rw [r_many, if_neg h, if_neg h1, if_neg h2, if_pos h3] at hK; exact hK
  have k4 : w.toInt ≠ 0 → w.toInt ≠ 1 → w.toInt ≠ 2 → w.toInt ≠ 3 → K (some (.int (-2))) (hpC tc S G) := fun h h1 h2 h3 => by rw [r_many, if_neg h, if_neg h1, if_neg h2, if_neg h3] at hK; exact hK
  exact And.intro k0 (fun h => And.intro (k1 h) (fun h1 => And.intro (k2 h h1) (fun h2 => And.intro (k3 h h1 h2) (fun h3 => fun _ => k4 h h1 h2 h3)))))
set_option maxRecDepth 100000 in
set_option maxHeartbeats 4000000 in
theorem m_X7_many (l : Launch) : ip_Met l yX7_many cX7_many 2 (some .int) (ip_rm 0) C_X7_many := ip_met tb_X7_many 400 (by decide +kernel) fl_X7_ok cn_X7_ok (ip_cs0) ck_X7_many rfl p_X7_many
def r_ofMan (S : Nat → Nat) (m w : Int32) : Int32 := if ¬ inI m (S 3) then -1 else if w.toInt = 0 then nI (S (40 + nt m)) else if w.toInt = 1 then nI (S (50 + nt m)) else if w.toInt = 2 then nI (S (60 + nt m)) else -2
def C_X7_ofMan : ip_C := fun vs hp K => ∃ tc S G, ∃ m w : Int32, vs = [.ref 0, .int m, .int w] ∧ hp = hpC tc S G ∧ wfC S G ∧ K (some (.int (r_ofMan S m w))) hp
def cs_X7_ofMan : List ip_G := [(82, 2, 1, C_X0_manOf)]
theorem p_X7_ofMan : ip_Pf fl_X7 cn_X7 cs_X7_ofMan (some .int) tb_X7_ofMan 4 C_X7_ofMan := ip_pf0 (by
  rintro _ _ K ⟨tc, S, G, m, w, rfl, rfl, hwf, hK⟩
  refine ⟨Nat.le_of_ble_eq_true rfl, ?_⟩
  have w3 := hwf.1.2.2.1
  refine Exists.intro tc ⟨S, G, m, rfl, rfl, w3, fun hn => ?_, fun j hj e => ?_⟩
  · rw [r_ofMan, if_pos hn] at hK; exact hK
  subst e
  have hm := inI_n hj (by omega)
  rw [r_ofMan, if_neg (not_not_intro hm), nt_n (by omega)] at hK
  have k0 : w.toInt = 0 → K (some (.int (nI (S (40 + j))))) (hpC tc S G) := fun h => by rw [if_pos h] at hK; exact hK
  have k1 : w.toInt ≠ 0 → w.toInt = 1 → K (some (.int (nI (S (50 + j))))) (hpC tc S G) := fun h h1 => by rw [if_neg h, if_pos h1] at hK; exact hK
  have k2 : w.toInt ≠ 0 → w.toInt ≠ 1 → w.toInt = 2 → K (some (.int (nI (S (60 + j))))) (hpC tc S G) := fun h h1 h2 => by rw [if_neg h, if_neg h1, if_pos h2] at hK; exact hK
  have k3 : w.toInt ≠ 0 → w.toInt ≠ 1 → w.toInt ≠ 2 → K (some (.int (-2))) (hpC tc S G) := fun h h1 h2 => by rw [if_neg h, if_neg h1, if_neg h2] at hK; exact hK
  rcases four (show j < 4 by omega) with rfl | rfl | rfl | rfl
  all_goals exact And.intro k0 (fun h => And.intro (k1 h) (fun h1 => And.intro (k2 h h1) (fun h2 => fun _ => k3 h h1 h2))))
set_option maxRecDepth 100000 in
set_option maxHeartbeats 4000000 in
theorem m_X7_ofMan (l : Launch) : ip_Met l yX7_ofMan cX7_ofMan 4 (some .int) (ip_rm 1) C_X7_ofMan := ip_met tb_X7_ofMan 400 (by decide +kernel) fl_X7_ok cn_X7_ok (ip_cs1 (ip_gsV (m_X0_manOf l) (ip_in [284, 285, 286, 33, 287] (by decide +kernel) (by decide +kernel)) rfl ⟨by decide +kernel, by decide +kernel, by decide +kernel⟩ ⟨rfl, rfl, Nat.le_of_ble_eq_true rfl, Nat.le_of_ble_eq_true rfl⟩) (ip_cs0)) ck_X7_ofMan rfl p_X7_ofMan
def q_truth (S : Nat → Nat) (a : Int32) : Int32 × (Nat → Nat) := if ¬ inI a 64 then (-2, S) else if S 2 = 0 then (-3, S) else (nI (S 1), va_up S 1 (nt a))
def C_X7_truth : ip_C := fun vs hp K => ∃ tc S G, ∃ a : Int32, vs = [.ref 0, .int a] ∧ hp = hpC tc S G ∧ wfC S G ∧ K (some (.int (q_truth S a).1)) (hpC tc (q_truth S a).2 G)
def cs_X7_truth : List ip_G := [(97, 1, 0, C_X7_isSet), (100, 1, 1, C_X0_isThere)]
theorem p_X7_truth : ip_Pf fl_X7 cn_X7 cs_X7_truth (some .int) tb_X7_truth 3 C_X7_truth := ip_pf0 (by
  rintro _ _ K ⟨tc, S, G, a, rfl, rfl, hwf, hK⟩
  refine ⟨Nat.le_of_ble_eq_true rfl, ?_⟩
  refine Exists.intro a ⟨rfl, fun b hb => ?_⟩
  refine ip_bn (fun h => ?_) (fun h => ?_)
  · have hin : inI a 64 := hb.mp h
    refine Exists.intro tc ⟨S, G, rfl, rfl, hwf.1.2.1, ?_⟩
    refine ip_bn (fun h2 => ?_) (fun h2 => ?_)
    · have h2 := of_decide_eq_true h2
      rw [q_truth, if_neg (not_not_intro hin), if_neg (by omega)] at hK
      obtain ⟨-, e⟩ := inI_nt hin
      generalize nt a = j at e hK
      subst e
      exact hK
    · have h2 := of_decide_eq_false h2
      rw [q_truth, if_neg (not_not_intro hin), if_pos (by omega)] at hK
      exact hK
  · have hin : ¬ inI a 64 := fun q => by rw [hb.mpr q] at h; cases h
    rw [q_truth, if_pos hin] at hK
    exact hK)
set_option maxRecDepth 100000 in
set_option maxHeartbeats 4000000 in
theorem m_X7_truth (l : Launch) : ip_Met l yX7_truth cX7_truth 3 (some .int) (ip_rm 1) C_X7_truth := ip_met tb_X7_truth 400 (by decide +kernel) fl_X7_ok cn_X7_ok (ip_cs1 (ip_gsS (m_X7_isSet l) (ip_in [292, 293, 32, 294] (by decide +kernel) (by decide +kernel)) ⟨by decide +kernel, by decide +kernel, by decide +kernel⟩ ⟨rfl, rfl, Nat.le_of_ble_eq_true rfl, Nat.le_of_ble_eq_true rfl⟩) (ip_cs1 (ip_gsV (m_X0_isThere l) (ip_in [295, 296, 297, 33, 298] (by decide +kernel) (by decide +kernel)) rfl ⟨by decide +kernel, by decide +kernel, by decide +kernel⟩ ⟨rfl, rfl, Nat.le_of_ble_eq_true rfl, Nat.le_of_ble_eq_true rfl⟩) (ip_cs0))) ck_X7_truth rfl p_X7_truth
def q_stand (S : Nat → Nat) (m p : Int32) : Int32 × (Nat → Nat) := if ¬ inI m (S 3) then (-1, S) else if ¬ inI p (S 2) then (-1, S) else (nI (S (50 + nt m)), va_up S (50 + nt m) (nt p))
def C_X7_stand : ip_C := fun vs hp K => ∃ tc S G, ∃ m p : Int32, vs = [.ref 0, .int m, .int p] ∧ hp = hpC tc S G ∧ wfC S G ∧ K (some (.int (q_stand S m p).1)) (hpC tc (q_stand S m p).2 G)
def cs_X7_stand : List ip_G := [(82, 2, 1, C_X0_manOf), (107, 2, 1, C_X0_hasParish)]
theorem p_X7_stand : ip_Pf fl_X7 cn_X7 cs_X7_stand (some .int) tb_X7_stand 5 C_X7_stand := ip_pf0 (by
  rintro _ _ K ⟨tc, S, G, m, p, rfl, rfl, hwf, hK⟩
  refine ⟨Nat.le_of_ble_eq_true rfl, ?_⟩
  have w3 := hwf.1.2.2.1
  refine Exists.intro tc ⟨S, G, m, rfl, rfl, w3, fun hn => ?_, fun j hj e => ?_⟩
  · rw [q_stand, if_pos hn] at hK; exact hK
  subst e
  have hm := inI_n hj (by omega)
  rw [q_stand, if_neg (not_not_intro hm), nt_n (by omega)] at hK
  refine Exists.intro tc ⟨S, G, p, rfl, rfl, hwf.1.2.1, fun b hb => ?_⟩
  refine ip_bn (fun h => ?_) (fun h => ?_)
  · have hin : inI p (S 2) := hb.mp h
    rw [if_neg (not_not_intro hin)] at hK
    obtain ⟨-, e⟩ := inI_nt hin
    generalize nt p = i at e hK
    subst e
    rcases four (show j < 4 by omega) with rfl | rfl | rfl | rfl
    all_goals exact hK
  · have hin : ¬ inI p (S 2) := fun q => by rw [hb.mpr q] at h; cases h
    rw [if_pos hin] at hK
    exact hK)
set_option maxRecDepth 100000 in
set_option maxHeartbeats 4000000 in
theorem m_X7_stand (l : Launch) : ip_Met l yX7_stand cX7_stand 5 (some .int) (ip_rm 1) C_X7_stand := ip_met tb_X7_stand 400 (by decide +kernel) fl_X7_ok cn_X7_ok (ip_cs1 (ip_gsV (m_X0_manOf l) (ip_in [284, 285, 286, 33, 287] (by decide +kernel) (by decide +kernel)) rfl ⟨by decide +kernel, by decide +kernel, by decide +kernel⟩ ⟨rfl, rfl, Nat.le_of_ble_eq_true rfl, Nat.le_of_ble_eq_true rfl⟩) (ip_cs1 (ip_gsV (m_X0_hasParish l) (ip_in [303, 304, 305, 33, 306] (by decide +kernel) (by decide +kernel)) rfl ⟨by decide +kernel, by decide +kernel, by decide +kernel⟩ ⟨rfl, rfl, Nat.le_of_ble_eq_true rfl, Nat.le_of_ble_eq_true rfl⟩) (ip_cs0))) ck_X7_stand rfl p_X7_stand
def q_learn (S : Nat → Nat) (m a : Int32) : Int32 × (Nat → Nat) := if ¬ inI m (S 3) then (-1, S) else if ¬ inI a 64 then (-2, S) else (nI (S (60 + nt m)), va_up S (60 + nt m) (nt a))
def C_X7_learn : ip_C := fun vs hp K => ∃ tc S G, ∃ m a : Int32, vs = [.ref 0, .int m, .int a] ∧ hp = hpC tc S G ∧ wfC S G ∧ K (some (.int (q_learn S m a).1)) (hpC tc (q_learn S m a).2 G)
def cs_X7_learn : List ip_G := [(82, 2, 1, C_X0_manOf), (97, 1, 0, C_X7_isSet)]
theorem p_X7_learn : ip_Pf fl_X7 cn_X7 cs_X7_learn (some .int) tb_X7_learn 5 C_X7_learn := ip_pf0 (by
  rintro _ _ K ⟨tc, S, G, m, a, rfl, rfl, hwf, hK⟩
  refine ⟨Nat.le_of_ble_eq_true rfl, ?_⟩
  have w3 := hwf.1.2.2.1
  refine Exists.intro tc ⟨S, G, m, rfl, rfl, w3, fun hn => ?_, fun j hj e => ?_⟩
  · rw [q_learn, if_pos hn] at hK; exact hK
  subst e
  have hm := inI_n hj (by omega)
  rw [q_learn, if_neg (not_not_intro hm), nt_n (by omega)] at hK
  refine Exists.intro a ⟨rfl, fun b hb => ?_⟩
  refine ip_bn (fun h => ?_) (fun h => ?_)
  · have hin : inI a 64 := hb.mp h
    rw [if_neg (not_not_intro hin)] at hK
    obtain ⟨-, e⟩ := inI_nt hin
    generalize nt a = i at e hK
    subst e
    rcases four (show j < 4 by omega) with rfl | rfl | rfl | rfl
    all_goals exact hK
  · have hin : ¬ inI a 64 := fun q => by rw [hb.mpr q] at h; cases h
    rw [if_pos hin] at hK
    exact hK)
set_option maxRecDepth 100000 in
set_option maxHeartbeats 4000000 in
theorem m_X7_learn (l : Launch) : ip_Met l yX7_learn cX7_learn 5 (some .int) (ip_rm 1) C_X7_learn := ip_met tb_X7_learn 400 (by decide +kernel) fl_X7_ok cn_X7_ok (ip_cs1 (ip_gsV (m_X0_manOf l) (ip_in [284, 285, 286, 33, 287] (by decide +kernel) (by decide +kernel)) rfl ⟨by decide +kernel, by decide +kernel, by decide +kernel⟩ ⟨rfl, rfl, Nat.le_of_ble_eq_true rfl, Nat.le_of_ble_eq_true rfl⟩) (ip_cs1 (ip_gsS (m_X7_isSet l) (ip_in [292, 293, 32, 294] (by decide +kernel) (by decide +kernel)) ⟨by decide +kernel, by decide +kernel, by decide +kernel⟩ ⟨rfl, rfl, Nat.le_of_ble_eq_true rfl, Nat.le_of_ble_eq_true rfl⟩) (ip_cs0))) ck_X7_learn rfl p_X7_learn
def r_strikes (S : Nat → Nat) (p q : Int32) : Int32 := if ¬ inI p (S 2) then -1 else if ¬ inI q 6 then -2 else ip_bi (stk S (nt p) (nt q))
def C_X7_strikes : ip_C := fun vs hp K => ∃ tc S G, ∃ p q : Int32, vs = [.ref 0, .int p, .int q] ∧ hp = hpC tc S G ∧ wfC S G ∧ K (some (.int (r_strikes S p q))) hp
def cs_X7_strikes : List ip_G := [(107, 2, 1, C_X0_hasParish), (110, 1, 0, C_X7_isQuestion), (123, 3, 1, C_X0_isStruck)]
set_option maxRecDepth 100000 in
theorem p_X7_strikes : ip_Pf fl_X7 cn_X7 cs_X7_strikes (some .int) tb_X7_strikes 3 C_X7_strikes := ip_pf0 (by
  rintro _ _ K ⟨tc, S, G, p, q, rfl, rfl, hwf, hK⟩
  refine ⟨Nat.le_of_ble_eq_true rfl, ?_⟩
  have w2 := hwf.1.2.1
  refine Exists.intro tc ⟨S, G, p, rfl, rfl, w2, fun b hb => ?_⟩
  refine ip_bn (fun h => ?_) (fun h => ?_)
  · have hin : inI p (S 2) := hb.mp h
    rw [r_strikes, if_neg (not_not_intro hin)] at hK
    refine Exists.intro q ⟨rfl, fun b2 hb2 => ?_⟩
    refine ip_bn (fun h2 => ?_) (fun h2 => ?_)
    · have hin2 : inI q 6 := hb2.mp h2
      rw [if_neg (not_not_intro hin2)] at hK
      obtain ⟨i, hi, rfl, ei⟩ := ti_of hin.1
      obtain ⟨j, hj, rfl, ej⟩ := ti_of hin2.1
      rw [nt_n hi, nt_n hj] at hK
      have l2 : j < 6 := by have := hin2.2; omega
      have kk : ∀ c : Bool, stk S i j = c → K (some (.int (ip_bi c))) (hpC tc S G) := fun c e => by rw [← e]; exact hK
      refine Exists.intro tc ⟨S, G, i, j, hi, l2, rfl, rfl, hwf.1, ?_⟩
      refine ip_bt (fun h3 => ?_) (fun h3 => ?_)
      · exact kk false h3
      · exact kk true h3
    · have hin2 : ¬ inI q 6 := fun z => by rw [hb2.mpr z] at h2; cases h2
      rw [if_pos hin2] at hK
      exact hK
  · have hin : ¬ inI p (S 2) := fun z => by rw [hb.mpr z] at h; cases h
    rw [r_strikes, if_pos hin] at hK
    exact hK)
set_option maxRecDepth 100000 in
set_option maxHeartbeats 4000000 in
theorem m_X7_strikes (l : Launch) : ip_Met l yX7_strikes cX7_strikes 3 (some .int) (ip_rm 4) C_X7_strikes := ip_met tb_X7_strikes 400 (by decide +kernel) fl_X7_ok cn_X7_ok (ip_cs1 (ip_gsV (m_X0_hasParish l) (ip_in [303, 304, 305, 33, 306] (by decide +kernel) (by decide +kernel)) rfl ⟨by decide +kernel, by decide +kernel, by decide +kernel⟩ ⟨rfl, rfl, Nat.le_of_ble_eq_true rfl, Nat.le_of_ble_eq_true rfl⟩) (ip_cs1 (ip_gsS (m_X7_isQuestion l) (ip_in [315, 316, 32, 317] (by decide +kernel) (by decide +kernel)) ⟨by decide +kernel, by decide +kernel, by decide +kernel⟩ ⟨rfl, rfl, Nat.le_of_ble_eq_true rfl, Nat.le_of_ble_eq_true rfl⟩) (ip_cs1 (ip_gsV (m_X0_isStruck l) (ip_in [333, 334, 335, 33, 336] (by decide +kernel) (by decide +kernel)) rfl ⟨by decide +kernel, by decide +kernel, by decide +kernel⟩ ⟨rfl, rfl, Nat.le_of_ble_eq_true rfl, Nat.le_of_ble_eq_true rfl⟩) (ip_cs0)))) ck_X7_strikes rfl p_X7_strikes
def r_dangers (S : Nat → Nat) (p : Int32) : Int32 := if ¬ inI p (S 2) then -1 else nI (dgp S (nt p))
def C_X7_dangers : ip_C := fun vs hp K => ∃ tc S G, ∃ p : Int32, vs = [.ref 0, .int p] ∧ hp = hpC tc S G ∧ wfC S G ∧ K (some (.int (r_dangers S p))) hp
def cs_X7_dangers : List ip_G := [(107, 2, 1, C_X0_hasParish), (126, 2, 1, C_X0_dangersOf)]
theorem p_X7_dangers : ip_Pf fl_X7 cn_X7 cs_X7_dangers (some .int) tb_X7_dangers 2 C_X7_dangers := ip_pf0 (by
  rintro _ _ K ⟨tc, S, G, p, rfl, rfl, hwf, hK⟩
  refine ⟨Nat.le_of_ble_eq_true rfl, ?_⟩
  have w2 := hwf.1.2.1
  refine Exists.intro tc ⟨S, G, p, rfl, rfl, w2, fun b hb => ?_⟩
  refine ip_bt (fun h => ?_) (fun h => ?_)
  · have hin : ¬ inI p (S 2) := fun z => by rw [hb.mpr z] at h; cases h
    rw [r_dangers, if_pos hin] at hK
    exact hK
  · have hin : inI p (S 2) := hb.mp h
    rw [r_dangers, if_neg (not_not_intro hin)] at hK
    obtain ⟨l1, e1⟩ := inI_nt hin
    generalize nt p = i at e1 l1 hK
    subst e1
    exact Exists.intro tc ⟨S, G, i, by omega, rfl, rfl, hwf.1, hK⟩)
set_option maxRecDepth 100000 in
set_option maxHeartbeats 4000000 in
theorem m_X7_dangers (l : Launch) : ip_Met l yX7_dangers cX7_dangers 2 (some .int) (ip_rm 3) C_X7_dangers := ip_met tb_X7_dangers 400 (by decide +kernel) fl_X7_ok cn_X7_ok (ip_cs1 (ip_gsV (m_X0_hasParish l) (ip_in [303, 304, 305, 33, 306] (by decide +kernel) (by decide +kernel)) rfl ⟨by decide +kernel, by decide +kernel, by decide +kernel⟩ ⟨rfl, rfl, Nat.le_of_ble_eq_true rfl, Nat.le_of_ble_eq_true rfl⟩) (ip_cs1 (ip_gsV (m_X0_dangersOf l) (ip_in [356, 338, 339, 33, 340] (by decide +kernel) (by decide +kernel)) rfl ⟨by decide +kernel, by decide +kernel, by decide +kernel⟩ ⟨rfl, rfl, Nat.le_of_ble_eq_true rfl, Nat.le_of_ble_eq_true rfl⟩) (ip_cs0))) ck_X7_dangers rfl p_X7_dangers
def q_back (S : Nat → Nat) (k : Int32) : Int32 × (Nat → Nat) := if ¬ (0 ≤ k.toInt ∧ k.toInt ≤ S 4) then (-2, S) else (nI (S 4 - nt k), va_up S 4 (S 4 - nt k))
def C_X7_back : ip_C := fun vs hp K => ∃ tc S G, ∃ k : Int32, vs = [.ref 0, .int k] ∧ hp = hpC tc S G ∧ wfC S G ∧ K (some (.int (q_back S k).1)) (hpC tc (q_back S k).2 G)
def cs_X7_back : List ip_G := []
theorem p_X7_back : ip_Pf fl_X7 cn_X7 cs_X7_back (some .int) tb_X7_back 2 C_X7_back := ip_pf0 (by
  rintro _ _ K ⟨tc, S, G, k, rfl, rfl, hwf, hK⟩
  refine ⟨Nat.le_of_ble_eq_true rfl, ?_⟩
  have w4 := hwf.2.2.1.1
  refine bz_lt k.toInt 0 (fun h => ?_) (fun h => ?_)
  · rw [q_back, if_pos (by omega)] at hK; exact hK
  refine bz_le k.toInt (S 4) (fun h2 => ?_) (fun h2 => ?_)
  · rw [q_back, if_neg (by omega)] at hK
    obtain ⟨j, hj, rfl, e⟩ := ti_of h
    rw [nt_n hj] at hK
    have hs : nI (S 4) - nI j = nI (S 4 - j) := pk_sub (by omega)
    have hK' : K (some (.int (nI (S 4) - nI j))) ((hpC tc S G).set 16 (.inr (3, [.int (nI (S 4) - nI j), .ref 17, .ref 18, .ref 19]))) := by rw [hs]; exact hK
    exact hK'
  · rw [q_back, if_pos (by omega)] at hK; exact hK)
set_option maxRecDepth 100000 in
set_option maxHeartbeats 4000000 in
theorem m_X7_back (l : Launch) : ip_Met l yX7_back cX7_back 2 (some .int) (ip_rm 0) C_X7_back := ip_met tb_X7_back 400 (by decide +kernel) fl_X7_ok cn_X7_ok (ip_cs0) ck_X7_back rfl p_X7_back
end
section
/-! ===== more of the class's calls ===== -/
def r_answer (S : Nat → Nat) (m q : Int32) : Int32 := if ¬ inI m (S 3) then -1 else if ¬ inI q 6 then -2 else if ar (S 1) (S (40 + nt m)) (S (60 + nt m)) (nt q) then ip_bi ((S 1).testBit (nt q)) else if aw (S 1) (S (40 + nt m)) (S (60 + nt m)) (nt q) then 1 - ip_bi ((S 1).testBit (nt q)) else -9
def C_X7_answer : ip_C := fun vs hp K => ∃ tc S G, ∃ m q : Int32, vs = [.ref 0, .int m, .int q] ∧ hp = hpC tc S G ∧ wfC S G ∧ K (some (.int (r_answer S m q))) hp
def cs_X7_answer : List ip_G := [(82, 2, 1, C_X0_manOf), (110, 1, 0, C_X7_isQuestion), (113, 2, 0, C_X7_holds), (117, 2, 2, C_X2_rightBy), (120, 2, 2, C_X2_wrongBy)]
set_option maxHeartbeats 4000000 in
theorem p_X7_answer : ip_Pf fl_X7 cn_X7 cs_X7_answer (some .int) tb_X7_answer 5 C_X7_answer := ip_pf0 (by
  rintro _ _ K ⟨tc, S, G, m, q, rfl, rfl, hwf, hK⟩
  refine ⟨Nat.le_of_ble_eq_true rfl, ?_⟩
  obtain ⟨w1, w2, w3, w4⟩ := hwf.1
  refine Exists.intro tc ⟨S, G, m, rfl, rfl, w3, fun hn => ?_, fun i hi e => ?_⟩
  · rw [r_answer, if_pos hn] at hK; exact hK
  subst e
  have hm := inI_n hi (by omega)
  rw [r_answer, if_neg (not_not_intro hm), nt_n (by omega)] at hK
  have hi4 : i < 4 := by omega
  obtain ⟨k1, k2, k3⟩ := w4 i hi4
  refine Exists.intro q ⟨rfl, fun b hb => ?_⟩
  refine ip_bn (fun h => ?_) (fun h => ?_)
  · have hin2 : inI q 6 := hb.mp h
    rw [if_neg (not_not_intro hin2)] at hK
    obtain ⟨j, hj, rfl, ej⟩ := ti_of hin2.1
    rw [nt_n hj] at hK
    have l2 : j < 6 := by have := hin2.2; omega
    have r1 := rb_lt (kd := S (40 + i)) w1 k3
    have r2 := wb_lt (kd := S (40 + i)) w1 k3
    have e1 := rb_bit (tr := S 1) (kd := S (40 + i)) (li := S (60 + i)) j
    have e2 := wbs_bit (kd := S (40 + i)) w1 k3 l2
    have ka : ∀ c : Bool, (S 1).testBit j = c → (rb (S 1) (S (40 + i)) (S (60 + i))).testBit j = true → K (some (.int (ip_bi c))) (hpC tc S G) := fun c ec h => by rw [e1] at h; rw [if_pos h, ec] at hK; exact hK
    have kb : ∀ c : Bool, (S 1).testBit j = c → (rb (S 1) (S (40 + i)) (S (60 + i))).testBit j = false → (wb (S 1) (S (40 + i)) (S (60 + i))).testBit j = true → K (some (.int (1 - ip_bi c))) (hpC tc S G) := fun c ec h h2 => by rw [e1] at h; rw [e2] at h2; rw [if_neg (by rw [h]; simp), if_pos h2, ec] at hK; exact hK
    have kc : (rb (S 1) (S (40 + i)) (S (60 + i))).testBit j = false → (wb (S 1) (S (40 + i)) (S (60 + i))).testBit j = false → K (some (.int (-9))) (hpC tc S G) := fun h h2 => by rw [e1] at h; rw [e2] at h2; rw [if_neg (by rw [h]; simp), if_neg (by rw [h2]; simp)] at hK; exact hK
    clear hK hb hin2 ej hj hm e1 e2
    refine Exists.intro (S 1) ⟨j, w1, l2, rfl, ?_⟩
    refine ip_bt (fun h3 => ?_) (fun h3 => ?_)
    · rcases four hi4 with rfl | rfl | rfl | rfl
      all_goals
        refine Exists.intro tc ⟨S, G, _, S 1, hi4, rfl, rfl, hwf.1, ?_⟩
        refine Exists.intro _ ⟨j, r1, l2, rfl, ?_⟩
        refine ip_bt (fun h4 => ?_) (fun h4 => ?_)
        · refine Exists.intro tc ⟨S, G, _, S 1, hi4, w1, rfl, rfl, hwf.1, ?_⟩
          refine Exists.intro _ ⟨j, r2, l2, rfl, ?_⟩
          refine ip_bt (fun h5 => ?_) (fun h5 => ?_)
          · exact kc h4 h5
          · exact kb false h3 h4 h5
        · exact ka false h3 h4
    · rcases four hi4 with rfl | rfl | rfl | rfl
      all_goals
        refine Exists.intro tc ⟨S, G, _, S 1, hi4, rfl, rfl, hwf.1, ?_⟩
        refine Exists.intro _ ⟨j, r1, l2, rfl, ?_⟩
        refine ip_bt (fun h4 => ?_) (fun h4 => ?_)
        · refine Exists.intro tc ⟨S, G, _, S 1, hi4, w1, rfl, rfl, hwf.1, ?_⟩
          refine Exists.intro _ ⟨j, r2, l2, rfl, ?_⟩
          refine ip_bt (fun h5 => ?_) (fun h5 => ?_)
          · exact kc h4 h5
          · exact kb true h3 h4 h5
        · exact ka true h3 h4
  · have hin : ¬ inI q 6 := fun z => by rw [hb.mpr z] at h; cases h
    rw [if_pos hin] at hK
    exact hK)
set_option maxRecDepth 100000 in
set_option maxHeartbeats 4000000 in
theorem m_X7_answer (l : Launch) : ip_Met l yX7_answer cX7_answer 5 (some .int) (ip_rm 1) C_X7_answer := ip_met tb_X7_answer 400 (by decide +kernel) fl_X7_ok cn_X7_ok (ip_cs1 (ip_gsV (m_X0_manOf l) (ip_in [284, 285, 286, 33, 287] (by decide +kernel) (by decide +kernel)) rfl ⟨by decide +kernel, by decide +kernel, by decide +kernel⟩ ⟨rfl, rfl, Nat.le_of_ble_eq_true rfl, Nat.le_of_ble_eq_true rfl⟩) (ip_cs1 (ip_gsS (m_X7_isQuestion l) (ip_in [315, 316, 32, 317] (by decide +kernel) (by decide +kernel)) ⟨by decide +kernel, by decide +kernel, by decide +kernel⟩ ⟨rfl, rfl, Nat.le_of_ble_eq_true rfl, Nat.le_of_ble_eq_true rfl⟩) (ip_cs1 (ip_gsS (m_X7_holds l) (ip_in [318, 319, 32, 320] (by decide +kernel) (by decide +kernel)) ⟨by decide +kernel, by decide +kernel, by decide +kernel⟩ ⟨rfl, rfl, Nat.le_of_ble_eq_true rfl, Nat.le_of_ble_eq_true rfl⟩) (ip_cs1 (ip_gsV (m_X2_rightBy l) (ip_in [321, 322, 323, 34, 324] (by decide +kernel) (by decide +kernel)) rfl ⟨by decide +kernel, by decide +kernel, by decide +kernel⟩ ⟨rfl, rfl, Nat.le_of_ble_eq_true rfl, Nat.le_of_ble_eq_true rfl⟩) (ip_cs1 (ip_gsV (m_X2_wrongBy l) (ip_in [325, 326, 327, 34, 328] (by decide +kernel) (by decide +kernel)) rfl ⟨by decide +kernel, by decide +kernel, by decide +kernel⟩ ⟨rfl, rfl, Nat.le_of_ble_eq_true rfl, Nat.le_of_ble_eq_true rfl⟩) (ip_cs0)))))) ck_X7_answer rfl p_X7_answer
def q_reading (S : Nat → Nat) (G : Nat → Nat → Int32) (p q : Int32) (b : Bool) : Int32 × (Nat → Nat) × (Nat → Nat → Int32) := if ¬ inI p (S 2) then (-1, S, G) else if ¬ inI q 6 then (-2, S, G) else if S 4 = 8 then (-4, S, G) else (nI (S 4), va_up S 4 (S 4 + 1), va_up (va_up (va_up G 4 (upd (G 4) (S 4) p)) 5 (upd (G 5) (S 4) q)) 6 (upd (G 6) (S 4) (ip_bi b)))
def C_X7_reading : ip_C := fun vs hp K => ∃ tc S G, ∃ (p q : Int32) (b : Bool), vs = [.ref 0, .int p, .int q, .int (ip_bi b)] ∧ hp = hpC tc S G ∧ wfC S G ∧ K (some (.int (q_reading S G p q b).1)) (hpC tc (q_reading S G p q b).2.1 (q_reading S G p q b).2.2)
def cs_X7_reading : List ip_G := [(107, 2, 1, C_X0_hasParish), (110, 1, 0, C_X7_isQuestion), (198, 4, 4, C_X4_note)]
theorem p_X7_reading : ip_Pf fl_X7 cn_X7 cs_X7_reading (some .int) tb_X7_reading 4 C_X7_reading := ip_pf0 (by
  rintro _ _ K ⟨tc, S, G, p, q, bb, rfl, rfl, hwf, hK⟩
  refine ⟨Nat.le_of_ble_eq_true rfl, ?_⟩
  have w2 := hwf.1.2.1
  have w4 := hwf.2.2.1.1
  refine Exists.intro tc ⟨S, G, p, rfl, rfl, w2, fun b hb => ?_⟩
  refine ip_bn (fun h => ?_) (fun h => ?_)
  · have hin : inI p (S 2) := hb.mp h
    rw [q_reading, if_neg (not_not_intro hin)] at hK
    refine Exists.intro q ⟨rfl, fun b2 hb2 => ?_⟩
    refine ip_bn (fun h2 => ?_) (fun h2 => ?_)
    · have hin2 : inI q 6 := hb2.mp h2
      rw [if_neg (not_not_intro hin2)] at hK
      refine Exists.intro tc ⟨S, G, p, q, bb, rfl, rfl, w4, fun h8 => ?_, fun h8 hp' e => ?_⟩
      · rw [if_pos h8] at hK
        refine And.intro (fun _ => hK) (fun z => absurd rfl z)
      · rw [if_neg (by omega)] at hK
        subst e
        have hs : nI (S 4 + 1) - 1 = nI (S 4) := nI_pred (S 4)
        have hK' : K (some (.int (nI (S 4 + 1) - 1))) (hpC tc (va_up S 4 (S 4 + 1)) (va_up (va_up (va_up G 4 (upd (G 4) (S 4) p)) 5 (upd (G 5) (S 4) q)) 6 (upd (G 6) (S 4) (ip_bi bb)))) := by rw [hs]; exact hK
        refine And.intro (fun z => absurd z (by decide)) (fun _ => hK')
    · have hin2 : ¬ inI q 6 := fun z => by rw [hb2.mpr z] at h2; cases h2
      rw [if_pos hin2] at hK
      exact hK
  · have hin : ¬ inI p (S 2) := fun z => by rw [hb.mpr z] at h; cases h
    rw [q_reading, if_pos hin] at hK
    exact hK)
set_option maxRecDepth 100000 in
set_option maxHeartbeats 4000000 in
theorem m_X7_reading (l : Launch) : ip_Met l yX7_reading cX7_reading 4 (some .int) (ip_rm 1) C_X7_reading := ip_met tb_X7_reading 400 (by decide +kernel) fl_X7_ok cn_X7_ok (ip_cs1 (ip_gsV (m_X0_hasParish l) (ip_in [303, 304, 305, 33, 306] (by decide +kernel) (by decide +kernel)) rfl ⟨by decide +kernel, by decide +kernel, by decide +kernel⟩ ⟨rfl, rfl, Nat.le_of_ble_eq_true rfl, Nat.le_of_ble_eq_true rfl⟩) (ip_cs1 (ip_gsS (m_X7_isQuestion l) (ip_in [315, 316, 32, 317] (by decide +kernel) (by decide +kernel)) ⟨by decide +kernel, by decide +kernel, by decide +kernel⟩ ⟨rfl, rfl, Nat.le_of_ble_eq_true rfl, Nat.le_of_ble_eq_true rfl⟩) (ip_cs1 (ip_gsV (m_X4_note l) (ip_in [482, 483, 484, 35, 485] (by decide +kernel) (by decide +kernel)) rfl ⟨by decide +kernel, by decide +kernel, by decide +kernel⟩ ⟨rfl, rfl, Nat.le_of_ble_eq_true rfl, Nat.le_of_ble_eq_true rfl⟩) (ip_cs0)))) ck_X7_reading rfl p_X7_reading
def r_stood (S : Nat → Nat) (G : Nat → Nat → Int32) (m : Int32) : Int32 := if ¬ inI m (S 3) then -1 else nI (bs (S 2) (fun p => allSo (va_up S (50 + nt m) p) G))
def C_X7_stood : ip_C := fun vs hp K => ∃ tc S G, ∃ m : Int32, vs = [.ref 0, .int m] ∧ hp = hpC tc S G ∧ wfC S G ∧ K (some (.int (r_stood S G m))) hp
def cs_X7_stood : List ip_G := [(82, 2, 1, C_X0_manOf), (215, 3, 4, C_X4_likelyParishes)]
theorem p_X7_stood : ip_Pf fl_X7 cn_X7 cs_X7_stood (some .int) tb_X7_stood 3 C_X7_stood := ip_pf0 (by
  rintro _ _ K ⟨tc, S, G, m, rfl, rfl, hwf, hK⟩
  refine ⟨Nat.le_of_ble_eq_true rfl, ?_⟩
  have w3 := hwf.1.2.2.1
  refine Exists.intro tc ⟨S, G, m, rfl, rfl, w3, fun hn => ?_, fun i hi e => ?_⟩
  · rw [r_stood, if_pos hn] at hK; exact hK
  subst e
  have hm := inI_n hi (by omega)
  rw [r_stood, if_neg (not_not_intro hm), nt_n (by omega)] at hK
  exact Exists.intro tc ⟨S, G, i, by omega, rfl, rfl, hwf.1, hwf.2.2.1, hK⟩)
set_option maxRecDepth 100000 in
set_option maxHeartbeats 4000000 in
theorem m_X7_stood (l : Launch) : ip_Met l yX7_stood cX7_stood 3 (some .int) (ip_rm 6) C_X7_stood := ip_met tb_X7_stood 400 (by decide +kernel) fl_X7_ok cn_X7_ok (ip_cs1 (ip_gsV (m_X0_manOf l) (ip_in [284, 285, 286, 33, 287] (by decide +kernel) (by decide +kernel)) rfl ⟨by decide +kernel, by decide +kernel, by decide +kernel⟩ ⟨rfl, rfl, Nat.le_of_ble_eq_true rfl, Nat.le_of_ble_eq_true rfl⟩) (ip_cs1 (ip_gsV (m_X4_likelyParishes l) (ip_in [519, 520, 521, 35, 522] (by decide +kernel) (by decide +kernel)) rfl ⟨by decide +kernel, by decide +kernel, by decide +kernel⟩ ⟨rfl, rfl, Nat.le_of_ble_eq_true rfl, Nat.le_of_ble_eq_true rfl⟩) (ip_cs0))) ck_X7_stood rfl p_X7_stood
def r_kinds (S : Nat → Nat) (G : Nat → Nat → Int32) (m : Int32) : Int32 := if ¬ inI m (S 3) then -1 else nI (bs 3 (fun p => allSo (va_up S (40 + nt m) p) G))
def C_X7_kinds : ip_C := fun vs hp K => ∃ tc S G, ∃ m : Int32, vs = [.ref 0, .int m] ∧ hp = hpC tc S G ∧ wfC S G ∧ K (some (.int (r_kinds S G m))) hp
def cs_X7_kinds : List ip_G := [(82, 2, 1, C_X0_manOf), (219, 3, 4, C_X4_likelyKinds)]
theorem p_X7_kinds : ip_Pf fl_X7 cn_X7 cs_X7_kinds (some .int) tb_X7_kinds 3 C_X7_kinds := ip_pf0 (by
  rintro _ _ K ⟨tc, S, G, m, rfl, rfl, hwf, hK⟩
  refine ⟨Nat.le_of_ble_eq_true rfl, ?_⟩
  have w3 := hwf.1.2.2.1
  refine Exists.intro tc ⟨S, G, m, rfl, rfl, w3, fun hn => ?_, fun i hi e => ?_⟩
  · rw [r_kinds, if_pos hn] at hK; exact hK
  subst e
  have hm := inI_n hi (by omega)
  rw [r_kinds, if_neg (not_not_intro hm), nt_n (by omega)] at hK
  exact Exists.intro tc ⟨S, G, i, by omega, rfl, rfl, hwf.1, hwf.2.2.1, hK⟩)
set_option maxRecDepth 100000 in
set_option maxHeartbeats 4000000 in
theorem m_X7_kinds (l : Launch) : ip_Met l yX7_kinds cX7_kinds 3 (some .int) (ip_rm 6) C_X7_kinds := ip_met tb_X7_kinds 400 (by decide +kernel) fl_X7_ok cn_X7_ok (ip_cs1 (ip_gsV (m_X0_manOf l) (ip_in [284, 285, 286, 33, 287] (by decide +kernel) (by decide +kernel)) rfl ⟨by decide +kernel, by decide +kernel, by decide +kernel⟩ ⟨rfl, rfl, Nat.le_of_ble_eq_true rfl, Nat.le_of_ble_eq_true rfl⟩) (ip_cs1 (ip_gsV (m_X4_likelyKinds l) (ip_in [527, 528, 529, 35, 530] (by decide +kernel) (by decide +kernel)) rfl ⟨by decide +kernel, by decide +kernel, by decide +kernel⟩ ⟨rfl, rfl, Nat.le_of_ble_eq_true rfl, Nat.le_of_ble_eq_true rfl⟩) (ip_cs0))) ck_X7_kinds rfl p_X7_kinds
theorem ct_bs (f : Nat → Bool) : fb_ct (fun i => (bs 64 f).testBit i) 64 = fb_ct f 64 := fb_ct_cong (fun i hi => by rw [bs_bit]; simp [hi])
def r_knew (S : Nat → Nat) (G : Nat → Nat → Int32) (m w : Int32) : Int32 := if ¬ inI m (S 3) then -1 else if w.toInt = 0 then nI (fb_ct (fun s => allSo (va_up S (60 + nt m) s) G) 64) else if w.toInt = 1 then ob (fqB (fun s => allSo (va_up S (60 + nt m) s) G) 64) else -2
def C_X7_knew : ip_C := fun vs hp K => ∃ tc S G, ∃ m w : Int32, vs = [.ref 0, .int m, .int w] ∧ hp = hpC tc S G ∧ wfC S G ∧ K (some (.int (r_knew S G m w))) hp
def cs_X7_knew : List ip_G := [(82, 2, 1, C_X0_manOf), (222, 3, 4, C_X4_likelyLists), (206, 1, 0, C_J13_bitCount), (157, 1, 0, C_X7_fewestQuestions)]
theorem p_X7_knew : ip_Pf fl_X7 cn_X7 cs_X7_knew (some .int) tb_X7_knew 6 C_X7_knew := ip_pf0 (by
  rintro _ _ K ⟨tc, S, G, m, w, rfl, rfl, hwf, hK⟩
  refine ⟨Nat.le_of_ble_eq_true rfl, ?_⟩
  have w3 := hwf.1.2.2.1
  refine Exists.intro tc ⟨S, G, m, rfl, rfl, w3, fun hn => ?_, fun i hi e => ?_⟩
  · rw [r_knew, if_pos hn] at hK; exact hK
  subst e
  have hm := inI_n hi (by omega)
  rw [r_knew, if_neg (not_not_intro hm), nt_n (by omega)] at hK
  have hl : bs 64 (fun s => allSo (va_up S (60 + i) s) G) < 2 ^ 64 := bs_lt _ 64
  have e0 := ct_bs (fun s => allSo (va_up S (60 + i) s) G)
  refine bz_eq w.toInt 0 (fun h => ?_) (fun h => ?_)
  · rw [if_pos h, ← e0] at hK
    refine Exists.intro tc ⟨S, G, i, by omega, rfl, rfl, hwf.1, hwf.2.2.1, ?_⟩
    refine bz_ne w.toInt 0 (fun h2 => absurd h h2) (fun _ => ?_)
    exact Exists.intro _ ⟨hl, rfl, hK⟩
  refine bz_eq w.toInt 1 (fun h1 => ?_) (fun h1 => ?_)
  · rw [if_neg h, if_pos h1] at hK
    refine Exists.intro tc ⟨S, G, i, by omega, rfl, rfl, hwf.1, hwf.2.2.1, ?_⟩
    refine bz_ne w.toInt 0 (fun h2 => ?_) (fun h2 => absurd h2 h)
    exact Exists.intro _ ⟨rfl, hK⟩
  · rw [if_neg h, if_neg h1] at hK
    exact hK)
set_option maxRecDepth 100000 in
set_option maxHeartbeats 4000000 in
theorem m_X7_knew (l : Launch) : ip_Met l yX7_knew cX7_knew 6 (some .int) (ip_rm 6) C_X7_knew := ip_met tb_X7_knew 400 (by decide +kernel) fl_X7_ok cn_X7_ok (ip_cs1 (ip_gsV (m_X0_manOf l) (ip_in [284, 285, 286, 33, 287] (by decide +kernel) (by decide +kernel)) rfl ⟨by decide +kernel, by decide +kernel, by decide +kernel⟩ ⟨rfl, rfl, Nat.le_of_ble_eq_true rfl, Nat.le_of_ble_eq_true rfl⟩) (ip_cs1 (ip_gsV (m_X4_likelyLists l) (ip_in [535, 536, 537, 35, 538] (by decide +kernel) (by decide +kernel)) rfl ⟨by decide +kernel, by decide +kernel, by decide +kernel⟩ ⟨rfl, rfl, Nat.le_of_ble_eq_true rfl, Nat.le_of_ble_eq_true rfl⟩) (ip_cs1 (ip_gsS (m_J13_bitCount l) (ip_in [503, 504, 45, 505] (by decide +kernel) (by decide +kernel)) ⟨by decide +kernel, by decide +kernel, by decide +kernel⟩ ⟨rfl, rfl, Nat.le_of_ble_eq_true rfl, Nat.le_of_ble_eq_true rfl⟩) (ip_cs1 (ip_gsS (m_X7_fewestQuestions l) (ip_in [427, 428, 32, 429] (by decide +kernel) (by decide +kernel)) ⟨by decide +kernel, by decide +kernel, by decide +kernel⟩ ⟨rfl, rfl, Nat.le_of_ble_eq_true rfl, Nat.le_of_ble_eq_true rfl⟩) (ip_cs0))))) ck_X7_knew rfl p_X7_knew
def r_truths (S : Nat → Nat) (G : Nat → Nat → Int32) (w : Int32) : Int32 := if ¬ (w.toInt = 0 ∨ w.toInt = 1 ∨ (10 ≤ w.toInt ∧ w.toInt ≤ 15)) then -2 else if S 2 = 0 then -3 else if w.toInt = 0 then nI (fb_ct (fun s => allSo (va_up S 1 s) G) 64) else if w.toInt = 1 then ob (lst (fun s => allSo (va_up S 1 s) G) 64) else nI (fb_ct (fun s => allSo (va_up S 1 s) G && s.testBit (w.toInt.toNat - 10)) 64)
def C_X7_truths : ip_C := fun vs hp K => ∃ tc S G, ∃ w : Int32, vs = [.ref 0, .int w] ∧ hp = hpC tc S G ∧ wfC S G ∧ K (some (.int (r_truths S G w))) hp
def cs_X7_truths : List ip_G := [(110, 1, 0, C_X7_isQuestion), (100, 1, 1, C_X0_isThere), (202, 2, 4, C_X4_likelyTruths), (206, 1, 0, C_J13_bitCount), (208, 2, 0, C_X7_countHolding), (212, 1, 0, C_X7_leastOf)]
set_option maxHeartbeats 4000000 in
theorem p_X7_truths : ip_Pf fl_X7 cn_X7 cs_X7_truths (some .int) tb_X7_truths 5 C_X7_truths := ip_pf0 (by
  rintro _ _ K ⟨tc, S, G, w, rfl, rfl, hwf, hK⟩
  refine ⟨Nat.le_of_ble_eq_true rfl, ?_⟩
  have w2 := hwf.1.2.1
  have hl : bs 64 (fun s => allSo (va_up S 1 s) G) < 2 ^ 64 := bs_lt _ 64
  have e0 := ct_bs (fun s => allSo (va_up S 1 s) G)
  have hr := fb_rng w
  have k2 : ¬ (w.toInt = 0 ∨ w.toInt = 1 ∨ (10 ≤ w.toInt ∧ w.toInt ≤ 15)) → K (some (.int (-2))) (hpC tc S G) := fun h => by rw [r_truths, if_pos h] at hK; exact hK
  have k3 : (w.toInt = 0 ∨ w.toInt = 1 ∨ (10 ≤ w.toInt ∧ w.toInt ≤ 15)) → S 2 = 0 → K (some (.int (-3))) (hpC tc S G) := fun h h2 => by rw [r_truths, if_neg (not_not_intro h), if_pos h2] at hK; exact hK
  have k0 : S 2 ≠ 0 → w.toInt = 0 → K (some (.int (nI (fb_ct (fun i => (bs 64 (fun s => allSo (va_up S 1 s) G)).testBit i) 64)))) (hpC tc S G) := fun h h2 => by rw [r_truths, if_neg (not_not_intro (Or.inl h2)), if_neg h, if_pos h2, ← e0] at hK; exact hK
  have k1 : S 2 ≠ 0 → w.toInt = 1 → K (some (.int (ob (lst (fun s => allSo (va_up S 1 s) G) 64)))) (hpC tc S G) := fun h h2 => by rw [r_truths, if_neg (not_not_intro (Or.inr (Or.inl h2))), if_neg h, if_neg (by omega), if_pos h2] at hK; exact hK
  have k10 : S 2 ≠ 0 → (10 ≤ w.toInt ∧ w.toInt ≤ 15) → K (some (.int (nI (fb_ct (fun s => allSo (va_up S 1 s) G && s.testBit (w.toInt.toNat - 10)) 64)))) (hpC tc S G) := fun h h2 => by rw [r_truths, if_neg (not_not_intro (Or.inr (Or.inr h2))), if_neg h, if_neg (by omega), if_neg (by omega)] at hK; exact hK
  clear hK
  have t10 : (10 : Int32).toInt = 10 := by decide
  refine bz_lt w.toInt 10 (fun h => ?_) (fun h => ?_)
  · refine bz_eq w.toInt 0 (fun h1 => ?_) (fun h1 => ?_)
    · refine Exists.intro tc ⟨S, G, rfl, rfl, w2, ?_⟩
      refine ip_bn (fun h2 => ?_) (fun h2 => ?_)
      · have h2 := of_decide_eq_true h2
        refine Exists.intro tc ⟨S, G, rfl, rfl, hwf.1, hwf.2.2.1, ?_⟩
        refine bz_ne w.toInt 0 (fun h3 => absurd h1 h3) (fun _ => ?_)
        exact Exists.intro _ ⟨hl, rfl, k0 (by omega) h1⟩
      · have h2 := of_decide_eq_false h2
        exact k3 (Or.inl h1) (by omega)
    refine bz_eq w.toInt 1 (fun h2 => ?_) (fun h2 => ?_)
    · refine Exists.intro tc ⟨S, G, rfl, rfl, w2, ?_⟩
      refine ip_bn (fun h3 => ?_) (fun h3 => ?_)
      · have h3 := of_decide_eq_true h3
        refine Exists.intro tc ⟨S, G, rfl, rfl, hwf.1, hwf.2.2.1, ?_⟩
        refine bz_ne w.toInt 0 (fun _ => ?_) (fun h4 => absurd h4 h1)
        refine And.intro (fun _ => ?_) (fun h5 => absurd rfl h5)
        exact Exists.intro _ ⟨rfl, k1 (by omega) h2⟩
      · have h3 := of_decide_eq_false h3
        exact k3 (Or.inr (Or.inl h2)) (by omega)
    · refine And.intro (fun h5 => absurd rfl h5) (fun _ => ?_)
      exact k2 (by omega)
  have hs : (w - 10).toInt = w.toInt - 10 := by rw [fb_subI (by rw [t10]; omega) (by rw [t10]; omega), t10]
  refine Exists.intro (w - 10) ⟨rfl, fun b hb => ?_⟩
  rw [hs] at hb
  refine ip_bt (fun h1 => ?_) (fun h1 => ?_)
  · have hno : ¬ (0 ≤ w.toInt - 10 ∧ w.toInt - 10 < 6) := fun z => by rw [hb.mpr z] at h1; cases h1
    refine bz_eq w.toInt 0 (fun h2 => absurd h (by omega)) (fun h2 => ?_)
    refine bz_eq w.toInt 1 (fun h3 => absurd h (by omega)) (fun h3 => ?_)
    refine And.intro (fun h5 => absurd rfl h5) (fun _ => ?_)
    exact k2 (by omega)
  · have hyes := hb.mp h1
    refine bz_eq w.toInt 0 (fun h2 => absurd h (by omega)) (fun h2 => ?_)
    refine bz_eq w.toInt 1 (fun h3 => absurd h (by omega)) (fun h3 => ?_)
    refine And.intro (fun _ => ?_) (fun h5 => absurd h5 (by decide))
    refine Exists.intro tc ⟨S, G, rfl, rfl, w2, ?_⟩
    refine ip_bn (fun h4 => ?_) (fun h4 => ?_)
    · have h4 := of_decide_eq_true h4
      refine Exists.intro tc ⟨S, G, rfl, rfl, hwf.1, hwf.2.2.1, ?_⟩
      refine bz_ne w.toInt 0 (fun _ => ?_) (fun h5 => absurd h5 h2)
      refine And.intro (fun h5 => absurd h5 (by decide)) (fun _ => ?_)
      have e1 : w - 10 = nI (w.toInt.toNat - 10) := by rw [fa_eq, hs, ti_n (by omega)]; omega
      exact Exists.intro _ ⟨w.toInt.toNat - 10, by omega, (by show [Value.long (lN _), Value.int (w - 10)] = _; rw [e1]), k10 (by omega) (by omega)⟩
    · have h4 := of_decide_eq_false h4
      exact k3 (Or.inr (Or.inr (by omega))) (by omega))
set_option maxRecDepth 100000 in
set_option maxHeartbeats 4000000 in
theorem m_X7_truths (l : Launch) : ip_Met l yX7_truths cX7_truths 5 (some .int) (ip_rm 6) C_X7_truths := ip_met tb_X7_truths 400 (by decide +kernel) fl_X7_ok cn_X7_ok (ip_cs1 (ip_gsS (m_X7_isQuestion l) (ip_in [315, 316, 32, 317] (by decide +kernel) (by decide +kernel)) ⟨by decide +kernel, by decide +kernel, by decide +kernel⟩ ⟨rfl, rfl, Nat.le_of_ble_eq_true rfl, Nat.le_of_ble_eq_true rfl⟩) (ip_cs1 (ip_gsV (m_X0_isThere l) (ip_in [295, 296, 297, 33, 298] (by decide +kernel) (by decide +kernel)) rfl ⟨by decide +kernel, by decide +kernel, by decide +kernel⟩ ⟨rfl, rfl, Nat.le_of_ble_eq_true rfl, Nat.le_of_ble_eq_true rfl⟩) (ip_cs1 (ip_gsV (m_X4_likelyTruths l) (ip_in [494, 495, 496, 35, 497] (by decide +kernel) (by decide +kernel)) rfl ⟨by decide +kernel, by decide +kernel, by decide +kernel⟩ ⟨rfl, rfl, Nat.le_of_ble_eq_true rfl, Nat.le_of_ble_eq_true rfl⟩) (ip_cs1 (ip_gsS (m_J13_bitCount l) (ip_in [503, 504, 45, 505] (by decide +kernel) (by decide +kernel)) ⟨by decide +kernel, by decide +kernel, by decide +kernel⟩ ⟨rfl, rfl, Nat.le_of_ble_eq_true rfl, Nat.le_of_ble_eq_true rfl⟩) (ip_cs1 (ip_gsS (m_X7_countHolding l) (ip_in [509, 510, 32, 511] (by decide +kernel) (by decide +kernel)) ⟨by decide +kernel, by decide +kernel, by decide +kernel⟩ ⟨rfl, rfl, Nat.le_of_ble_eq_true rfl, Nat.le_of_ble_eq_true rfl⟩) (ip_cs1 (ip_gsS (m_X7_leastOf l) (ip_in [512, 513, 32, 514] (by decide +kernel) (by decide +kernel)) ⟨by decide +kernel, by decide +kernel, by decide +kernel⟩ ⟨rfl, rfl, Nat.le_of_ble_eq_true rfl, Nat.le_of_ble_eq_true rfl⟩) (ip_cs0))))))) ck_X7_truths rfl p_X7_truths
def q_tell (tc : Int32) (S : Nat → Nat) (m : Int32) : Int32 × Int32 := if ¬ inI m (S 3) then (-1, tc) else if S (40 + nt m) = 1 then (nI (S (50 + nt m)) + 100, 31 * (31 * tc + 2) + 1) else if S (40 + nt m) = 2 then (nI (S (50 + nt m)) + 100 + nI (S (50 + nt m)), 31 * (31 * (31 * (31 * tc + 3) + 2) + 1) + 1) else (nI (S (50 + nt m)), 31 * tc + 1)
def C_X7_tell : ip_C := fun vs hp K => ∃ tc S G, ∃ m : Int32, vs = [.ref 0, .int m] ∧ hp = hpC tc S G ∧ wfC S G ∧ K (some (.int (q_tell tc S m).1)) (hpC (q_tell tc S m).2 S G)
def cs_X7_tell : List ip_G := [(82, 2, 1, C_X0_manOf), (259, 2, 7, C_X7_spitefulTells), (263, 2, 7, C_X7_boldTells), (266, 2, 7, C_X7_manTells)]
theorem p_X7_tell : ip_Pf fl_X7 cn_X7 cs_X7_tell (some .int) tb_X7_tell 3 C_X7_tell := ip_pf0 (by
  rintro _ _ K ⟨tc, S, G, m, rfl, rfl, hwf, hK⟩
  refine ⟨Nat.le_of_ble_eq_true rfl, ?_⟩
  obtain ⟨w1, w2, w3, w4⟩ := hwf.1
  refine Exists.intro tc ⟨S, G, m, rfl, rfl, w3, fun hn => ?_, fun i hi e => ?_⟩
  · rw [q_tell, if_pos hn] at hK; exact hK
  subst e
  have hm := inI_n hi (by omega)
  rw [q_tell, if_neg (not_not_intro hm), nt_n (by omega)] at hK
  have hi4 : i < 4 := by omega
  obtain ⟨k1, -, -⟩ := w4 i hi4
  have hsw : ∀ {X Y Z : Prop}, (S (40 + i) = 1 → X) → (S (40 + i) = 2 → Y) → (S (40 + i) = 0 → Z) → ((1 : Int) = (nI (S (40 + i))).toInt → X) ∧ (¬ (1 : Int) = (nI (S (40 + i))).toInt → ((2 : Int) = (nI (S (40 + i))).toInt → Y) ∧ (¬ (2 : Int) = (nI (S (40 + i))).toInt → Z)) := fun f1 f2 f0 => sw12 k1 f1 f2 f0
  have e1 : S (40 + i) = 1 → C_X7_boldTells [.ref 0, .ref (12 + i)] (hpC tc S G) (fun r hp => K r hp) := fun h => ⟨tc, S, G, i, hi4, rfl, rfl, by rw [if_pos h] at hK; exact hK⟩
  have e2 : S (40 + i) = 2 → C_X7_spitefulTells [.ref 0, .ref (12 + i)] (hpC tc S G) (fun r hp => K r hp) := fun h => ⟨tc, S, G, i, hi4, rfl, rfl, by rw [if_neg (by omega), if_pos h] at hK; exact hK⟩
  have e0 : S (40 + i) = 0 → C_X7_manTells [.ref 0, .ref (12 + i)] (hpC tc S G) (fun r hp => K r hp) := fun h => ⟨tc, S, G, i, hi4, rfl, rfl, by rw [if_neg (by omega), if_neg (by omega)] at hK; exact hK⟩
  rcases four hi4 with rfl | rfl | rfl | rfl
  · refine hsw (fun h => ?_) (fun h => ?_) (fun h => ?_)
    · obtain ⟨a, b, c, d, d1, d2, d3, d4⟩ := e1 h
      exact Exists.intro a ⟨b, c, d, d1, d2, d3, d4⟩
    · obtain ⟨a, b, c, d, d1, d2, d3, d4⟩ := e2 h
      exact Exists.intro a ⟨b, c, d, d1, d2, d3, d4⟩
    · obtain ⟨a, b, c, d, d1, d2, d3, d4⟩ := e0 h
      exact Exists.intro a ⟨b, c, d, d1, d2, d3, d4⟩
  · refine hsw (fun h => ?_) (fun h => ?_) (fun h => ?_)
    · obtain ⟨a, b, c, d, d1, d2, d3, d4⟩ := e1 h
      exact Exists.intro a ⟨b, c, d, d1, d2, d3, d4⟩
    · obtain ⟨a, b, c, d, d1, d2, d3, d4⟩ := e2 h
      exact Exists.intro a ⟨b, c, d, d1, d2, d3, d4⟩
    · obtain ⟨a, b, c, d, d1, d2, d3, d4⟩ := e0 h
      exact Exists.intro a ⟨b, c, d, d1, d2, d3, d4⟩
  · refine hsw (fun h => ?_) (fun h => ?_) (fun h => ?_)
    · obtain ⟨a, b, c, d, d1, d2, d3, d4⟩ := e1 h
      exact Exists.intro a ⟨b, c, d, d1, d2, d3, d4⟩
    · obtain ⟨a, b, c, d, d1, d2, d3, d4⟩ := e2 h
      exact Exists.intro a ⟨b, c, d, d1, d2, d3, d4⟩
    · obtain ⟨a, b, c, d, d1, d2, d3, d4⟩ := e0 h
      exact Exists.intro a ⟨b, c, d, d1, d2, d3, d4⟩
  · refine hsw (fun h => ?_) (fun h => ?_) (fun h => ?_)
    · obtain ⟨a, b, c, d, d1, d2, d3, d4⟩ := e1 h
      exact Exists.intro a ⟨b, c, d, d1, d2, d3, d4⟩
    · obtain ⟨a, b, c, d, d1, d2, d3, d4⟩ := e2 h
      exact Exists.intro a ⟨b, c, d, d1, d2, d3, d4⟩
    · obtain ⟨a, b, c, d, d1, d2, d3, d4⟩ := e0 h
      exact Exists.intro a ⟨b, c, d, d1, d2, d3, d4⟩)
set_option maxRecDepth 100000 in
set_option maxHeartbeats 4000000 in
theorem m_X7_tell (l : Launch) : ip_Met l yX7_tell cX7_tell 3 (some .int) (ip_rm 4) C_X7_tell := ip_met tb_X7_tell 400 (by decide +kernel) fl_X7_ok cn_X7_ok (ip_cs1 (ip_gsV (m_X0_manOf l) (ip_in [284, 285, 286, 33, 287] (by decide +kernel) (by decide +kernel)) rfl ⟨by decide +kernel, by decide +kernel, by decide +kernel⟩ ⟨rfl, rfl, Nat.le_of_ble_eq_true rfl, Nat.le_of_ble_eq_true rfl⟩) (ip_cs1 (ip_gsV (m_X7_spitefulTells l) (ip_in [582, 584, 5, 32, 585] (by decide +kernel) (by decide +kernel)) rfl ⟨by decide +kernel, by decide +kernel, by decide +kernel⟩ ⟨rfl, rfl, Nat.le_of_ble_eq_true rfl, Nat.le_of_ble_eq_true rfl⟩) (ip_cs1 (ip_gsV (m_X7_boldTells l) (ip_in [590, 592, 7, 32, 593] (by decide +kernel) (by decide +kernel)) rfl ⟨by decide +kernel, by decide +kernel, by decide +kernel⟩ ⟨rfl, rfl, Nat.le_of_ble_eq_true rfl, Nat.le_of_ble_eq_true rfl⟩) (ip_cs1 (ip_gsV (m_X7_manTells l) (ip_in [594, 596, 8, 32, 597] (by decide +kernel) (by decide +kernel)) rfl ⟨by decide +kernel, by decide +kernel, by decide +kernel⟩ ⟨rfl, rfl, Nat.le_of_ble_eq_true rfl, Nat.le_of_ble_eq_true rfl⟩) (ip_cs0))))) ck_X7_tell rfl p_X7_tell
def q_hail (tc : Int32) (S : Nat → Nat) (m : Int32) : Int32 × Int32 := if ¬ inI m (S 3) then (-1, tc) else if S (40 + nt m) = 2 then (60, 31 * tc + 5) else (m, 31 * tc + 4)
def C_X7_hail : ip_C := fun vs hp K => ∃ tc S G, ∃ m : Int32, vs = [.ref 0, .int m] ∧ hp = hpC tc S G ∧ wfC S G ∧ K (some (.int (q_hail tc S m).1)) (hpC (q_hail tc S m).2 S G)
def cs_X7_hail : List ip_G := [(82, 2, 1, C_X0_manOf), (269, 2, 7, C_X7_begin)]
theorem p_X7_hail : ip_Pf fl_X7 cn_X7 cs_X7_hail (some .int) tb_X7_hail 3 C_X7_hail := ip_pf0 (by
  rintro _ _ K ⟨tc, S, G, m, rfl, rfl, hwf, hK⟩
  refine ⟨Nat.le_of_ble_eq_true rfl, ?_⟩
  obtain ⟨w1, w2, w3, w4⟩ := hwf.1
  refine Exists.intro tc ⟨S, G, m, rfl, rfl, w3, fun hn => ?_, fun i hi e => ?_⟩
  · rw [q_hail, if_pos hn] at hK; exact hK
  subst e
  have hm := inI_n hi (by omega)
  rw [q_hail, if_neg (not_not_intro hm), nt_n (by omega)] at hK
  have hi4 : i < 4 := by omega
  obtain ⟨k1, -, -⟩ := w4 i hi4
  have b1 : ∀ {X Y : Prop}, (S (40 + i) ≠ 2 → X) → (S (40 + i) = 2 → Y) → (¬ nI (S (40 + i)) = 2 → X) ∧ (nI (S (40 + i)) = 2 → Y) := fun f g => pk_ne _ 2 f g
  have kn : S (40 + i) ≠ 2 → K (some (.int (nI i))) (hpC (31 * tc + 4) S G) := fun h => by rw [if_neg h] at hK; exact hK
  have ky : S (40 + i) = 2 → K (some (.int 60)) (hpC (31 * tc + 5) S G) := fun h => by rw [if_pos h] at hK; exact hK
  rcases four hi4 with rfl | rfl | rfl | rfl
  all_goals
    refine b1 (fun h => ?_) (fun h => ?_)
    · exact Exists.intro tc ⟨S, G, 4, rfl, rfl, kn h⟩
    · exact Exists.intro tc ⟨S, G, 5, rfl, rfl, ky h⟩)
set_option maxRecDepth 100000 in
set_option maxHeartbeats 4000000 in
theorem m_X7_hail (l : Launch) : ip_Met l yX7_hail cX7_hail 3 (some .int) (ip_rm 1) C_X7_hail := ip_met tb_X7_hail 400 (by decide +kernel) fl_X7_ok cn_X7_ok (ip_cs1 (ip_gsV (m_X0_manOf l) (ip_in [284, 285, 286, 33, 287] (by decide +kernel) (by decide +kernel)) rfl ⟨by decide +kernel, by decide +kernel, by decide +kernel⟩ ⟨rfl, rfl, Nat.le_of_ble_eq_true rfl, Nat.le_of_ble_eq_true rfl⟩) (ip_cs1 (ip_gsV (m_X7_begin l) (ip_in [586, 588, 6, 32, 589] (by decide +kernel) (by decide +kernel)) rfl ⟨by decide +kernel, by decide +kernel, by decide +kernel⟩ ⟨rfl, rfl, Nat.le_of_ble_eq_true rfl, Nat.le_of_ble_eq_true rfl⟩) (ip_cs0))) ck_X7_hail rfl p_X7_hail
def q_as (S : Nat → Nat) (m k : Int32) : Int32 × (Nat → Nat) := if ¬ inI m (S 3) then (-1, va_up S 0 0) else if ¬ inI k 3 then (-2, va_up S 0 0) else if k.toInt ≤ S (40 + nt m) then (1, va_up S 0 0) else (-12, va_up S 0 2)
def C_X7_as : ip_C := fun vs hp K => ∃ tc S G, ∃ m k : Int32, vs = [.ref 0, .int m, .int k] ∧ hp = hpC tc S G ∧ wfC S G ∧ K (some (.int (q_as S m k).1)) (hpC tc (q_as S m k).2 G)
def cs_X7_as : List ip_G := [(82, 2, 1, C_X0_manOf), (62, 2, 7, C_X7_faulty)]
theorem p_X7_as : ip_Pf fl_X7 cn_X7 cs_X7_as (some .int) tb_X7_as 4 C_X7_as := ip_pf0 (by
  rintro _ _ K ⟨tc, S, G, m, k, rfl, rfl, hwf, hK⟩
  refine ⟨Nat.le_of_ble_eq_true rfl, ?_⟩
  obtain ⟨w1, w2, w3, w4⟩ := hwf.1
  refine Exists.intro tc ⟨va_up S 0 0, G, m, rfl, rfl, w3, fun hn => ?_, fun i hi e => ?_⟩
  · rw [q_as, if_pos (show ¬ inI m (S 3) from hn)] at hK; exact hK
  subst e
  have hi : i < S 3 := hi
  have hm := inI_n hi (by omega)
  rw [q_as, if_neg (not_not_intro hm), nt_n (by omega)] at hK
  have hi4 : i < 4 := by omega
  obtain ⟨k1, -, -⟩ := w4 i hi4
  have hcode : (-10 : Int32) - nI 2 = -12 := by decide
  have kk : k.toInt ≤ S (40 + i) → inI k 3 → K (some (.int 1)) (hpC tc (va_up S 0 0) G) := fun h h2 => by rw [if_neg (not_not_intro h2), if_pos h] at hK; exact hK
  have kf : ¬ k.toInt ≤ S (40 + i) → inI k 3 → K (some (.int (-10 - nI 2))) (hpC tc (va_up (va_up S 0 0) 0 2) G) := fun h h2 => by
    rw [if_neg (not_not_intro h2), if_neg h] at hK
    rw [hcode, show va_up (va_up S 0 0) 0 2 = va_up S 0 2 from bx_uu S 0 0 2]; exact hK
  have b1 : ∀ {X Y : Prop}, ((S (40 + i) : Int) < k.toInt → X) → (k.toInt ≤ S (40 + i) → Y) → (nI (S (40 + i)) < k → X) ∧ (¬ nI (S (40 + i)) < k → Y) := fun f g => bz_lt _ _ f g (ti_n (by omega)) rfl
  refine bz_lt k.toInt 0 (fun h => ?_) (fun h => ?_)
  · rw [if_pos (fun z => by have := z.1; omega)] at hK; exact hK
  refine bz_lt k.toInt 3 (fun h2 => ?_) (fun h2 => ?_)
  · rcases four hi4 with rfl | rfl | rfl | rfl
    all_goals
      refine b1 (fun h3 => ?_) (fun h3 => ?_)
      · exact Exists.intro tc ⟨va_up S 0 0, G, 2, rfl, rfl, kf (by omega) ⟨h, h2⟩⟩
      · exact kk h3 ⟨h, h2⟩
  · rw [if_pos (fun z => by have := z.2; omega)] at hK; exact hK)
set_option maxRecDepth 100000 in
set_option maxHeartbeats 4000000 in
theorem m_X7_as (l : Launch) : ip_Met l yX7_as cX7_as 4 (some .int) (ip_rm 1) C_X7_as := ip_met tb_X7_as 400 (by decide +kernel) fl_X7_ok cn_X7_ok (ip_cs1 (ip_gsV (m_X0_manOf l) (ip_in [284, 285, 286, 33, 287] (by decide +kernel) (by decide +kernel)) rfl ⟨by decide +kernel, by decide +kernel, by decide +kernel⟩ ⟨rfl, rfl, Nat.le_of_ble_eq_true rfl, Nat.le_of_ble_eq_true rfl⟩) (ip_cs1 (ip_gsV (m_X7_faulty l) (ip_in [245, 247, 1, 32, 248] (by decide +kernel) (by decide +kernel)) rfl ⟨by decide +kernel, by decide +kernel, by decide +kernel⟩ ⟨rfl, rfl, Nat.le_of_ble_eq_true rfl, Nat.le_of_ble_eq_true rfl⟩) (ip_cs0))) ck_X7_as rfl p_X7_as
end
section
/-! ===== the class's calls on sheets ===== -/
theorem up0 (S : Nat → Nat) (x : Nat) {j : Nat} (h : j ≠ 0) : va_up S 0 x j = S j := by simp only [va_up]; rw [if_neg h]
theorem wfH_0 {S : Nat → Nat} (h : wfH S) (x : Nat) : wfH (va_up S 0 x) := fun k hk => by
  rw [up0 S x (by omega), up0 S x (by omega), up0 S x (by omega)]; exact h k hk
theorem fo_0 (S : Nat → Nat) (x k : Nat) (w i n : Int) : fo (va_up S 0 x) k w i n = fo S k w i n := by
  unfold fo
  rw [up0 S x (by omega), up0 S x (by omega), up0 S x (by omega)]
theorem fo_le (S : Nat → Nat) (k : Nat) (w i n : Int) : fo S k w i n ≤ 4 := by
  unfold fo
  split
  · omega
  · split
    · omega
    · split
      · omega
      · split <;> omega
theorem vat_0 (S : Nat → Nat) (G : Nat → Nat → Int32) (x k : Nat) (i : Int) : vat (va_up S 0 x) G k i = vat S G k i := by
  unfold vat
  rw [up0 S x (by omega)]
def q_lose (S : Nat → Nat) (k : Int32) : Int32 × (Nat → Nat) := if ¬ inI k 4 then (-1, S) else (nI (S (10 + nt k)), va_up S (10 + nt k) 0)
def C_X7_lose : ip_C := fun vs hp K => ∃ tc S G, ∃ k : Int32, vs = [.ref 0, .int k] ∧ hp = hpC tc S G ∧ wfC S G ∧ K (some (.int (q_lose S k).1)) (hpC tc (q_lose S k).2 G)
def cs_X7_lose : List ip_G := [(50, 2, 7, C_X7_sheetOf)]
theorem p_X7_lose : ip_Pf fl_X7 cn_X7 cs_X7_lose (some .int) tb_X7_lose 4 C_X7_lose := ip_pf0 (by
  rintro _ _ K ⟨tc, S, G, k, rfl, rfl, hwf, hK⟩
  refine ⟨Nat.le_of_ble_eq_true rfl, ?_⟩
  refine Exists.intro tc ⟨S, G, k, rfl, rfl, fun hn => ?_, fun j hj e => ?_⟩
  · rw [q_lose, if_pos hn] at hK; exact hK
  subst e
  rw [q_lose, if_neg (not_not_intro (inI_n hj (by omega))), nt_n (by omega)] at hK
  obtain ⟨h1, -, -⟩ := hwf.2.1 j hj
  have b0 : ∀ {X Y : Prop}, (S (10 + j) = 0 → X) → (S (10 + j) ≠ 0 → Y) → (nI (S (10 + j)) = 0 → X) ∧ (¬ nI (S (10 + j)) = 0 → Y) := fun f g => pk_eq _ 0 f g
  have k0 : S (10 + j) = 0 → K (some (.int 0)) (hpC tc (va_up S (10 + j) 0) G) := fun h => by
    have hK2 : K (some (.int (nI (S (10 + j))))) (hpC tc (va_up S (10 + j) 0) G) := hK
    rw [h] at hK2; exact hK2
  have k1 : S (10 + j) ≠ 0 → K (some (.int 1)) (hpC tc (va_up S (10 + j) 0) G) := fun h => by
    have hK2 : K (some (.int (nI (S (10 + j))))) (hpC tc (va_up S (10 + j) 0) G) := hK
    rw [show S (10 + j) = 1 by omega] at hK2; exact hK2
  rcases four hj with rfl | rfl | rfl | rfl
  all_goals
    refine And.intro (Or.inl rfl) ?_
    exact b0 k0 k1)
set_option maxRecDepth 100000 in
set_option maxHeartbeats 4000000 in
theorem m_X7_lose (l : Launch) : ip_Met l yX7_lose cX7_lose 4 (some .int) (ip_rm 1) C_X7_lose := ip_met tb_X7_lose 400 (by decide +kernel) fl_X7_ok cn_X7_ok (ip_cs1 (ip_gsV (m_X7_sheetOf l) (ip_in [230, 232, 0, 32, 233] (by decide +kernel) (by decide +kernel)) rfl ⟨by decide +kernel, by decide +kernel, by decide +kernel⟩ ⟨rfl, rfl, Nat.le_of_ble_eq_true rfl, Nat.le_of_ble_eq_true rfl⟩) (ip_cs0)) ck_X7_lose rfl p_X7_lose
def q_sheet (S : Nat → Nat) (G : Nat → Nat → Int32) (k ln n : Int32) : Int32 × (Nat → Nat) × (Nat → Nat → Int32) := if ¬ inI k 4 then (-1, va_up S 0 0, G) else if ¬ inI ln 3 ∨ 60 < n.toInt then (-2, va_up S 0 0, G) else if n.toInt < 0 then (-14, va_up S 0 4, G) else (1, va_up (va_up (va_up (va_up S 0 0) (10 + nt k) 1) (20 + nt k) (nt ln)) (30 + nt k) (nt n), va_up G (nt k) (fa_fill (fun _ => 0) (G (nt k)) 60))
def C_X7_sheet : ip_C := fun vs hp K => ∃ tc S G, ∃ k ln n : Int32, vs = [.ref 0, .int k, .int ln, .int n] ∧ hp = hpC tc S G ∧ wfC S G ∧ K (some (.int (q_sheet S G k ln n).1)) (hpC tc (q_sheet S G k ln n).2.1 (q_sheet S G k ln n).2.2)
def cs_X7_sheet : List ip_G := [(50, 2, 7, C_X7_sheetOf), (54, 1, 0, C_X7_isLane), (62, 2, 7, C_X7_faulty), (232, 3, 5, C_X5_renew)]
set_option maxHeartbeats 4000000 in
theorem p_X7_sheet : ip_Pf fl_X7 cn_X7 cs_X7_sheet (some .int) tb_X7_sheet 5 C_X7_sheet := ip_pf0 (by
  rintro _ _ K ⟨tc, S, G, k, ln, n, rfl, rfl, hwf, hK⟩
  refine ⟨Nat.le_of_ble_eq_true rfl, ?_⟩
  refine Exists.intro tc ⟨va_up S 0 0, G, k, rfl, rfl, fun hn => ?_, fun j hj e => ?_⟩
  · rw [q_sheet, if_pos hn] at hK; exact hK
  subst e
  rw [q_sheet, if_neg (not_not_intro (inI_n hj (by omega))), nt_n (by omega)] at hK
  have hcode : (-10 : Int32) - nI 4 = -14 := by decide
  have k2 : ¬ inI ln 3 ∨ 60 < n.toInt → K (some (.int (-2))) (hpC tc (va_up S 0 0) G) := fun h => by rw [if_pos h] at hK; exact hK
  have k4 : inI ln 3 → ¬ 60 < n.toInt → n.toInt < 0 → K (some (.int (-10 - nI 4))) (hpC tc (va_up (va_up S 0 0) 0 4) G) := fun h h2 h3 => by
    rw [if_neg (fun z => z.elim (fun y => y h) (fun y => h2 y)), if_pos h3] at hK
    rw [hcode, show va_up (va_up S 0 0) 0 4 = va_up S 0 4 from bx_uu S 0 0 4]; exact hK
  have k1 : ∀ l m : Nat, inI ln 3 → ¬ 60 < n.toInt → ¬ n.toInt < 0 → nt ln = l → nt n = m → K (some (.int 1)) (hpC tc (va_up (va_up (va_up (va_up S 0 0) (10 + j) 1) (20 + j) l) (30 + j) m) (va_up G j (fa_fill (fun _ => 0) (G j) 60))) := fun l m h h2 h3 e1 e2 => by
    rw [if_neg (fun z => z.elim (fun y => y h) (fun y => h2 y)), if_neg h3, e1, e2] at hK; exact hK
  clear hK
  refine Exists.intro ln ⟨rfl, fun b hb => ?_⟩
  refine ip_bt (fun h => ?_) (fun h => ?_)
  · exact k2 (Or.inl (fun z => by rw [hb.mpr z] at h; cases h))
  have hl : inI ln 3 := hb.mp h
  refine bz_le n.toInt 60 (fun h2 => ?_) (fun h2 => ?_)
  · refine bz_le 0 n.toInt (fun h3 => ?_) (fun h3 => ?_)
    · obtain ⟨a, ha, rfl, ea⟩ := ti_of hl.1
      obtain ⟨c, hc, rfl, ec⟩ := ti_of h3
      have kk := k1 a c hl (by omega) (by omega) (nt_n ha) (nt_n hc)
      have hc60 : c ≤ 60 := by omega
      rcases four hj with rfl | rfl | rfl | rfl
      all_goals exact Exists.intro tc ⟨va_up S 0 0, G, _, a, c, hj, hc60, rfl, rfl, kk⟩
    · exact Exists.intro tc ⟨va_up S 0 0, G, 4, rfl, rfl, k4 hl (by omega) h3⟩
  · exact k2 (Or.inr h2))
set_option maxRecDepth 100000 in
set_option maxHeartbeats 4000000 in
theorem m_X7_sheet (l : Launch) : ip_Met l yX7_sheet cX7_sheet 5 (some .int) (ip_rm 2) C_X7_sheet := ip_met tb_X7_sheet 400 (by decide +kernel) fl_X7_ok cn_X7_ok (ip_cs1 (ip_gsV (m_X7_sheetOf l) (ip_in [230, 232, 0, 32, 233] (by decide +kernel) (by decide +kernel)) rfl ⟨by decide +kernel, by decide +kernel, by decide +kernel⟩ ⟨rfl, rfl, Nat.le_of_ble_eq_true rfl, Nat.le_of_ble_eq_true rfl⟩) (ip_cs1 (ip_gsS (m_X7_isLane l) (ip_in [234, 235, 32, 236] (by decide +kernel) (by decide +kernel)) ⟨by decide +kernel, by decide +kernel, by decide +kernel⟩ ⟨rfl, rfl, Nat.le_of_ble_eq_true rfl, Nat.le_of_ble_eq_true rfl⟩) (ip_cs1 (ip_gsV (m_X7_faulty l) (ip_in [245, 247, 1, 32, 248] (by decide +kernel) (by decide +kernel)) rfl ⟨by decide +kernel, by decide +kernel, by decide +kernel⟩ ⟨rfl, rfl, Nat.le_of_ble_eq_true rfl, Nat.le_of_ble_eq_true rfl⟩) (ip_cs1 (ip_gsV (m_X5_renew l) (ip_in [549, 550, 551, 38, 552] (by decide +kernel) (by decide +kernel)) rfl ⟨by decide +kernel, by decide +kernel, by decide +kernel⟩ ⟨rfl, rfl, Nat.le_of_ble_eq_true rfl, Nat.le_of_ble_eq_true rfl⟩) (ip_cs0))))) ck_X7_sheet rfl p_X7_sheet
def q_put (S : Nat → Nat) (G : Nat → Nat → Int32) (k i v : Int32) : Int32 × (Nat → Nat) × (Nat → Nat → Int32) := if ¬ inI k 4 then (-1, va_up S 0 0, G) else if fo S (nt k) (S (20 + nt k)) i.toInt 1 ≠ 0 then (-10 - nI (fo S (nt k) (S (20 + nt k)) i.toInt 1), va_up S 0 (fo S (nt k) (S (20 + nt k)) i.toInt 1), G) else (1, va_up S 0 0, va_up G (nt k) (upd (G (nt k)) (nt i) (cut (S (20 + nt k)) v)))
def C_X7_put : ip_C := fun vs hp K => ∃ tc S G, ∃ k i v : Int32, vs = [.ref 0, .int k, .int i, .int v] ∧ hp = hpC tc S G ∧ wfC S G ∧ K (some (.int (q_put S G k i v).1)) (hpC tc (q_put S G k i v).2.1 (q_put S G k i v).2.2)
def cs_X7_put : List ip_G := [(50, 2, 7, C_X7_sheetOf), (58, 4, 5, C_X5_faultOf), (62, 2, 7, C_X7_faulty), (243, 3, 5, C_X5_write)]
theorem fo_zero {S : Nat → Nat} {k : Nat} {w i n : Int} (h : fo S k w i n = 0) : S (10 + k) ≠ 0 ∧ (S (20 + k) : Int) = w ∧ 0 ≤ n ∧ 0 ≤ i ∧ i + n ≤ S (30 + k) := by
  unfold fo at h
  split at h
  · cases h
  · rename_i a
    split at h
    · cases h
    · rename_i b
      split at h
      · cases h
      · rename_i c
        split at h
        · rename_i d
          exact ⟨a, by simpa using b, by omega, d.1, d.2⟩
        · cases h
set_option maxHeartbeats 4000000 in
theorem p_X7_put : ip_Pf fl_X7 cn_X7 cs_X7_put (some .int) tb_X7_put 6 C_X7_put := ip_pf0 (by
  rintro _ _ K ⟨tc, S, G, k, i, v, rfl, rfl, hwf, hK⟩
  refine ⟨Nat.le_of_ble_eq_true rfl, ?_⟩
  refine Exists.intro tc ⟨va_up S 0 0, G, k, rfl, rfl, fun hn => ?_, fun j hj e => ?_⟩
  · rw [q_put, if_pos hn] at hK; exact hK
  subst e
  rw [q_put, if_neg (not_not_intro (inI_n hj (by omega))), nt_n (by omega)] at hK
  obtain ⟨h1, h2, h3⟩ := hwf.2.1 j hj
  have hw0 := wfH_0 hwf.2.1 0
  have e20 := ti_n (n := S (20 + j)) (by omega)
  have one : (1 : Int32).toInt = 1 := by decide
  have ef : fo (va_up S 0 0) j (nI (S (20 + j))).toInt i.toInt (1 : Int32).toInt = fo S j (S (20 + j)) i.toInt 1 := by rw [fo_0, e20, one]
  have hf4 := fo_le S j (S (20 + j)) i.toInt 1
  have b0 : ∀ {X Y : Prop}, (fo S j (S (20 + j)) i.toInt 1 = 0 → X) → (fo S j (S (20 + j)) i.toInt 1 ≠ 0 → Y) → (nI (fo (va_up S 0 0) j (nI (S (20 + j))).toInt i.toInt (1 : Int32).toInt) = 0 → X) ∧ (¬ nI (fo (va_up S 0 0) j (nI (S (20 + j))).toInt i.toInt (1 : Int32).toInt) = 0 → Y) := fun f g => by rw [ef]; exact pk_eq _ 0 f g
  have kf : fo S j (S (20 + j)) i.toInt 1 ≠ 0 → K (some (.int (-10 - nI (fo (va_up S 0 0) j (nI (S (20 + j))).toInt i.toInt (1 : Int32).toInt)))) (hpC tc (va_up (va_up S 0 0) 0 (fo (va_up S 0 0) j (nI (S (20 + j))).toInt i.toInt (1 : Int32).toInt)) G) := fun h => by
    rw [if_pos h] at hK
    rw [ef, show va_up (va_up S 0 0) 0 (fo S j (S (20 + j)) i.toInt 1) = va_up S 0 (fo S j (S (20 + j)) i.toInt 1) from bx_uu S 0 0 _]; exact hK
  have kw : fo S j (S (20 + j)) i.toInt 1 = 0 → K (some (.int 1)) (hpC tc (va_up S 0 0) (va_up G j (upd (G j) i.toNatClampNeg (cut (va_up S 0 0 (20 + j)) v)))) := fun h => by
    rw [if_neg (not_not_intro h)] at hK
    rw [up0 S 0 (by omega)]
    exact hK
  have hr : fo S j (S (20 + j)) i.toInt 1 = 0 → 0 ≤ i.toInt ∧ i.toInt < va_up S 0 0 (30 + j) := fun h => by
    rw [up0 S 0 (by omega)]
    have := fo_zero h
    omega
  clear hK
  rcases four hj with rfl | rfl | rfl | rfl
  all_goals
    refine Exists.intro tc ⟨va_up S 0 0, G, _, _, i, 1, hj, rfl, rfl, hw0, ?_⟩
    refine b0 (fun h => ?_) (fun h => ?_)
    · exact Exists.intro tc ⟨va_up S 0 0, G, _, i, v, hj, rfl, rfl, hw0, (hr h).1, (hr h).2, kw h⟩
    · exact Exists.intro tc ⟨va_up S 0 0, G, _, rfl, rfl, kf h⟩)
set_option maxRecDepth 100000 in
set_option maxHeartbeats 4000000 in
theorem m_X7_put (l : Launch) : ip_Met l yX7_put cX7_put 6 (some .int) (ip_rm 2) C_X7_put := ip_met tb_X7_put 400 (by decide +kernel) fl_X7_ok cn_X7_ok (ip_cs1 (ip_gsV (m_X7_sheetOf l) (ip_in [230, 232, 0, 32, 233] (by decide +kernel) (by decide +kernel)) rfl ⟨by decide +kernel, by decide +kernel, by decide +kernel⟩ ⟨rfl, rfl, Nat.le_of_ble_eq_true rfl, Nat.le_of_ble_eq_true rfl⟩) (ip_cs1 (ip_gsV (m_X5_faultOf l) (ip_in [237, 238, 239, 38, 240] (by decide +kernel) (by decide +kernel)) rfl ⟨by decide +kernel, by decide +kernel, by decide +kernel⟩ ⟨rfl, rfl, Nat.le_of_ble_eq_true rfl, Nat.le_of_ble_eq_true rfl⟩) (ip_cs1 (ip_gsV (m_X7_faulty l) (ip_in [245, 247, 1, 32, 248] (by decide +kernel) (by decide +kernel)) rfl ⟨by decide +kernel, by decide +kernel, by decide +kernel⟩ ⟨rfl, rfl, Nat.le_of_ble_eq_true rfl, Nat.le_of_ble_eq_true rfl⟩) (ip_cs1 (ip_gsV (m_X5_write l) (ip_in [564, 565, 566, 38, 567] (by decide +kernel) (by decide +kernel)) rfl ⟨by decide +kernel, by decide +kernel, by decide +kernel⟩ ⟨rfl, rfl, Nat.le_of_ble_eq_true rfl, Nat.le_of_ble_eq_true rfl⟩) (ip_cs0))))) ck_X7_put rfl p_X7_put
def q_cell (S : Nat → Nat) (G : Nat → Nat → Int32) (k i ln : Int32) : Int64 × (Nat → Nat) := if ¬ inI k 4 ∨ ¬ inI ln 3 then (-9223372036854775808, va_up S 0 0) else if fo S (nt k) ln.toInt i.toInt 1 ≠ 0 then (-9223372036854775808, va_up S 0 (fo S (nt k) ln.toInt i.toInt 1)) else ((vat S G (nt k) i.toInt).toInt64, va_up S 0 0)
def C_X7_cell : ip_C := fun vs hp K => ∃ tc S G, ∃ k i ln : Int32, vs = [.ref 0, .int k, .int i, .int ln] ∧ hp = hpC tc S G ∧ wfC S G ∧ K (some (.long (q_cell S G k i ln).1)) (hpC tc (q_cell S G k i ln).2 G)
def cs_X7_cell : List ip_G := [(50, 2, 7, C_X7_sheetOf), (54, 1, 0, C_X7_isLane), (58, 4, 5, C_X5_faultOf), (181, 2, 5, C_X5_valueAt)]
set_option maxHeartbeats 4000000 in
theorem p_X7_cell : ip_Pf fl_X7 cn_X7 cs_X7_cell (some .long) tb_X7_cell 5 C_X7_cell := ip_pf0 (by
  rintro _ _ K ⟨tc, S, G, k, i, ln, rfl, rfl, hwf, hK⟩
  refine ⟨Nat.le_of_ble_eq_true rfl, ?_⟩
  refine Exists.intro tc ⟨va_up S 0 0, G, k, rfl, rfl, fun hn => ?_, fun j hj e => ?_⟩
  · rw [q_cell, if_pos (Or.inl hn)] at hK; exact hK
  subst e
  have hk4 : inI (nI j) 4 := inI_n hj (by omega)
  have hw0 := wfH_0 hwf.2.1 0
  have one : (1 : Int32).toInt = 1 := by decide
  have ef : fo (va_up S 0 0) j ln.toInt i.toInt (1 : Int32).toInt = fo S j ln.toInt i.toInt 1 := by rw [fo_0, one]
  have hf4 := fo_le S j ln.toInt i.toInt 1
  have k2 : ¬ inI ln 3 → K (some (.long (-9223372036854775808))) (hpC tc (va_up S 0 0) G) := fun h => by rw [q_cell, if_pos (Or.inr h)] at hK; exact hK
  have b0 : ∀ {X Y : Prop}, (fo S j ln.toInt i.toInt 1 ≠ 0 → X) → (fo S j ln.toInt i.toInt 1 = 0 → Y) → (¬ nI (fo (va_up S 0 0) j ln.toInt i.toInt (1 : Int32).toInt) = 0 → X) ∧ (nI (fo (va_up S 0 0) j ln.toInt i.toInt (1 : Int32).toInt) = 0 → Y) := fun f g => by rw [ef]; exact pk_ne _ 0 f g
  have kf : inI ln 3 → fo S j ln.toInt i.toInt 1 ≠ 0 → K (some (.long (-9223372036854775808))) (hpC tc (va_up (va_up S 0 0) 0 (fo (va_up S 0 0) j ln.toInt i.toInt (1 : Int32).toInt)) G) := fun h h2 => by
    rw [q_cell, nt_n (by omega), if_neg (fun z => z.elim (fun y => y hk4) (fun y => y h)), if_pos h2] at hK
    rw [ef, show va_up (va_up S 0 0) 0 (fo S j ln.toInt i.toInt 1) = va_up S 0 (fo S j ln.toInt i.toInt 1) from bx_uu S 0 0 _]; exact hK
  have kw : inI ln 3 → fo S j ln.toInt i.toInt 1 = 0 → K (some (.long (vat (va_up (va_up S 0 0) 0 (fo (va_up S 0 0) j ln.toInt i.toInt (1 : Int32).toInt)) G j i.toInt).toInt64)) (hpC tc (va_up (va_up S 0 0) 0 (fo (va_up S 0 0) j ln.toInt i.toInt (1 : Int32).toInt)) G) := fun h h2 => by
    rw [q_cell, nt_n (by omega), if_neg (fun z => z.elim (fun y => y hk4) (fun y => y h)), if_neg (not_not_intro h2)] at hK
    rw [ef, h2, show va_up (va_up S 0 0) 0 0 = va_up S 0 0 from bx_uu S 0 0 _, vat_0]; exact hK
  have hw1 := wfH_0 hwf.2.1 (fo (va_up S 0 0) j ln.toInt i.toInt (1 : Int32).toInt)
  clear hK
  refine Exists.intro ln ⟨rfl, fun b hb => ?_⟩
  refine ip_bn (fun h => ?_) (fun h => ?_)
  · have hl : inI ln 3 := hb.mp h
    have hw2 : wfH (va_up (va_up S 0 0) 0 (fo (va_up S 0 0) j ln.toInt i.toInt (1 : Int32).toInt)) := wfH_0 hw0 _
    rcases four hj with rfl | rfl | rfl | rfl
    all_goals
      refine Exists.intro tc ⟨va_up S 0 0, G, _, ln, i, 1, hj, rfl, rfl, hw0, ?_⟩
      refine b0 (fun h2 => ?_) (fun h2 => ?_)
      · exact kf hl h2
      · exact Exists.intro tc ⟨va_up (va_up S 0 0) 0 _, G, _, i, hj, rfl, rfl, hw2, kw hl h2⟩
  · exact k2 (fun z => by rw [hb.mpr z] at h; cases h))
set_option maxRecDepth 100000 in
set_option maxHeartbeats 4000000 in
theorem m_X7_cell (l : Launch) : ip_Met l yX7_cell cX7_cell 5 (some .long) (ip_rm 2) C_X7_cell := ip_met tb_X7_cell 400 (by decide +kernel) fl_X7_ok cn_X7_ok (ip_cs1 (ip_gsV (m_X7_sheetOf l) (ip_in [230, 232, 0, 32, 233] (by decide +kernel) (by decide +kernel)) rfl ⟨by decide +kernel, by decide +kernel, by decide +kernel⟩ ⟨rfl, rfl, Nat.le_of_ble_eq_true rfl, Nat.le_of_ble_eq_true rfl⟩) (ip_cs1 (ip_gsS (m_X7_isLane l) (ip_in [234, 235, 32, 236] (by decide +kernel) (by decide +kernel)) ⟨by decide +kernel, by decide +kernel, by decide +kernel⟩ ⟨rfl, rfl, Nat.le_of_ble_eq_true rfl, Nat.le_of_ble_eq_true rfl⟩) (ip_cs1 (ip_gsV (m_X5_faultOf l) (ip_in [237, 238, 239, 38, 240] (by decide +kernel) (by decide +kernel)) rfl ⟨by decide +kernel, by decide +kernel, by decide +kernel⟩ ⟨rfl, rfl, Nat.le_of_ble_eq_true rfl, Nat.le_of_ble_eq_true rfl⟩) (ip_cs1 (ip_gsV (m_X5_valueAt l) (ip_in [369, 256, 257, 38, 258] (by decide +kernel) (by decide +kernel)) rfl ⟨by decide +kernel, by decide +kernel, by decide +kernel⟩ ⟨rfl, rfl, Nat.le_of_ble_eq_true rfl, Nat.le_of_ble_eq_true rfl⟩) (ip_cs0))))) ck_X7_cell rfl p_X7_cell
end
section
/-! ===== storms that are told ===== -/
def okp (S : Nat → Nat) (G : Nat → Nat → Int32) (k a t : Nat) : Bool := decide (inI (G k (a + 2 * t)) (S 2))
def okq (G : Nat → Nat → Int32) (k a t : Nat) : Bool := decide (inI (G k (a + 2 * t + 1)) 6)
def pairR (S : Nat → Nat) (G : Nat → Nat → Int32) (k a n : Nat) : Int32 := match lst (fun t => !(okp S G k a t && okq G k a t)) n with
  | none => 0
  | some t => if okp S G k a t then -2 else -1
theorem vat_t {S : Nat → Nat} {G : Nat → Nat → Int32} {k x : Nat} {f g : Nat → Int32} (hk : k < 4) (i : Int) : vat (va_up S 5 x) (va_up (va_up G 7 f) 8 g) k i = vat S G k i := by
  unfold vat
  have e1 : va_up S 5 x (30 + k) = S (30 + k) := by simp only [va_up]; rw [if_neg (by omega)]
  have e2 : va_up (va_up G 7 f) 8 g k = G k := by simp only [va_up]; rw [if_neg (by omega), if_neg (by omega)]
  rw [e1, e2]
theorem vat_in {S : Nat → Nat} {G : Nat → Nat → Int32} {k j : Nat} (h : j < S (30 + k)) : vat S G k (j : Int) = G k j := by
  unfold vat
  rw [if_pos ⟨by omega, by omega⟩]
  rfl
theorem wfH_5 {S : Nat → Nat} (h : wfH S) (x : Nat) : wfH (va_up S 5 x) := fun k hk => by
  have e : ∀ j, j ≠ 5 → va_up S 5 x j = S j := fun j hj => by simp only [va_up]; rw [if_neg hj]
  rw [e _ (by omega), e _ (by omega), e _ (by omega)]; exact h k hk
def C_X7_hearPairs : ip_C := fun vs hp K => ∃ tc S G, ∃ k a n : Nat, k < 4 ∧ n ≤ 20 ∧ a + 2 * n ≤ S (30 + k) ∧ vs = [.ref 0, .ref (2 + 2 * k), .int (nI a), .int (nI n)] ∧ hp = hpC tc S G ∧ wfH S ∧ S 2 ≤ 6 ∧
  (pairR S G k a n ≠ 0 → ∀ x f g, K (some (.int (pairR S G k a n))) (hpC tc (va_up S 5 x) (va_up (va_up G 7 f) 8 g))) ∧
  (pairR S G k a n = 0 → (∀ t, t < n → inI (G k (a + 2 * t)) (S 2) ∧ inI (G k (a + 2 * t + 1)) 6) → ∀ f g, (∀ t, t < n → f t = G k (a + 2 * t) ∧ g t = G k (a + 2 * t + 1)) → K (some (.int 0)) (hpC tc (va_up S 5 n) (va_up (va_up G 7 f) 8 g)))
def cs_X7_hearPairs : List ip_G := [(181, 2, 5, C_X5_valueAt), (107, 2, 1, C_X0_hasParish), (110, 1, 0, C_X7_isQuestion), (282, 3, 6, C_X6_add)]
def I_X7_hearPairs (tc : Int32) (S : Nat → Nat) (G : Nat → Nat → Int32) (k a n : Nat) : Nat → Nat → ip_P := fun pc kk L st hp => pc = 11 ∧ ∃ (t : Nat) (y : Int32) (l5 l6 : Option Value) (f g : Nat → Int32), t ≤ n ∧ kk = n - t ∧ L = [some (.ref 0), some (.ref (2 + 2 * k)), some (.int (nI a)), some (.int (nI n)), some (.int y), l5, l6] ∧ st = [] ∧ hp = hpC tc (va_up S 5 t) (va_up (va_up G 7 f) 8 g) ∧ y = nI t ∧ (∀ i, i < t → f i = G k (a + 2 * i) ∧ g i = G k (a + 2 * i + 1)) ∧ ∀ i, i < t → okp S G k a i = true ∧ okq G k a i = true
set_option maxHeartbeats 4000000 in
theorem p_X7_hearPairs : ip_Pf fl_X7 cn_X7 cs_X7_hearPairs (some .int) tb_X7_hearPairs 7 C_X7_hearPairs := by
  rintro _ _ K ⟨tc, S, G, k, a, n, hk, hn, han, rfl, rfl, hwh, w2, hK1, hK0⟩
  have hz := (hwh k hk).2.2
  refine ⟨Nat.le_of_ble_eq_true rfl, I_X7_hearPairs tc S G k a n, ?_, ?_⟩
  · exact Exists.intro n ⟨trivial, rfl, 0, _, none, none, G 7, G 8, by omega, rfl, rfl, rfl, rfl, rfl, fun i hi => absurd hi (by omega), fun i hi => absurd hi (by omega)⟩
  · rintro pc kk L st hp ⟨rfl, t, y, l5, l6, f, g, ht, rfl, rfl, rfl, rfl, rfl, hfg, hok⟩
    refine pk_le n t (fun h => ?_) (fun h => ?_)
    · obtain rfl : t = n := by omega
      refine hK0 ?_ (fun i hi => ⟨of_decide_eq_true (hok i hi).1, of_decide_eq_true (hok i hi).2⟩) f g hfg
      unfold pairR
      rw [lst_none (fun i hi => by rw [(hok i hi).1, (hok i hi).2]; rfl)]
    have e1 : nI a + 2 * nI t = nI (a + 2 * t) := by rw [show (2 : Int32) = nI 2 from rfl, pk_mul, nI_add]
    have e2 : nI a + 2 * nI t + 1 = nI (a + 2 * t + 1) := by rw [e1, nI_1]
    have p1 : vat (va_up S 5 t) (va_up (va_up G 7 f) 8 g) k (nI a + 2 * nI t).toInt = G k (a + 2 * t) := by rw [e1, ti_n (by omega), vat_t hk, vat_in (by omega)]
    have p2 : vat (va_up S 5 t) (va_up (va_up G 7 f) 8 g) k (nI a + 2 * nI t + 1).toInt = G k (a + 2 * t + 1) := by rw [e2, ti_n (by omega), vat_t hk, vat_in (by omega)]
    have w5 : wfH (va_up S 5 t) := wfH_5 hwh t
    have bad : ∀ c : Int32, (okp S G k a t && okq G k a t) = false → (if okp S G k a t then (-2 : Int32) else -1) = c → ¬ c = 0 → K (some (.int c)) (hpC tc (va_up S 5 t) (va_up (va_up G 7 f) 8 g)) := fun c h1 h2 h3 => by
      have e : pairR S G k a n = c := by
        unfold pairR
        rw [lst_some (s := t) (by rw [h1]; rfl) (fun i hi => by rw [(hok i hi).1, (hok i hi).2]; rfl) h]
        exact h2
      rw [← e]
      exact hK1 (by rw [e]; exact h3) t f g
    have good : okp S G k a t = true → okq G k a t = true → ∀ (u v : Int32), u = G k (a + 2 * t) → v = G k (a + 2 * t + 1) → ∀ (l5 l6 : Option Value) (y : Int32), y = nI (t + 1) → ∃ kk, ip_lt kk (some (n - t)) ∧ I_X7_hearPairs tc S G k a n 11 kk [some (.ref 0), some (.ref (2 + 2 * k)), some (.int (nI a)), some (.int (nI n)), some (.int y), l5, l6] [] (hpC tc (va_up S 5 (t + 1)) (va_up (va_up G 7 (upd f t u)) 8 (upd g t v))) := fun h1 h2 u v hu hv l5 l6 y hy => by
      refine ⟨n - (t + 1), by show _ < _; omega, rfl, t + 1, y, l5, l6, _, _, by omega, rfl, rfl, rfl, rfl, hy, fun i hi => ?_, fun i hi => ?_⟩
      · rcases Nat.lt_or_ge i t with q | q
        · rw [pk_un (by omega), pk_un (by omega)]; exact hfg i q
        · obtain rfl : i = t := by omega
          rw [pk_us, pk_us]; exact ⟨hu, hv⟩
      · rcases Nat.lt_or_ge i t with q | q
        · exact hok i q
        · obtain rfl : i = t := by omega
          exact ⟨h1, h2⟩
    have h9 : nI t + 1 = nI (t + 1) := nI_1 t
    have ht20 : t < 20 := by omega
    rcases four hk with rfl | rfl | rfl | rfl
    all_goals
      refine Exists.intro tc ⟨va_up S 5 t, va_up (va_up G 7 f) 8 g, _, _, hk, rfl, rfl, w5, ?_⟩
      refine Exists.intro tc ⟨va_up S 5 t, va_up (va_up G 7 f) 8 g, _, _, hk, rfl, rfl, w5, ?_⟩
      rw [p1, p2]
      refine Exists.intro tc ⟨va_up S 5 t, va_up (va_up G 7 f) 8 g, _, rfl, rfl, w2, fun b hb => ?_⟩
      refine ip_bn (fun h1 => ?_) (fun h1 => ?_)
      · have o1 : okp S G _ a t = true := decide_eq_true (hb.mp h1)
        refine Exists.intro _ ⟨rfl, fun b2 hb2 => ?_⟩
        refine ip_bn (fun h2 => ?_) (fun h2 => ?_)
        · have o2 : okq G _ a t = true := decide_eq_true (hb2.mp h2)
          refine Exists.intro tc ⟨va_up S 5 t, va_up (va_up G 7 f) 8 g, _, _, rfl, rfl, ht20, fun hp' e => ?_⟩
          subst e
          exact good o1 o2 _ _ rfl rfl _ _ _ h9
        · have o2 : okq G _ a t = false := decide_eq_false (fun z => by rw [hb2.mpr z] at h2; cases h2)
          exact bad (-2) (by rw [o1, o2]; rfl) (by rw [o1]; rfl) (by decide)
      · have o1 : okp S G _ a t = false := decide_eq_false (fun z => by rw [hb.mpr z] at h1; cases h1)
        exact bad (-1) (by rw [o1]; rfl) (by rw [o1]; rfl) (by decide)
set_option maxRecDepth 100000 in
set_option maxHeartbeats 4000000 in
theorem m_X7_hearPairs (l : Launch) : ip_Met l yX7_hearPairs cX7_hearPairs 7 (some .int) (ip_rm 2) C_X7_hearPairs := ip_met tb_X7_hearPairs 400 (by decide +kernel) fl_X7_ok cn_X7_ok (ip_cs1 (ip_gsV (m_X5_valueAt l) (ip_in [369, 256, 257, 38, 258] (by decide +kernel) (by decide +kernel)) rfl ⟨by decide +kernel, by decide +kernel, by decide +kernel⟩ ⟨rfl, rfl, Nat.le_of_ble_eq_true rfl, Nat.le_of_ble_eq_true rfl⟩) (ip_cs1 (ip_gsV (m_X0_hasParish l) (ip_in [303, 304, 305, 33, 306] (by decide +kernel) (by decide +kernel)) rfl ⟨by decide +kernel, by decide +kernel, by decide +kernel⟩ ⟨rfl, rfl, Nat.le_of_ble_eq_true rfl, Nat.le_of_ble_eq_true rfl⟩) (ip_cs1 (ip_gsS (m_X7_isQuestion l) (ip_in [315, 316, 32, 317] (by decide +kernel) (by decide +kernel)) ⟨by decide +kernel, by decide +kernel, by decide +kernel⟩ ⟨rfl, rfl, Nat.le_of_ble_eq_true rfl, Nat.le_of_ble_eq_true rfl⟩) (ip_cs1 (ip_gsV (m_X6_add l) (ip_in [370, 371, 372, 36, 373] (by decide +kernel) (by decide +kernel)) rfl ⟨by decide +kernel, by decide +kernel, by decide +kernel⟩ ⟨rfl, rfl, Nat.le_of_ble_eq_true rfl, Nat.le_of_ble_eq_true rfl⟩) (ip_cs0))))) ck_X7_hearPairs rfl p_X7_hearPairs
end
section
/-! ===== hearStorm, storm, teach ===== -/
def hsR (S : Nat → Nat) (G : Nat → Nat → Int32) (sh ln i n : Int32) (w : Bool) : Int32 × Nat := if ¬ inI sh 4 then (-1, 0) else if ¬ inI ln 3 ∨ n.toInt < 0 ∨ 20 < n.toInt ∨ w = false then (-2, 0) else if fo S (nt sh) ln.toInt i.toInt (2 * n.toInt) ≠ 0 then (-10 - nI (fo S (nt sh) ln.toInt i.toInt (2 * n.toInt)), fo S (nt sh) ln.toInt i.toInt (2 * n.toInt)) else if S 2 = 0 then (-3, 0) else (pairR S G (nt sh) (nt i) (nt n), 0)
/-- the storm's row stands in the cells from a on -/
def stormOk (S : Nat → Nat) (G : Nat → Nat → Int32) (k a n : Nat) : Prop := k < 4 ∧ n ≤ 20 ∧ a + 2 * n ≤ S (30 + k) ∧ S 2 ≠ 0 ∧ ∀ t, t < n → inI (G k (a + 2 * t)) (S 2) ∧ inI (G k (a + 2 * t + 1)) 6
def C_X7_hearStorm : ip_C := fun vs hp K => ∃ tc S G, ∃ (sh ln i n : Int32) (w : Bool), vs = [.ref 0, .int sh, .int ln, .int i, .int n, .int (ip_bi w)] ∧ hp = hpC tc S G ∧ wfH S ∧ S 2 ≤ 6 ∧
  ((hsR S G sh ln i n w).1 ≠ 0 → ∀ x f g, K (some (.int (hsR S G sh ln i n w).1)) (hpC tc (va_up (va_up S 0 (hsR S G sh ln i n w).2) 5 x) (va_up (va_up G 7 f) 8 g))) ∧
  ((hsR S G sh ln i n w) = (0, 0) → stormOk S G (nt sh) (nt i) (nt n) → w = true → ∀ f g, (∀ t, t < nt n → f t = G (nt sh) (nt i + 2 * t) ∧ g t = G (nt sh) (nt i + 2 * t + 1)) → K (some (.int 0)) (hpC tc (va_up (va_up S 0 0) 5 (nt n)) (va_up (va_up G 7 f) 8 g)))
def cs_X7_hearStorm : List ip_G := [(50, 2, 7, C_X7_sheetOf), (54, 1, 0, C_X7_isLane), (58, 4, 5, C_X5_faultOf), (62, 2, 7, C_X7_faulty), (100, 1, 1, C_X0_isThere), (276, 4, 7, C_X7_hearPairs)]
theorem pairR_0 (S : Nat → Nat) (G : Nat → Nat → Int32) (k a n x : Nat) : pairR (va_up S 0 x) G k a n = pairR S G k a n := rfl
theorem t2n {n : Int32} (h : 0 ≤ n.toInt) (h2 : n.toInt ≤ 20) : (2 * n).toInt = 2 * n.toInt := by
  have t2 : (2 : Int32).toInt = 2 := by decide
  rw [fb_mulI (by rw [t2]; omega) (by rw [t2]; omega), t2]
theorem neg10 : ∀ f : Fin 5, f.val ≠ 0 → ¬ (-10 : Int32) - nI f.val = 0 := by decide +kernel
set_option maxHeartbeats 4000000 in
theorem p_X7_hearStorm : ip_Pf fl_X7 cn_X7 cs_X7_hearStorm (some .int) tb_X7_hearStorm 8 C_X7_hearStorm := ip_pf0 (by
  rintro _ _ K ⟨tc, S, G, sh, ln, i, n, w, rfl, rfl, hwh, w2, hK1, hK0⟩
  refine ⟨Nat.le_of_ble_eq_true rfl, ?_⟩
  refine Exists.intro tc ⟨va_up S 0 0, G, sh, rfl, rfl, fun hn => ?_, fun j hj e => ?_⟩
  · have e : hsR S G sh ln i n w = (-1, 0) := by rw [hsR, if_pos hn]
    rw [e] at hK1
    exact hK1 (by decide) (S 5) (G 7) (G 8)
  subst e
  have hs4 : inI (nI j) 4 := inI_n hj (by omega)
  have ej : nt (nI j) = j := nt_n (by omega)
  have hw0 := wfH_0 hwh 0
  have k2 : ¬ inI ln 3 ∨ n.toInt < 0 ∨ 20 < n.toInt ∨ w = false → K (some (.int (-2))) (hpC tc (va_up S 0 0) G) := fun h => by
    have e : hsR S G (nI j) ln i n w = (-2, 0) := by rw [hsR, if_neg (not_not_intro hs4), if_pos h]
    rw [e] at hK1
    exact hK1 (by decide) (S 5) (G 7) (G 8)
  refine Exists.intro ln ⟨rfl, fun b hb => ?_⟩
  refine ip_bt (fun h => ?_) (fun h => ?_)
  · exact k2 (Or.inl (fun z => by rw [hb.mpr z] at h; cases h))
  have hl : inI ln 3 := hb.mp h
  refine bz_lt n.toInt 0 (fun h1 => ?_) (fun h1 => ?_)
  · exact k2 (Or.inr (Or.inl h1))
  refine bz_lt 20 n.toInt (fun h2 => ?_) (fun h2 => ?_)
  · exact k2 (Or.inr (Or.inr (Or.inl h2)))
  refine ip_bn (fun h3 => ?_) (fun h3 => ?_)
  rotate_left
  · exact k2 (Or.inr (Or.inr (Or.inr h3)))
  have hno : ¬ (¬ inI ln 3 ∨ n.toInt < 0 ∨ 20 < n.toInt ∨ w = false) := fun z => by
    rcases z with z | z | z | z
    · exact z hl
    · omega
    · omega
    · rw [h3] at z; cases z
  have e2 := t2n h1 h2
  have ef : fo (va_up S 0 0) j ln.toInt i.toInt (2 * n).toInt = fo S j ln.toInt i.toInt (2 * n.toInt) := by rw [fo_0, e2]
  have hf4 := fo_le S j ln.toInt i.toInt (2 * n.toInt)
  have b0 : ∀ {X Y : Prop}, (fo S j ln.toInt i.toInt (2 * n.toInt) = 0 → X) → (fo S j ln.toInt i.toInt (2 * n.toInt) ≠ 0 → Y) → (nI (fo (va_up S 0 0) j ln.toInt i.toInt (2 * n).toInt) = 0 → X) ∧ (¬ nI (fo (va_up S 0 0) j ln.toInt i.toInt (2 * n).toInt) = 0 → Y) := fun f g => by rw [ef]; exact pk_eq _ 0 f g
  have kf : fo S j ln.toInt i.toInt (2 * n.toInt) ≠ 0 → K (some (.int (-10 - nI (fo (va_up S 0 0) j ln.toInt i.toInt (2 * n).toInt)))) (hpC tc (va_up (va_up S 0 0) 0 (fo (va_up S 0 0) j ln.toInt i.toInt (2 * n).toInt)) G) := fun h => by
    have e : hsR S G (nI j) ln i n w = (-10 - nI (fo S j ln.toInt i.toInt (2 * n.toInt)), fo S j ln.toInt i.toInt (2 * n.toInt)) := by rw [hsR, if_neg (not_not_intro hs4), if_neg hno, ej, if_pos h]
    rw [e] at hK1
    rw [ef]
    exact hK1 (neg10 ⟨fo S j ln.toInt i.toInt (2 * n.toInt), Nat.lt_succ_of_le hf4⟩ h) (S 5) (G 7) (G 8)
  have k3 : fo S j ln.toInt i.toInt (2 * n.toInt) = 0 → S 2 = 0 → K (some (.int (-3))) (hpC tc (va_up S 0 0) G) := fun h h5 => by
    have e : hsR S G (nI j) ln i n w = (-3, 0) := by rw [hsR, if_neg (not_not_intro hs4), if_neg hno, ej, if_neg (not_not_intro h), if_pos h5]
    rw [e] at hK1
    exact hK1 (by decide) (S 5) (G 7) (G 8)
  have kp : fo S j ln.toInt i.toInt (2 * n.toInt) = 0 → S 2 ≠ 0 → ∃ a m : Nat, i = nI a ∧ n = nI m ∧ m ≤ 20 ∧ a + 2 * m ≤ S (30 + j) ∧
      (pairR S G j a m ≠ 0 → ∀ x f g, K (some (.int (pairR S G j a m))) (hpC tc (va_up (va_up S 0 0) 5 x) (va_up (va_up G 7 f) 8 g))) ∧
      (pairR S G j a m = 0 → (∀ t, t < m → inI (G j (a + 2 * t)) (S 2) ∧ inI (G j (a + 2 * t + 1)) 6) → ∀ f g, (∀ t, t < m → f t = G j (a + 2 * t) ∧ g t = G j (a + 2 * t + 1)) → K (some (.int 0)) (hpC tc (va_up (va_up S 0 0) 5 m) (va_up (va_up G 7 f) 8 g))) := fun h h5 => by
    obtain ⟨z1, z2, z3, z4, z5⟩ := fo_zero h
    obtain ⟨a, ha, rfl, ea⟩ := ti_of z4
    obtain ⟨m, hm, rfl, em⟩ := ti_of h1
    have e : hsR S G (nI j) ln (nI a) (nI m) w = (pairR S G j a m, 0) := by rw [hsR, if_neg (not_not_intro hs4), if_neg hno, ej, if_neg (not_not_intro h), if_neg h5, nt_n ha, nt_n hm]
    rw [e, nt_n ha, nt_n hm, ej] at hK0
    rw [e] at hK1
    refine ⟨a, m, rfl, rfl, by omega, by omega, fun h6 => hK1 h6, fun h6 h7 f g hfg => hK0 (by rw [h6]) ⟨hj, by omega, by omega, h5, h7⟩ h3 f g hfg⟩
  clear hK1 hK0 k2
  have hz30 : ∀ m a : Nat, a + 2 * m ≤ S (30 + j) → a + 2 * m ≤ va_up S 0 0 (30 + j) := fun m a hh => by rw [up0 S 0 (by omega)]; exact hh
  rcases four hj with rfl | rfl | rfl | rfl
  all_goals
    refine Exists.intro tc ⟨va_up S 0 0, G, _, ln, i, 2 * n, hj, rfl, rfl, hw0, ?_⟩
    refine b0 (fun h4 => ?_) (fun h4 => ?_)
    rotate_left
    · exact Exists.intro tc ⟨va_up S 0 0, G, _, rfl, rfl, kf h4⟩
    refine Exists.intro tc ⟨va_up S 0 0, G, rfl, rfl, w2, ?_⟩
    refine ip_bt (fun h5 => ?_) (fun h5 => ?_)
    · have h5 : ¬ 0 < S 2 := of_decide_eq_false h5
      exact k3 h4 (by omega)
    · have h5 : 0 < S 2 := of_decide_eq_true h5
      obtain ⟨a, m, rfl, rfl, hm, ham, q1, q0⟩ := kp h4 (by omega)
      exact Exists.intro tc ⟨va_up S 0 0, G, _, a, m, hj, hm, hz30 m a ham, rfl, rfl, hw0, w2, q1, q0⟩)
set_option maxRecDepth 100000 in
set_option maxHeartbeats 4000000 in
theorem m_X7_hearStorm (l : Launch) : ip_Met l yX7_hearStorm cX7_hearStorm 8 (some .int) (ip_rm 3) C_X7_hearStorm := ip_met tb_X7_hearStorm 400 (by decide +kernel) fl_X7_ok cn_X7_ok (ip_cs1 (ip_gsV (m_X7_sheetOf l) (ip_in [230, 232, 0, 32, 233] (by decide +kernel) (by decide +kernel)) rfl ⟨by decide +kernel, by decide +kernel, by decide +kernel⟩ ⟨rfl, rfl, Nat.le_of_ble_eq_true rfl, Nat.le_of_ble_eq_true rfl⟩) (ip_cs1 (ip_gsS (m_X7_isLane l) (ip_in [234, 235, 32, 236] (by decide +kernel) (by decide +kernel)) ⟨by decide +kernel, by decide +kernel, by decide +kernel⟩ ⟨rfl, rfl, Nat.le_of_ble_eq_true rfl, Nat.le_of_ble_eq_true rfl⟩) (ip_cs1 (ip_gsV (m_X5_faultOf l) (ip_in [237, 238, 239, 38, 240] (by decide +kernel) (by decide +kernel)) rfl ⟨by decide +kernel, by decide +kernel, by decide +kernel⟩ ⟨rfl, rfl, Nat.le_of_ble_eq_true rfl, Nat.le_of_ble_eq_true rfl⟩) (ip_cs1 (ip_gsV (m_X7_faulty l) (ip_in [245, 247, 1, 32, 248] (by decide +kernel) (by decide +kernel)) rfl ⟨by decide +kernel, by decide +kernel, by decide +kernel⟩ ⟨rfl, rfl, Nat.le_of_ble_eq_true rfl, Nat.le_of_ble_eq_true rfl⟩) (ip_cs1 (ip_gsV (m_X0_isThere l) (ip_in [295, 296, 297, 33, 298] (by decide +kernel) (by decide +kernel)) rfl ⟨by decide +kernel, by decide +kernel, by decide +kernel⟩ ⟨rfl, rfl, Nat.le_of_ble_eq_true rfl, Nat.le_of_ble_eq_true rfl⟩) (ip_cs1 (ip_gsV (m_X7_hearPairs l) (ip_in [365, 367, 3, 32, 368] (by decide +kernel) (by decide +kernel)) rfl ⟨by decide +kernel, by decide +kernel, by decide +kernel⟩ ⟨rfl, rfl, Nat.le_of_ble_eq_true rfl, Nat.le_of_ble_eq_true rfl⟩) (ip_cs0))))))) ck_X7_hearStorm rfl p_X7_hearStorm
theorem stk_cong {S S' : Nat → Nat} {p q : Nat} (h1 : S' 1 = S 1) (h3 : S' 3 = S 3) (hm : ∀ m, m < S 3 → S' (40 + m) = S (40 + m) ∧ S' (50 + m) = S (50 + m) ∧ S' (60 + m) = S (60 + m)) : stk S' p q = stk S p q := by
  unfold stk heldS
  rw [h1, h3]
  congr 1
  exact held_cong (fun m h => ⟨(hm m h).1, (hm m h).2.2, by rw [(hm m h).2.1]⟩)
theorem up05 {S : Nat → Nat} {x y j : Nat} (h : j ≠ 0) (h2 : j ≠ 5) : va_up (va_up S 0 x) 5 y j = S j := by simp only [va_up]; rw [if_neg h2, if_neg h]
theorem stk_05 (S : Nat → Nat) (x y p q : Nat) : stk (va_up (va_up S 0 x) 5 y) p q = stk S p q := stk_cong rfl rfl (fun m _ => ⟨up05 (by omega) (by omega), up05 (by omega) (by omega), up05 (by omega) (by omega)⟩)
theorem wfM_05 {S : Nat → Nat} (h : wfM S) (x y : Nat) : wfM (va_up (va_up S 0 x) 5 y) := by
  obtain ⟨a, b, c, d⟩ := h
  refine ⟨a, b, c, fun m hm => ?_⟩
  rw [up05 (by omega) (by omega), up05 (by omega) (by omega), up05 (by omega) (by omega)]
  exact d m hm
/-- pair t of a storm: struck -/
def stP (S : Nat → Nat) (G : Nat → Nat → Int32) (k a t : Nat) : Bool := stk S (nt (G k (a + 2 * t))) (nt (G k (a + 2 * t + 1)))
def spP (G : Nat → Nat → Int32) (k a t : Nat) : Nat := nt (G k (a + 2 * t))
theorem heard {S : Nat → Nat} {G : Nat → Nat → Int32} {k a n x : Nat} {f g : Nat → Int32} (hwf : wfM S) (h : stormOk S G k a n) (hfg : ∀ t, t < n → f t = G k (a + 2 * t) ∧ g t = G k (a + 2 * t + 1)) : wfM (va_up (va_up S 0 x) 5 n) ∧ wfT (va_up (va_up S 0 x) 5 n) (va_up (va_up G 7 f) 8 g) ∧ (∀ t, t < n → stT (va_up (va_up S 0 x) 5 n) (va_up (va_up G 7 f) 8 g) t = stP S G k a t ∧ pN (va_up (va_up G 7 f) 8 g 7) t = spP G k a t) := by
  obtain ⟨hk, hn, han, h2, hp⟩ := h
  have hS2 := hwf.2.1
  have key : ∀ t, t < n → pN f t = nt (G k (a + 2 * t)) ∧ pN g t = nt (G k (a + 2 * t + 1)) := fun t ht => by
    unfold pN
    rw [(hfg t ht).1, (hfg t ht).2]
    exact ⟨rfl, rfl⟩
  refine ⟨wfM_05 hwf x n, ⟨hn, fun t ht => ?_⟩, fun t ht => ?_⟩
  · obtain ⟨q1, q2⟩ := hp t ht
    obtain ⟨k1, k2⟩ := key t ht
    obtain ⟨l1, m1⟩ := inI_nt q1
    obtain ⟨l2, m2⟩ := inI_nt q2
    show f t = nI (pN f t) ∧ pN f t < 6 ∧ g t = nI (pN g t) ∧ pN g t < 6
    rw [k1, k2, (hfg t ht).1, (hfg t ht).2]
    exact ⟨m1, by omega, m2, l2⟩
  · obtain ⟨k1, k2⟩ := key t ht
    refine ⟨?_, k1⟩
    show stk (va_up (va_up S 0 x) 5 n) (pN f t) (pN g t) = _
    rw [stk_05, k1, k2]
    rfl
def q_storm (S : Nat → Nat) (G : Nat → Nat → Int32) (sh ln i n w : Int32) : Int32 × Nat := if (hsR S G sh ln i n (decide (0 ≤ w.toInt ∧ w.toInt ≤ 2))).1 ≠ 0 then hsR S G sh ln i n (decide (0 ≤ w.toInt ∧ w.toInt ≤ 2)) else if w.toInt = 0 then (nI (fb_ct (stP S G (nt sh) (nt i)) (nt n)), 0) else if w.toInt = 1 then (ob (lst (stP S G (nt sh) (nt i)) (nt n)), 0) else (nI (bs 6 (fun p => anyb (nt n) (fun t => stP S G (nt sh) (nt i) t && spP G (nt sh) (nt i) t == p))), 0)
def C_X7_storm : ip_C := fun vs hp K => ∃ tc S G, ∃ (sh ln i n w : Int32), vs = [.ref 0, .int sh, .int ln, .int i, .int n, .int w] ∧ hp = hpC tc S G ∧ wfC S G ∧ ∀ x f g, K (some (.int (q_storm S G sh ln i n w).1)) (hpC tc (va_up (va_up S 0 (q_storm S G sh ln i n w).2) 5 x) (va_up (va_up G 7 f) 8 g))
def cs_X7_storm : List ip_G := [(129, 6, 7, C_X7_hearStorm), (133, 2, 6, C_X6_countIn), (137, 2, 6, C_X6_firstIn), (140, 2, 6, C_X6_struckIn)]
theorem lst_cong {f g : Nat → Bool} : ∀ {n : Nat}, (∀ i, i < n → f i = g i) → lst f n = lst g n
  | 0, _ => rfl
  | n + 1, h => by simp only [lst]; rw [lst_cong (fun i hi => h i (by omega)), h n (by omega)]
set_option maxHeartbeats 4000000 in
theorem p_X7_storm : ip_Pf fl_X7 cn_X7 cs_X7_storm (some .int) tb_X7_storm 7 C_X7_storm := ip_pf0 (by
  rintro _ _ K ⟨tc, S, G, sh, ln, i, n, w, rfl, rfl, hwf, hK⟩
  refine ⟨Nat.le_of_ble_eq_true rfl, ?_⟩
  have bad : (hsR S G sh ln i n (decide (0 ≤ w.toInt ∧ w.toInt ≤ 2))).1 ≠ 0 → ∀ x f g, K (some (.int (hsR S G sh ln i n (decide (0 ≤ w.toInt ∧ w.toInt ≤ 2))).1)) (hpC tc (va_up (va_up S 0 (hsR S G sh ln i n (decide (0 ≤ w.toInt ∧ w.toInt ≤ 2))).2) 5 x) (va_up (va_up G 7 f) 8 g)) := fun h x f g => by
    have := hK x f g
    rw [q_storm, if_pos h] at this
    exact this
  have good0 : hsR S G sh ln i n (decide (0 ≤ w.toInt ∧ w.toInt ≤ 2)) = (0, 0) → w.toInt = 0 → ∀ x f g, K (some (.int (nI (fb_ct (stP S G (nt sh) (nt i)) (nt n))))) (hpC tc (va_up (va_up S 0 0) 5 x) (va_up (va_up G 7 f) 8 g)) := fun h h1 x f g => by
    have := hK x f g
    rw [q_storm, h, if_neg (by decide), if_pos h1] at this
    exact this
  have good1 : hsR S G sh ln i n (decide (0 ≤ w.toInt ∧ w.toInt ≤ 2)) = (0, 0) → w.toInt ≠ 0 → w.toInt = 1 → ∀ x f g, K (some (.int (ob (lst (stP S G (nt sh) (nt i)) (nt n))))) (hpC tc (va_up (va_up S 0 0) 5 x) (va_up (va_up G 7 f) 8 g)) := fun h h1 h2 x f g => by
    have := hK x f g
    rw [q_storm, h, if_neg (by decide), if_neg h1, if_pos h2] at this
    exact this
  have good2 : hsR S G sh ln i n (decide (0 ≤ w.toInt ∧ w.toInt ≤ 2)) = (0, 0) → w.toInt ≠ 0 → w.toInt ≠ 1 → ∀ x f g, K (some (.int (nI (bs 6 (fun p => anyb (nt n) (fun t => stP S G (nt sh) (nt i) t && spP G (nt sh) (nt i) t == p)))))) (hpC tc (va_up (va_up S 0 0) 5 x) (va_up (va_up G 7 f) 8 g)) := fun h h1 h2 x f g => by
    have := hK x f g
    rw [q_storm, h, if_neg (by decide), if_neg h1, if_neg h2] at this
    exact this
  clear hK
  refine bz_lt w.toInt 0 (fun h => ?_) (fun h => ?_)
  · have hw : decide (0 ≤ w.toInt ∧ w.toInt ≤ 2) = false := decide_eq_false (by omega)
    rw [hw] at bad
    refine Exists.intro tc ⟨S, G, sh, ln, i, n, false, rfl, rfl, hwf.2.1, hwf.1.2.1, fun hb x f g => ?_, fun _ _ h2 => by cases h2⟩
    exact And.intro (fun h3 => absurd h3 hb) (fun _ => bad hb x f g)
  refine bz_lt 2 w.toInt (fun h2 => ?_) (fun h2 => ?_)
  · have hw : decide (0 ≤ w.toInt ∧ w.toInt ≤ 2) = false := decide_eq_false (by omega)
    rw [hw] at bad
    refine Exists.intro tc ⟨S, G, sh, ln, i, n, false, rfl, rfl, hwf.2.1, hwf.1.2.1, fun hb x f g => ?_, fun _ _ h3 => by cases h3⟩
    exact And.intro (fun h3 => absurd h3 hb) (fun _ => bad hb x f g)
  have hw : decide (0 ≤ w.toInt ∧ w.toInt ≤ 2) = true := decide_eq_true (by omega)
  rw [hw] at bad good0 good1 good2
  refine Exists.intro tc ⟨S, G, sh, ln, i, n, true, rfl, rfl, hwf.2.1, hwf.1.2.1, fun hb x f g => ?_, fun h0 hok _ f g hfg => ?_⟩
  · exact And.intro (fun h3 => absurd h3 hb) (fun _ => bad hb x f g)
  refine And.intro (fun _ => ?_) (fun h3 => absurd rfl h3)
  obtain ⟨v1, v2, v3⟩ := heard (x := 0) hwf.1 hok hfg
  refine bz_ne w.toInt 0 (fun h3 => ?_) (fun h3 => ?_)
  · refine bz_ne w.toInt 1 (fun h4 => ?_) (fun h4 => ?_)
    · have kk := good2 h0 h3 h4 (nt n) f g
      have e : bs 6 (fun p => anyb (nt n) (fun t => stT (va_up (va_up S 0 0) 5 (nt n)) (va_up (va_up G 7 f) 8 g) t && pN (va_up (va_up G 7 f) 8 g 7) t == p)) = bs 6 (fun p => anyb (nt n) (fun t => stP S G (nt sh) (nt i) t && spP G (nt sh) (nt i) t == p)) := bs_cong (fun p _ => anyb_cong (fun t ht => by rw [(v3 t ht).1, (v3 t ht).2]))
      rw [← e] at kk
      exact Exists.intro tc ⟨_, _, rfl, rfl, v1, v2, kk⟩
    · have kk := good1 h0 h3 h4 (nt n) f g
      refine Exists.intro tc ⟨_, _, rfl, rfl, v1, v2, fun t ht h5 h6 => ?_, fun h5 => ?_⟩
      · have ht : t < nt n := ht
        have e : lst (stP S G (nt sh) (nt i)) (nt n) = some t := lst_some (f := stP S G (nt sh) (nt i)) (by have e1 := (v3 t ht).1; rw [h5] at e1; exact e1.symm) (fun j hj => by have e1 := (v3 j (Nat.lt_trans hj ht)).1; rw [h6 j hj] at e1; exact e1.symm) ht
        rw [e] at kk
        exact kk
      · have h5 : ∀ j, j < nt n → stT (va_up (va_up S 0 0) 5 (nt n)) (va_up (va_up G 7 f) 8 g) j = false := h5
        have e : lst (stP S G (nt sh) (nt i)) (nt n) = none := lst_none (f := stP S G (nt sh) (nt i)) (fun j hj => by have e1 := (v3 j hj).1; rw [h5 j hj] at e1; exact e1.symm)
        rw [e] at kk
        exact kk
  · have kk := good0 h0 h3 (nt n) f g
    have e : fb_ct (stT (va_up (va_up S 0 0) 5 (nt n)) (va_up (va_up G 7 f) 8 g)) (nt n) = fb_ct (stP S G (nt sh) (nt i)) (nt n) := fb_ct_cong (fun t ht => (v3 t ht).1)
    rw [← e] at kk
    exact Exists.intro tc ⟨_, _, rfl, rfl, v1, v2, kk⟩)
set_option maxRecDepth 100000 in
set_option maxHeartbeats 4000000 in
theorem m_X7_storm (l : Launch) : ip_Met l yX7_storm cX7_storm 7 (some .int) (ip_rm 5) C_X7_storm := ip_met tb_X7_storm 400 (by decide +kernel) fl_X7_ok cn_X7_ok (ip_cs1 (ip_gsV (m_X7_hearStorm l) (ip_in [361, 363, 2, 32, 364] (by decide +kernel) (by decide +kernel)) rfl ⟨by decide +kernel, by decide +kernel, by decide +kernel⟩ ⟨rfl, rfl, Nat.le_of_ble_eq_true rfl, Nat.le_of_ble_eq_true rfl⟩) (ip_cs1 (ip_gsV (m_X6_countIn l) (ip_in [374, 375, 376, 36, 377] (by decide +kernel) (by decide +kernel)) rfl ⟨by decide +kernel, by decide +kernel, by decide +kernel⟩ ⟨rfl, rfl, Nat.le_of_ble_eq_true rfl, Nat.le_of_ble_eq_true rfl⟩) (ip_cs1 (ip_gsV (m_X6_firstIn l) (ip_in [379, 380, 381, 36, 382] (by decide +kernel) (by decide +kernel)) rfl ⟨by decide +kernel, by decide +kernel, by decide +kernel⟩ ⟨rfl, rfl, Nat.le_of_ble_eq_true rfl, Nat.le_of_ble_eq_true rfl⟩) (ip_cs1 (ip_gsV (m_X6_struckIn l) (ip_in [383, 384, 385, 36, 386] (by decide +kernel) (by decide +kernel)) rfl ⟨by decide +kernel, by decide +kernel, by decide +kernel⟩ ⟨rfl, rfl, Nat.le_of_ble_eq_true rfl, Nat.le_of_ble_eq_true rfl⟩) (ip_cs0))))) ck_X7_storm rfl p_X7_storm
end
section
/-! ===== teach, worth, worst, odds, fair ===== -/
def lesP (S : Nat → Nat) (G : Nat → Nat → Int32) (k a n m s : Nat) : Bool := decide (S (60 + m) &&& s = 0) && !anyb n (fun t => stP (va_up S (60 + m) (S (60 + m) ||| s)) G k a t)
def q_teach (S : Nat → Nat) (G : Nat → Nat → Int32) (m sh ln i n : Int32) : Int32 × Nat := if ¬ inI m (S 3) then (-1, 0) else if (hsR S G sh ln i n true).1 ≠ 0 then hsR S G sh ln i n true else (ob (fqB (lesP S G (nt sh) (nt i) (nt n) (nt m)) 64), 0)
def C_X7_teach : ip_C := fun vs hp K => ∃ tc S G, ∃ (m sh ln i n : Int32), vs = [.ref 0, .int m, .int sh, .int ln, .int i, .int n] ∧ hp = hpC tc S G ∧ wfC S G ∧ ∀ x f g, K (some (.int (q_teach S G m sh ln i n).1)) (hpC tc (va_up (va_up S 0 (q_teach S G m sh ln i n).2) 5 x) (va_up (va_up G 7 f) 8 g))
def cs_X7_teach : List ip_G := [(82, 2, 1, C_X0_manOf), (129, 6, 7, C_X7_hearStorm), (153, 2, 7, C_X7_lessons), (157, 1, 0, C_X7_fewestQuestions)]
theorem fqB_cong {f g : Nat → Bool} : ∀ {n : Nat}, (∀ i, i < n → f i = g i) → fqB f n = fqB g n
  | 0, _ => rfl
  | n + 1, h => by simp only [fqB]; rw [fqB_cong (fun i hi => h i (by omega)), h n (by omega)]
theorem hsR_0 (S : Nat → Nat) (G : Nat → Nat → Int32) (x : Nat) (sh ln i n : Int32) (w : Bool) : hsR (va_up S 0 x) G sh ln i n w = hsR S G sh ln i n w := by
  unfold hsR
  rw [fo_0, pairR_0]
  rfl
theorem les_P {S : Nat → Nat} {G : Nat → Nat → Int32} {k a n m : Nat} {f g : Nat → Int32} (hwf : wfM S) (h : stormOk S G k a n) (hm : m < 4) (hfg : ∀ t, t < n → f t = G k (a + 2 * t) ∧ g t = G k (a + 2 * t + 1)) (s : Nat) : les (va_up (va_up S 0 0) 5 n) (va_up (va_up G 7 f) 8 g) m s = lesP S G k a n m s := by
  have e60 : va_up (va_up S 0 0) 5 n (60 + m) = S (60 + m) := up05 (by omega) (by omega)
  unfold les lesP
  rw [e60]
  congr 2
  refine anyb_cong (fun t ht => ?_)
  have ht : t < n := ht
  unfold stT stP
  have k1 : pN (va_up (va_up G 7 f) 8 g 7) t = nt (G k (a + 2 * t)) := by show (f t).toNatClampNeg = _; rw [(hfg t ht).1]; rfl
  have k2 : pN (va_up (va_up G 7 f) 8 g 8) t = nt (G k (a + 2 * t + 1)) := by show (g t).toNatClampNeg = _; rw [(hfg t ht).2]; rfl
  rw [k1, k2]
  have key : ∀ j, j ≠ 0 → j ≠ 5 → va_up (va_up (va_up S 0 0) 5 n) (60 + m) (S (60 + m) ||| s) j = va_up S (60 + m) (S (60 + m) ||| s) j := fun j h0 h5 => by
    show (if j = 60 + m then _ else va_up (va_up S 0 0) 5 n j) = (if j = 60 + m then _ else S j)
    rw [up05 h0 h5]
  exact stk_cong (key 1 (by omega) (by omega)) (key 3 (by omega) (by omega)) (fun i _ => ⟨key _ (by omega) (by omega), key _ (by omega) (by omega), key _ (by omega) (by omega)⟩)
set_option maxHeartbeats 4000000 in
theorem p_X7_teach : ip_Pf fl_X7 cn_X7 cs_X7_teach (some .int) tb_X7_teach 8 C_X7_teach := ip_pf0 (by
  rintro _ _ K ⟨tc, S, G, m, sh, ln, i, n, rfl, rfl, hwf, hK⟩
  refine ⟨Nat.le_of_ble_eq_true rfl, ?_⟩
  have w3 := hwf.1.2.2.1
  refine Exists.intro tc ⟨va_up S 0 0, G, m, rfl, rfl, w3, fun hn => ?_, fun j hj e => ?_⟩
  · have := hK (S 5) (G 7) (G 8)
    rw [q_teach, if_pos (show ¬ inI m (S 3) from hn)] at this
    exact this
  subst e
  have hj : j < S 3 := hj
  have hm := inI_n hj (by omega)
  have hj4 : j < 4 := by omega
  have bad : (hsR (va_up S 0 0) G sh ln i n true).1 ≠ 0 → ∀ x f g, K (some (.int (hsR (va_up S 0 0) G sh ln i n true).1)) (hpC tc (va_up (va_up (va_up S 0 0) 0 (hsR (va_up S 0 0) G sh ln i n true).2) 5 x) (va_up (va_up G 7 f) 8 g)) := fun h x f g => by
    have := hK x f g
    rw [hsR_0] at h ⊢
    rw [q_teach, if_neg (not_not_intro hm), if_pos h] at this
    rw [show va_up (va_up S 0 0) 0 (hsR S G sh ln i n true).2 = va_up S 0 (hsR S G sh ln i n true).2 from bx_uu S 0 0 _]
    exact this
  have good : hsR (va_up S 0 0) G sh ln i n true = (0, 0) → ∀ x f g, K (some (.int (ob (fqB (lesP S G (nt sh) (nt i) (nt n) j) 64)))) (hpC tc (va_up (va_up S 0 0) 5 x) (va_up (va_up G 7 f) 8 g)) := fun h x f g => by
    have := hK x f g
    rw [hsR_0] at h
    rw [q_teach, if_neg (not_not_intro hm), h, if_neg (by decide), nt_n (by omega)] at this
    exact this
  clear hK
  have hu : va_up (va_up S 0 0) 0 0 = va_up S 0 0 := bx_uu S 0 0 0
  refine Exists.intro tc ⟨va_up S 0 0, G, sh, ln, i, n, true, rfl, rfl, wfH_0 hwf.2.1 0, hwf.1.2.1, fun hb x f g => ?_, fun h0 hok _ f g hfg => ?_⟩
  · exact And.intro (fun h3 => absurd h3 hb) (fun _ => bad hb x f g)
  refine And.intro (fun _ => ?_) (fun h3 => absurd rfl h3)
  have hok' : stormOk S G (nt sh) (nt i) (nt n) := by
    obtain ⟨a1, a2, a3, a4, a5⟩ := hok
    exact ⟨a1, a2, by rw [up0 S 0 (by omega)] at a3; exact a3, a4, a5⟩
  obtain ⟨v1, v2, v3⟩ := heard (x := 0) hwf.1 hok' hfg
  have kk := good h0 (nt n) f g
  have e : bs 64 (les (va_up (va_up S 0 0) 5 (nt n)) (va_up (va_up G 7 f) 8 g) j) = bs 64 (lesP S G (nt sh) (nt i) (nt n) j) := bs_cong (fun s _ => les_P hwf.1 hok' hj4 hfg s)
  refine Exists.intro tc ⟨va_up (va_up S 0 0) 5 (nt n), va_up (va_up G 7 f) 8 g, j, hj4, rfl, rfl, v1, v2, ?_⟩
  exact Exists.intro (lesP S G (nt sh) (nt i) (nt n) j) ⟨(by show [Value.long (lN (bs 64 (les (va_up (va_up S 0 0) 5 (nt n)) (va_up (va_up G 7 f) 8 g) j)))] = _; rw [e]), kk⟩)
set_option maxRecDepth 100000 in
set_option maxHeartbeats 4000000 in
theorem m_X7_teach (l : Launch) : ip_Met l yX7_teach cX7_teach 8 (some .int) (ip_rm 6) C_X7_teach := ip_met tb_X7_teach 400 (by decide +kernel) fl_X7_ok cn_X7_ok (ip_cs1 (ip_gsV (m_X0_manOf l) (ip_in [284, 285, 286, 33, 287] (by decide +kernel) (by decide +kernel)) rfl ⟨by decide +kernel, by decide +kernel, by decide +kernel⟩ ⟨rfl, rfl, Nat.le_of_ble_eq_true rfl, Nat.le_of_ble_eq_true rfl⟩) (ip_cs1 (ip_gsV (m_X7_hearStorm l) (ip_in [361, 363, 2, 32, 364] (by decide +kernel) (by decide +kernel)) rfl ⟨by decide +kernel, by decide +kernel, by decide +kernel⟩ ⟨rfl, rfl, Nat.le_of_ble_eq_true rfl, Nat.le_of_ble_eq_true rfl⟩) (ip_cs1 (ip_gsV (m_X7_lessons l) (ip_in [423, 425, 4, 32, 426] (by decide +kernel) (by decide +kernel)) rfl ⟨by decide +kernel, by decide +kernel, by decide +kernel⟩ ⟨rfl, rfl, Nat.le_of_ble_eq_true rfl, Nat.le_of_ble_eq_true rfl⟩) (ip_cs1 (ip_gsS (m_X7_fewestQuestions l) (ip_in [427, 428, 32, 429] (by decide +kernel) (by decide +kernel)) ⟨by decide +kernel, by decide +kernel, by decide +kernel⟩ ⟨rfl, rfl, Nat.le_of_ble_eq_true rfl, Nat.le_of_ble_eq_true rfl⟩) (ip_cs0))))) ck_X7_teach rfl p_X7_teach
-- worth
def dw (S : Nat → Nat) (lo : Nat) : Nat := fb_sm (fun p => pc6 (dgs S (fun m => S (50 + m) == p && !lo.testBit m))) (S 2)
theorem andn16 : ∀ a lo : Fin 16, nI a.val &&& (nI lo.val ^^^ (-1)) = nI (bs 4 (fun i => a.val.testBit i && !lo.val.testBit i)) := by decide +kernel
def C_X0_dangersWithout : ip_C := fun vs hp K => ∃ tc S G, ∃ lo : Nat, lo < 16 ∧ vs = [.ref 10, .int (nI lo)] ∧ hp = hpC tc S G ∧ wfM S ∧ K (some (.int (nI (dw S lo)))) hp
def cs_X0_dangersWithout : List ip_G := [(42, 2, 1, C_X0_menIn), (45, 2, 1, C_X0_dangersBy), (51, 1, 0, C_J6_bitCount)]
def I_X0_dangersWithout (tc : Int32) (S : Nat → Nat) (G : Nat → Nat → Int32) (lo : Nat) : Nat → Nat → ip_P := fun pc k L st hp => pc = 4 ∧ ∃ (p : Nat) (x y : Int32), p ≤ S 2 ∧ k = 6 - p ∧ L = [some (.ref 10), some (.int (nI lo)), some (.int x), some (.int y)] ∧ st = [] ∧ hp = hpC tc S G ∧ x = nI (fb_sm (fun p => pc6 (dgs S (fun m => S (50 + m) == p && !lo.testBit m))) p) ∧ y = nI p
theorem p_X0_dangersWithout : ip_Pf fl_X0 [] cs_X0_dangersWithout (some .int) tb_X0_dangersWithout 4 C_X0_dangersWithout := by
  rintro _ _ K ⟨tc, S, G, lo, hlo, rfl, rfl, hwf, hK⟩
  have w2 := hwf.2.1
  refine ⟨Nat.le_of_ble_eq_true rfl, I_X0_dangersWithout tc S G lo, ?_, ?_⟩
  · exact Exists.intro 6 ⟨trivial, rfl, 0, _, _, by omega, rfl, rfl, rfl, rfl, rfl, rfl⟩
  · rintro pc k L st hp ⟨rfl, p, x, y, hp, rfl, rfl, rfl, rfl, rfl, rfl⟩
    refine pk_le (S 2) p (fun h => ?_) (fun h => ?_)
    · obtain rfl : p = S 2 := by omega
      exact hK
    refine Exists.intro tc ⟨S, G, p, by omega, rfl, rfl, hwf, ?_⟩
    have ha := andn16 ⟨bs (S 3) (fun m => S (50 + m) == p), bs16 hwf _⟩ ⟨lo, hlo⟩
    simp only at ha
    have e : dgs S (fun m => (bs 4 (fun i => (bs (S 3) (fun m => S (50 + m) == p)).testBit i && !lo.testBit i)).testBit m) = dgs S (fun m => S (50 + m) == p && !lo.testBit m) := dgs_cong (fun m hm => by
      have := hwf.2.2.1
      rw [bs_bit, bs_bit]
      simp [hm, show m < 4 by omega])
    refine Exists.intro tc ⟨S, G, bs 4 (fun i => (bs (S 3) (fun m => S (50 + m) == p)).testBit i && !lo.testBit i), bs_lt _ 4, (by show [Value.ref 10, Value.int (nI (bs (S 3) (fun m => S (50 + m) == p)) &&& (nI lo ^^^ (-1)))] = _; rw [ha]), rfl, hwf, ?_⟩
    rw [e]
    refine Exists.intro _ ⟨dgs_lt S _, rfl, ?_⟩
    exact Exists.intro (6 - (p + 1)) ⟨by show _ < _; omega, rfl, p + 1, _, _, by omega, rfl, rfl, rfl, rfl, by rw [nI_add, fb_sm_succ], nI_1 p⟩
set_option maxRecDepth 100000 in
set_option maxHeartbeats 4000000 in
theorem m_X0_dangersWithout (l : Launch) : ip_Met l yX0_dangersWithout cX0_dangersWithout 4 (some .int) (ip_rm 2) C_X0_dangersWithout := ip_met tb_X0_dangersWithout 400 (by decide +kernel) fl_X0_ok ip_cn0 (ip_cs1 (ip_gsV (m_X0_menIn l) (ip_in [341, 342, 343, 33, 344] (by decide +kernel) (by decide +kernel)) rfl ⟨by decide +kernel, by decide +kernel, by decide +kernel⟩ ⟨rfl, rfl, Nat.le_of_ble_eq_true rfl, Nat.le_of_ble_eq_true rfl⟩) (ip_cs1 (ip_gsV (m_X0_dangersBy l) (ip_in [345, 346, 347, 33, 348] (by decide +kernel) (by decide +kernel)) rfl ⟨by decide +kernel, by decide +kernel, by decide +kernel⟩ ⟨rfl, rfl, Nat.le_of_ble_eq_true rfl, Nat.le_of_ble_eq_true rfl⟩) (ip_cs1 (ip_gsS (m_J6_bitCount l) (ip_in [477, 434, 44, 435] (by decide +kernel) (by decide +kernel)) ⟨by decide +kernel, by decide +kernel, by decide +kernel⟩ ⟨rfl, rfl, Nat.le_of_ble_eq_true rfl, Nat.le_of_ble_eq_true rfl⟩) (ip_cs0)))) ck_X0_dangersWithout rfl p_X0_dangersWithout
def r_worth (S : Nat → Nat) (m : Int32) : Int32 := if ¬ inI m (S 3) then -1 else 100 + nI (dw S (2 ^ nt m)) - nI (dw S 0)
def C_X7_worth : ip_C := fun vs hp K => ∃ tc S G, ∃ m : Int32, vs = [.ref 0, .int m] ∧ hp = hpC tc S G ∧ wfC S G ∧ K (some (.int (r_worth S m))) hp
def cs_X7_worth : List ip_G := [(82, 2, 1, C_X0_manOf), (195, 2, 1, C_X0_dangersWithout)]
theorem p_X7_worth : ip_Pf fl_X7 cn_X7 cs_X7_worth (some .int) tb_X7_worth 2 C_X7_worth := ip_pf0 (by
  rintro _ _ K ⟨tc, S, G, m, rfl, rfl, hwf, hK⟩
  refine ⟨Nat.le_of_ble_eq_true rfl, ?_⟩
  have w3 := hwf.1.2.2.1
  refine Exists.intro tc ⟨S, G, m, rfl, rfl, w3, fun hn => ?_, fun i hi e => ?_⟩
  · rw [r_worth, if_pos hn] at hK; exact hK
  subst e
  have hm := inI_n hi (by omega)
  rw [r_worth, if_neg (not_not_intro hm), nt_n (by omega)] at hK
  have hs := sh1 ⟨i, by omega⟩
  simp only at hs
  have h16 : 2 ^ i < 16 := Nat.pow_lt_pow_right (a := 2) (m := i) (n := 4) (by decide) (by omega)
  refine Exists.intro tc ⟨S, G, 2 ^ i, h16, (by show [Value.ref 10, Value.int ((1 : Int32) <<< (nI i &&& 31))] = _; rw [hs]), rfl, hwf.1, ?_⟩
  exact Exists.intro tc ⟨S, G, 0, by decide, rfl, rfl, hwf.1, hK⟩)
set_option maxRecDepth 100000 in
set_option maxHeartbeats 4000000 in
theorem m_X7_worth (l : Launch) : ip_Met l yX7_worth cX7_worth 2 (some .int) (ip_rm 3) C_X7_worth := ip_met tb_X7_worth 400 (by decide +kernel) fl_X7_ok cn_X7_ok (ip_cs1 (ip_gsV (m_X0_manOf l) (ip_in [284, 285, 286, 33, 287] (by decide +kernel) (by decide +kernel)) rfl ⟨by decide +kernel, by decide +kernel, by decide +kernel⟩ ⟨rfl, rfl, Nat.le_of_ble_eq_true rfl, Nat.le_of_ble_eq_true rfl⟩) (ip_cs1 (ip_gsV (m_X0_dangersWithout l) (ip_in [473, 474, 475, 33, 476] (by decide +kernel) (by decide +kernel)) rfl ⟨by decide +kernel, by decide +kernel, by decide +kernel⟩ ⟨rfl, rfl, Nat.le_of_ble_eq_true rfl, Nat.le_of_ble_eq_true rfl⟩) (ip_cs0))) ck_X7_worth rfl p_X7_worth
-- worst
def dct (S : Nat → Nat) (a b : Nat) : Nat := fb_ct (fun i => dgp S (a + i) != 0) (b + 1 - a)
def C_X0_dangerousFrom : ip_C := fun vs hp K => ∃ tc S G, ∃ a b : Nat, a ≤ b ∧ b < S 2 ∧ vs = [.ref 10, .int (nI a), .int (nI b)] ∧ hp = hpC tc S G ∧ wfM S ∧ K (some (.int (nI (dct S a b)))) hp
def cs_X0_dangerousFrom : List ip_G := [(48, 2, 1, C_X0_dangersOf)]
def I_X0_dangerousFrom (tc : Int32) (S : Nat → Nat) (G : Nat → Nat → Int32) (a b : Nat) : Nat → Nat → ip_P := fun pc k L st hp => pc = 5 ∧ ∃ (p : Nat) (x y : Int32), p ≤ b + 1 - a ∧ k = b + 1 - a - p ∧ L = [some (.ref 10), some (.int (nI a)), some (.int (nI b)), some (.int x), some (.int y)] ∧ st = [] ∧ hp = hpC tc S G ∧ x = nI (fb_ct (fun i => dgp S (a + i) != 0) p) ∧ y = nI (a + p)
theorem p_X0_dangerousFrom : ip_Pf fl_X0 [] cs_X0_dangerousFrom (some .int) tb_X0_dangerousFrom 5 C_X0_dangerousFrom := by
  rintro _ _ K ⟨tc, S, G, a, b, hab, hb, rfl, rfl, hwf, hK⟩
  have w2 := hwf.2.1
  refine ⟨Nat.le_of_ble_eq_true rfl, I_X0_dangerousFrom tc S G a b, ?_, ?_⟩
  · exact Exists.intro (b + 1 - a) ⟨trivial, rfl, 0, _, _, by omega, rfl, rfl, rfl, rfl, rfl, rfl⟩
  · rintro pc k L st hp ⟨rfl, p, x, y, hp, rfl, rfl, rfl, rfl, rfl, rfl⟩
    have fin : p = b + 1 - a → K (some (.int (nI (fb_ct (fun i => dgp S (a + i) != 0) p)))) (hpC tc S G) := fun h => by rw [h]; exact hK
    refine pk_lt b (a + p) (fun h => ?_) (fun h => ?_)
    · exact fin (by omega)
    refine pk_le (S 2) (a + p) (fun h2 => ?_) (fun h2 => ?_)
    · omega
    refine Exists.intro tc ⟨S, G, a + p, by omega, rfl, rfl, hwf, ?_⟩
    have hl := dgp_lt S (a + p)
    refine pk_eq (dgp S (a + p)) 0 (fun h3 => ?_) (fun h3 => ?_)
    · exact Exists.intro (b + 1 - a - (p + 1)) ⟨by show _ < _; omega, rfl, p + 1, _, _, by omega, rfl, rfl, rfl, rfl, by rw [fb_ct_succ, h3]; simp, nI_1 (a + p)⟩
    · exact Exists.intro (b + 1 - a - (p + 1)) ⟨by show _ < _; omega, rfl, p + 1, _, _, by omega, rfl, rfl, rfl, rfl, by rw [fb_ct_succ, nI_1]; simp [h3], nI_1 (a + p)⟩
set_option maxRecDepth 100000 in
set_option maxHeartbeats 4000000 in
theorem m_X0_dangerousFrom (l : Launch) : ip_Met l yX0_dangerousFrom cX0_dangerousFrom 5 (some .int) (ip_rm 3) C_X0_dangerousFrom := ip_met tb_X0_dangerousFrom 400 (by decide +kernel) fl_X0_ok ip_cn0 (ip_cs1 (ip_gsV (m_X0_dangersOf l) (ip_in [337, 338, 339, 33, 340] (by decide +kernel) (by decide +kernel)) rfl ⟨by decide +kernel, by decide +kernel, by decide +kernel⟩ ⟨rfl, rfl, Nat.le_of_ble_eq_true rfl, Nat.le_of_ble_eq_true rfl⟩) (ip_cs0)) ck_X0_dangerousFrom rfl p_X0_dangerousFrom
def stp (a p b : Nat) : Nat := b - a + min (p - a) (b - p)
def wI (S : Nat → Nat) (p n a acc : Nat) : Nat → Nat
  | 0 => acc
  | j + 1 => if stp a p (p + j) < n then max (wI S p n a acc j) (dct S a (p + j)) else wI S p n a acc j
def wO (S : Nat → Nat) (p n : Nat) : Nat → Nat
  | 0 => 0
  | i + 1 => wI S p n i (wO S p n i) (S 2 - p)
def r_worst (S : Nat → Nat) (p n : Int32) : Int32 := if ¬ inI p (S 2) then -1 else if ¬ (0 ≤ n.toInt ∧ n.toInt ≤ 12) then -2 else nI (wO S (nt p) (nt n) (nt p + 1))
def C_X7_worst : ip_C := fun vs hp K => ∃ tc S G, ∃ p n : Int32, vs = [.ref 0, .int p, .int n] ∧ hp = hpC tc S G ∧ wfC S G ∧ K (some (.int (r_worst S p n))) hp
def cs_X7_worst : List ip_G := [(107, 2, 1, C_X0_hasParish), (164, 3, 0, C_X7_stepsOver), (167, 3, 1, C_X0_dangerousFrom), (171, 2, 0, C_J9_max)]
theorem dct_le (S : Nat → Nat) (a b : Nat) : dct S a b ≤ b + 1 := Nat.le_trans (fb_ct_le _ _) (by omega)
theorem wI_le {S : Nat → Nat} {p n a acc B : Nat} (hacc : acc ≤ B) : ∀ j, p + j ≤ B → wI S p n a acc j ≤ B
  | 0, _ => hacc
  | j + 1, h => by
    have ih := wI_le (S := S) (p := p) (n := n) (a := a) hacc j (by omega)
    have hd := dct_le S a (p + j)
    simp only [wI]
    split
    · omega
    · exact ih
theorem wO_le {S : Nat → Nat} {p n : Nat} (hp : p < S 2) : ∀ i, wO S p n i ≤ S 2
  | 0 => Nat.zero_le _
  | i + 1 => wI_le (wO_le hp i) _ (by omega)
def I_X7_worst (tc : Int32) (S : Nat → Nat) (G : Nat → Nat → Int32) (p n : Nat) : Nat → Nat → ip_P := fun pc k L st hp => (pc = 31 ∧ ∃ (i : Nat) (x y : Int32) (l5 : Option Value), i ≤ p + 1 ∧ k = (p + 1 - i) * 100 + 50 ∧ L = [some (.ref 0), some (.int (nI p)), some (.int (nI n)), some (.int x), some (.int y), l5] ∧ st = [] ∧ hp = hpC tc S G ∧ x = nI (wO S p n i) ∧ y = nI i) ∨
  (pc = 40 ∧ ∃ (i j : Nat) (x z : Int32), i ≤ p ∧ p + j ≤ S 2 ∧ k = (p + 1 - i) * 100 + 10 - j ∧ L = [some (.ref 0), some (.int (nI p)), some (.int (nI n)), some (.int x), some (.int (nI i)), some (.int z)] ∧ st = [] ∧ hp = hpC tc S G ∧ x = nI (wI S p n i (wO S p n i) j) ∧ z = nI (p + j))
set_option maxHeartbeats 4000000 in
theorem p_X7_worst : ip_Pf fl_X7 cn_X7 cs_X7_worst (some .int) tb_X7_worst 6 C_X7_worst := by
  rintro _ _ K ⟨tc, S, G, p, n, rfl, rfl, hwf, hK⟩
  have w2 := hwf.1.2.1
  refine ⟨Nat.le_of_ble_eq_true rfl, fun pc k L st hp => (inI p (S 2) ∧ 0 ≤ n.toInt ∧ n.toInt ≤ 12) ∧ I_X7_worst tc S G (nt p) (nt n) pc k L st hp, ?_, ?_⟩
  · refine Exists.intro tc ⟨S, G, p, rfl, rfl, w2, fun b hb => ?_⟩
    refine ip_bn (fun h => ?_) (fun h => ?_)
    · have hin : inI p (S 2) := hb.mp h
      rw [r_worst, if_neg (not_not_intro hin)] at hK
      refine bz_lt n.toInt 0 (fun h2 => ?_) (fun h2 => ?_)
      · rw [if_pos (by omega)] at hK; exact hK
      refine bz_le n.toInt 12 (fun h3 => ?_) (fun h3 => ?_)
      · obtain ⟨i, hi, rfl, ei⟩ := ti_of hin.1
        obtain ⟨j, hj, rfl, ej⟩ := ti_of h2
        rw [nt_n hi, nt_n hj]
        exact Exists.intro _ ⟨trivial, ⟨hin, h2, h3⟩, Or.inl ⟨rfl, 0, _, _, none, by omega, rfl, rfl, rfl, rfl, rfl, rfl⟩⟩
      · rw [if_pos (by omega)] at hK; exact hK
    · have hin : ¬ inI p (S 2) := fun z => by rw [hb.mpr z] at h; cases h
      rw [r_worst, if_pos hin] at hK
      exact hK
  · rintro pc k L st hp ⟨hpre, hI⟩
    obtain ⟨hin, h2, h3⟩ := id hpre
    rw [r_worst, if_neg (not_not_intro hin), if_neg (not_not_intro ⟨h2, h3⟩)] at hK
    obtain ⟨hpl, -⟩ := inI_nt hin
    have hnn : nt n ≤ 12 := by unfold nt; omega
    generalize nt p = p at hI hK hpl ⊢
    generalize nt n = n at hI hK hnn ⊢
    rcases hI with ⟨rfl, i, x, y, l5, hi, rfl, rfl, rfl, rfl, rfl, rfl⟩ | ⟨rfl, i, j, x, z, hi, hj, rfl, rfl, rfl, rfl, rfl, rfl⟩
    · refine pk_lt p i (fun h => ?_) (fun h => ?_)
      · obtain rfl : i = p + 1 := by omega
        exact hK
      · exact Exists.intro ((p + 1 - i) * 100 + 10 - 0) ⟨by show _ < _; omega, hpre, Or.inr ⟨rfl, i, 0, _, _, by omega, by omega, rfl, rfl, rfl, rfl, rfl, rfl⟩⟩
    · refine pk_le (S 2) (p + j) (fun h => ?_) (fun h => ?_)
      · refine Exists.intro ((p + 1 - (i + 1)) * 100 + 50) ⟨by show _ < _; omega, hpre, Or.inl ⟨rfl, i + 1, _, _, _, by omega, rfl, rfl, rfl, rfl, ?_, nI_1 i⟩⟩
        rw [wO, show S 2 - p = j by omega]
      · refine Exists.intro i ⟨p, p + j, by omega, by omega, by omega, rfl, ?_⟩
        have hst : stp i p (p + j) < 100 := by unfold stp; omega
        refine pk_le n (stp i p (p + j)) (fun h4 => ?_) (fun h4 => ?_)
        · refine Exists.intro ((p + 1 - i) * 100 + 10 - (j + 1)) ⟨by show _ < _; omega, hpre, Or.inr ⟨rfl, i, j + 1, _, _, by omega, by omega, rfl, rfl, rfl, rfl, ?_, nI_1 (p + j)⟩⟩
          simp only [wI]
          rw [if_neg (by omega)]
        · refine Exists.intro tc ⟨S, G, i, p + j, by omega, by omega, rfl, rfl, hwf.1, ?_⟩
          refine Exists.intro _ ⟨_, rfl, fun r hr => ?_⟩
          have b1 := wI_le (S := S) (p := p) (n := n) (a := i) (B := S 2) (wO_le (n := n) hpl i) j (by omega)
          have b2 := dct_le S i (p + j)
          rw [ti_n (by omega), ti_n (by omega)] at hr
          refine Exists.intro ((p + 1 - i) * 100 + 10 - (j + 1)) ⟨by show _ < _; omega, hpre, Or.inr ⟨rfl, i, j + 1, _, _, by omega, by omega, rfl, rfl, rfl, rfl, ?_, nI_1 (p + j)⟩⟩
          simp only [wI]
          rw [if_pos (by omega), fa_eq, hr, ti_n (by omega)]
          omega
set_option maxRecDepth 100000 in
set_option maxHeartbeats 4000000 in
theorem m_X7_worst (l : Launch) : ip_Met l yX7_worst cX7_worst 6 (some .int) (ip_rm 4) C_X7_worst := ip_met tb_X7_worst 400 (by decide +kernel) fl_X7_ok cn_X7_ok (ip_cs1 (ip_gsV (m_X0_hasParish l) (ip_in [303, 304, 305, 33, 306] (by decide +kernel) (by decide +kernel)) rfl ⟨by decide +kernel, by decide +kernel, by decide +kernel⟩ ⟨rfl, rfl, Nat.le_of_ble_eq_true rfl, Nat.le_of_ble_eq_true rfl⟩) (ip_cs1 (ip_gsS (m_X7_stepsOver l) (ip_in [443, 444, 32, 445] (by decide +kernel) (by decide +kernel)) ⟨by decide +kernel, by decide +kernel, by decide +kernel⟩ ⟨rfl, rfl, Nat.le_of_ble_eq_true rfl, Nat.le_of_ble_eq_true rfl⟩) (ip_cs1 (ip_gsV (m_X0_dangerousFrom l) (ip_in [447, 448, 449, 33, 450] (by decide +kernel) (by decide +kernel)) rfl ⟨by decide +kernel, by decide +kernel, by decide +kernel⟩ ⟨rfl, rfl, Nat.le_of_ble_eq_true rfl, Nat.le_of_ble_eq_true rfl⟩) (ip_cs1 (ip_gsMax (ip_in [451, 452, 41, 453] (by decide +kernel) (by decide +kernel)) ⟨Nat.le_of_ble_eq_true rfl, Nat.le_of_ble_eq_true rfl⟩) (ip_cs0))))) ck_X7_worst rfl p_X7_worst
end
section
/-! ===== least terms, odds, fair ===== -/
def euI : Nat → Nat × Nat → Nat × Nat
  | 0, x => x
  | n + 1, x => if x.2 = 0 then x else euI n (x.2, x.1 % x.2)
theorem euI_0 : ∀ (n h : Nat), euI n (h, 0) = (h, 0)
  | 0, _ => rfl
  | n + 1, h => by simp [euI]
theorem euI_s {n h l : Nat} (hl : l ≠ 0) : euI (n + 1) (h, l) = euI n (l, h % l) := by simp [euI, hl]
def C_X7_commonDivisor : ip_C := fun vs hp K => ∃ a b : Nat, a < 2 ^ 62 ∧ b < 2 ^ 62 ∧ vs = [.long (lN a), .long (lN b)] ∧ K (some (.long (lN (euI 100 (a, b)).1))) hp
def cs_X7_commonDivisor : List ip_G := []
def I_X7_commonDivisor (a b : Nat) (hp0 : ip_H) : Nat → Nat → ip_P := fun pc k L st hp => pc = 9 ∧ ∃ (t h l : Nat) (y : Int32) (l9 l10 : Option Value), t ≤ 100 ∧ k = 100 - t ∧ h < 2 ^ 62 ∧ l < 2 ^ 62 ∧ L = [some (.long (lN a)), none, some (.long (lN b)), none, some (.long (lN h)), none, some (.long (lN l)), none, some (.int y), l9, l10] ∧ st = [] ∧ hp = hp0 ∧ y = nI t ∧ euI (100 - t) (h, l) = euI 100 (a, b)
theorem p_X7_commonDivisor : ip_Pf fl_X7 cn_X7 cs_X7_commonDivisor (some .long) tb_X7_commonDivisor 11 C_X7_commonDivisor := by
  rintro _ hp0 K ⟨a, b, ha, hb, rfl, hK⟩
  refine ⟨Nat.le_of_ble_eq_true rfl, I_X7_commonDivisor a b hp0, ?_, ?_⟩
  · exact Exists.intro 100 ⟨trivial, rfl, 0, a, b, _, none, none, by omega, rfl, ha, hb, rfl, rfl, rfl, rfl, rfl⟩
  · rintro pc k L st hp ⟨rfl, t, h, l, y, l9, l10, ht, rfl, hh, hl, rfl, rfl, rfl, rfl, he⟩
    refine pk_le 100 t (fun h1 => ?_) (fun h1 => ?_)
    · obtain rfl : t = 100 := by omega
      rw [← he] at hK
      exact hK
    refine And.intro (fun h2 => ?_) (fun h2 => ?_)
    · have h2 := (lg_cmp_eq _ _).mp h2
      have hz : l = 0 := (pk_lEQ (a := l) (b := 0) (by omega) (by omega)).mp h2
      rw [hz, euI_0] at he
      rw [← he] at hK
      exact hK
    · have hz : l ≠ 0 := fun z => h2 ((lg_cmp_eq _ _).mpr (by rw [z]; rfl))
      refine And.intro (fun z => hz ((pk_lEQ (a := l) (b := 0) (by omega) (by omega)).mp z)) ?_
      have hr : lN h - lN h / lN l * lN l = lN (h % l) := pk_lRem (by omega) (by omega) (by omega)
      rw [hr]
      have hm : h % l < l := Nat.mod_lt _ (by omega)
      refine Exists.intro (100 - (t + 1)) ⟨by show _ < _; omega, rfl, t + 1, l, h % l, _, _, _, by omega, rfl, hl, by omega, rfl, rfl, rfl, nI_1 t, ?_⟩
      rw [← he, show 100 - t = (100 - (t + 1)) + 1 by omega, euI_s hz]
set_option maxRecDepth 100000 in
set_option maxHeartbeats 4000000 in
theorem m_X7_commonDivisor (l : Launch) : ip_Met l yX7_commonDivisor cX7_commonDivisor 11 (some .long) (ip_rm 0) C_X7_commonDivisor := ip_met tb_X7_commonDivisor 400 (by decide +kernel) fl_X7_ok cn_X7_ok (ip_cs0) ck_X7_commonDivisor rfl p_X7_commonDivisor
-- Euclid's way is short
def fibo : Nat → Nat
  | 0 => 0
  | 1 => 1
  | n + 2 => fibo n + fibo (n + 1)
theorem eu_gcd : ∀ (n h l : Nat), (euI n (h, l)).2 = 0 → (euI n (h, l)).1 = Nat.gcd h l
  | 0, h, l, e => by
    have e : l = 0 := e
    subst e
    simp [euI]
  | n + 1, h, l, e => by
    by_cases hl : l = 0
    · subst hl; rw [euI_0]; simp
    · rw [euI_s hl] at e ⊢
      rw [eu_gcd n l (h % l) e, Nat.gcd_comm l, ← Nat.gcd_rec, Nat.gcd_comm]
theorem eu_fib : ∀ (n h l : Nat), l ≤ h → (euI n (h, l)).2 ≠ 0 → fibo (n + 1) ≤ l ∧ fibo (n + 2) ≤ h
  | 0, h, l, hl, e => by
    have e : l ≠ 0 := e
    have e1 : fibo (0 + 1) = 1 := rfl
    have e2 : fibo (0 + 2) = 1 := rfl
    rw [e1, e2]
    omega
  | n + 1, h, l, hl, e => by
    by_cases hz : l = 0
    · subst hz; rw [euI_0] at e; exact absurd rfl e
    · rw [euI_s hz] at e
      have hm : h % l < l := Nat.mod_lt _ (by omega)
      obtain ⟨i1, i2⟩ := eu_fib n l (h % l) (by omega) e
      refine ⟨i2, ?_⟩
      have hd : h % l + l ≤ h := by
        have h1 := Nat.div_add_mod h l
        have h2 : 1 ≤ h / l := (Nat.one_le_div_iff (by omega)).mpr hl
        have h3 : l * 1 ≤ l * (h / l) := Nat.mul_le_mul_left l h2
        omega
      show fibo (n + 1) + fibo (n + 2) ≤ h
      omega
def fibP : Nat → Nat × Nat
  | 0 => (0, 1)
  | n + 1 => ((fibP n).2, (fibP n).1 + (fibP n).2)
theorem fibP_ok : ∀ n, fibP n = (fibo n, fibo (n + 1))
  | 0 => rfl
  | n + 1 => by rw [fibP, fibP_ok n]; rfl
theorem fib100 : 2 ^ 62 < (fibP 101).1 := by decide +kernel
theorem eu_100 {h l : Nat} (hl : l ≤ h) (hb : l < 2 ^ 62) : (euI 100 (h, l)).1 = Nat.gcd h l := by
  by_cases e : (euI 100 (h, l)).2 = 0
  · exact eu_gcd 100 h l e
  · obtain ⟨i1, -⟩ := eu_fib 100 h l hl e
    have h1 := fib100
    rw [fibP_ok] at h1
    have h1 : 2 ^ 62 < fibo 101 := h1
    have i1 : fibo 101 ≤ l := i1
    exact absurd i1 (by omega)
/-- a share in least terms -/
def lst2 (u d : Nat) (w : Nat) : Nat := (if w = 0 then u else d) / Nat.gcd u d
def C_X7_inLeastTerms : ip_C := fun vs hp K => ∃ u d w : Nat, u ≤ d ∧ 0 < d ∧ d < 2 ^ 62 ∧ w < 2 ∧ vs = [.long (lN u), .long (lN d), .int (nI w)] ∧ K (some (.long (lN (lst2 u d w)))) hp
def cs_X7_inLeastTerms : List ip_G := [(292, 2, 0, C_X7_commonDivisor)]
theorem p_X7_inLeastTerms : ip_Pf fl_X7 cn_X7 cs_X7_inLeastTerms (some .long) tb_X7_inLeastTerms 9 C_X7_inLeastTerms := ip_pf0 (by
  rintro _ hp K ⟨u, d, w, hud, hd, hb, hw, rfl, hK⟩
  refine ⟨Nat.le_of_ble_eq_true rfl, ?_⟩
  have hg : (euI 100 (d, u)).1 = Nat.gcd u d := by rw [eu_100 hud (by omega), Nat.gcd_comm]
  have hg0 : 0 < Nat.gcd u d := Nat.gcd_pos_of_pos_right u hd
  have hgl : Nat.gcd u d ≤ d := Nat.gcd_le_right u hd
  refine Exists.intro d ⟨u, hb, by omega, rfl, ?_⟩
  rw [hg]
  have hne : ¬ lN (Nat.gcd u d) = Int64.ofNat 0 := fun z => by
    have := (pk_lEQ (a := Nat.gcd u d) (b := 0) (by omega) (by omega)).mp z
    omega
  refine pk_ne w 0 (fun h => ?_) (fun h => ?_)
  · refine And.intro (fun _ => ?_) (fun h2 => absurd ((lg_cmp_eq _ _).mp h2) hne)
    refine And.intro hne ?_
    rw [pk_lDiv (by omega) hg0 (by omega)]
    rw [lst2, if_neg h] at hK
    exact hK
  · refine And.intro (fun _ => ?_) (fun h2 => absurd ((lg_cmp_eq _ _).mp h2) hne)
    refine And.intro hne ?_
    rw [pk_lDiv (by omega) hg0 (by omega)]
    rw [lst2, if_pos h] at hK
    exact hK)
set_option maxRecDepth 100000 in
set_option maxHeartbeats 4000000 in
theorem m_X7_inLeastTerms (l : Launch) : ip_Met l yX7_inLeastTerms cX7_inLeastTerms 9 (some .long) (ip_rm 1) C_X7_inLeastTerms := ip_met tb_X7_inLeastTerms 400 (by decide +kernel) fl_X7_ok cn_X7_ok (ip_cs1 (ip_gsS (m_X7_commonDivisor l) (ip_in [466, 467, 32, 468] (by decide +kernel) (by decide +kernel)) ⟨by decide +kernel, by decide +kernel, by decide +kernel⟩ ⟨rfl, rfl, Nat.le_of_ble_eq_true rfl, Nat.le_of_ble_eq_true rfl⟩) (ip_cs0)) ck_X7_inLeastTerms rfl p_X7_inLeastTerms
-- odds
def oddC (S : Nat → Nat) (p q : Nat) : Nat := fb_ct (fun aw => heldS S (fun m => S (50 + m) == p && aw.testBit m) q) (2 ^ S 3)
def r_odds (S : Nat → Nat) (p q w : Int32) : Int64 := if ¬ inI p (S 2) ∨ ¬ inI q 6 ∨ ¬ inI w 2 then -9223372036854775808 else lN (lst2 (oddC S (nt p) (nt q)) (2 ^ S 3) (nt w))
def C_X7_odds : ip_C := fun vs hp K => ∃ tc S G, ∃ p q w : Int32, vs = [.ref 0, .int p, .int q, .int w] ∧ hp = hpC tc S G ∧ wfC S G ∧ K (some (.long (r_odds S p q w))) hp
def cs_X7_odds : List ip_G := [(107, 2, 1, C_X0_hasParish), (110, 1, 0, C_X7_isQuestion), (176, 1, 0, C_X7_isWhich), (226, 2, 1, C_X0_menIn), (229, 2, 1, C_X0_dangersBy), (113, 2, 0, C_X7_holds), (191, 3, 0, C_X7_inLeastTerms)]
theorem and16 {a b : Nat} (ha : a < 16) : a &&& b < 16 := Nat.lt_of_le_of_lt (and_le a b) ha
def I_X7_odds (tc : Int32) (S : Nat → Nat) (G : Nat → Nat → Int32) (p q w : Nat) : Nat → Nat → ip_P := fun pc k L st hp => pc = 56 ∧ ∃ (t : Nat) (x y z : Int32), t ≤ 2 ^ S 3 ∧ k = 2 ^ S 3 - t ∧ z = nI (2 ^ S 3) ∧ L = [some (.ref 0), some (.int (nI p)), some (.int (nI q)), some (.int (nI w)), some (.int z), some (.int (nI (bs (S 3) (fun m => S (50 + m) == p)))), some (.int x), some (.int y)] ∧ st = [] ∧ hp = hpC tc S G ∧ x = nI (fb_ct (fun aw => heldS S (fun m => S (50 + m) == p && aw.testBit m) q) t) ∧ y = nI t
set_option maxHeartbeats 4000000 in
theorem p_X7_odds : ip_Pf fl_X7 cn_X7 cs_X7_odds (some .long) tb_X7_odds 8 C_X7_odds := by
  rintro _ _ K ⟨tc, S, G, p, q, w, rfl, rfl, hwf, hK⟩
  have w2 := hwf.1.2.1
  have w3 := hwf.1.2.2.1
  have hpow : 2 ^ S 3 ≤ 16 := Nat.pow_le_pow_right (n := 2) (by omega) w3
  have hpow0 : 0 < 2 ^ S 3 := Nat.pow_pos (by decide)
  refine ⟨Nat.le_of_ble_eq_true rfl, fun pc k L st hp => (inI p (S 2) ∧ inI q 6 ∧ inI w 2) ∧ I_X7_odds tc S G (nt p) (nt q) (nt w) pc k L st hp, ?_, ?_⟩
  · have lost : ¬ inI p (S 2) ∨ ¬ inI q 6 ∨ ¬ inI w 2 → K (some (.long (-9223372036854775808))) (hpC tc S G) := fun h => by rw [r_odds, if_pos h] at hK; exact hK
    clear hK
    refine Exists.intro tc ⟨S, G, p, rfl, rfl, w2, fun b hb => ?_⟩
    refine ip_bt (fun h => ?_) (fun h => ?_)
    · exact lost (Or.inl (fun z => by rw [hb.mpr z] at h; cases h))
    have hin1 : inI p (S 2) := hb.mp h
    refine Exists.intro q ⟨rfl, fun b2 hb2 => ?_⟩
    refine ip_bt (fun h2 => ?_) (fun h2 => ?_)
    · exact lost (Or.inr (Or.inl (fun z => by rw [hb2.mpr z] at h2; cases h2)))
    have hin2 : inI q 6 := hb2.mp h2
    refine Exists.intro w ⟨rfl, fun b3 hb3 => ?_⟩
    refine ip_bn (fun h3 => ?_) (fun h3 => ?_)
    rotate_left
    · exact lost (Or.inr (Or.inr (fun z => by rw [hb3.mpr z] at h3; cases h3)))
    have hin3 : inI w 2 := hb3.mp h3
    have hpre : inI p (S 2) ∧ inI q 6 ∧ inI w 2 := ⟨hin1, hin2, hin3⟩
    clear hb hb2 hb3 lost
    obtain ⟨i, hi, rfl, ei⟩ := ti_of hin1.1
    obtain ⟨j, hj, rfl, ej⟩ := ti_of hin2.1
    obtain ⟨l, hl, rfl, el⟩ := ti_of hin3.1
    rw [nt_n hi, nt_n hj, nt_n hl]
    have hs := sh1 ⟨S 3, by omega⟩
    simp only at hs
    refine Exists.intro tc ⟨S, G, i, hi, rfl, rfl, hwf.1, ?_⟩
    exact Exists.intro _ ⟨trivial, hpre, rfl, 0, _, _, _, by omega, rfl, hs, rfl, rfl, rfl, rfl, rfl⟩
  · rintro pc k L st hp ⟨hpre, hI⟩
    obtain ⟨hin1, hin2, hin3⟩ := id hpre
    rw [r_odds, if_neg (fun z => z.elim (fun y => y hin1) (fun z => z.elim (fun y => y hin2) (fun y => y hin3)))] at hK
    have l2 := (inI_nt hin2).1
    have l3 := (inI_nt hin3).1
    generalize nt p = p at hI hK ⊢
    generalize nt q = q at hI hK l2 ⊢
    generalize nt w = w at hI hK l3 ⊢
    obtain ⟨rfl, t, x, y, z, ht, rfl, rfl, rfl, rfl, rfl, rfl, rfl⟩ := hI
    refine pk_le (2 ^ S 3) t (fun h => ?_) (fun h => ?_)
    · obtain rfl : t = 2 ^ S 3 := by omega
      have hc : oddC S p q ≤ 2 ^ S 3 := fb_ct_le _ _
      refine Exists.intro (oddC S p q) ⟨2 ^ S 3, w, hc, hpow0, by omega, l3, (by show [Value.long (nI (oddC S p q)).toInt64, Value.long (nI (2 ^ S 3)).toInt64, Value.int (nI w)] = _; rw [nI_l (Nat.lt_of_le_of_lt hc (by omega)), nI_l (by omega)]), hK⟩
    · have ha : nI (bs (S 3) (fun m => S (50 + m) == p)) &&& nI t = nI (bs (S 3) (fun m => S (50 + m) == p) &&& t) := fa_and _ _
      refine Exists.intro tc ⟨S, G, bs (S 3) (fun m => S (50 + m) == p) &&& t, and16 (bs16 hwf.1 _), (by show [Value.ref 10, Value.int (nI (bs (S 3) (fun m => S (50 + m) == p)) &&& nI t)] = _; rw [ha]), rfl, hwf.1, ?_⟩
      refine Exists.intro (dgs S (fun m => (bs (S 3) (fun m => S (50 + m) == p) &&& t).testBit m)) ⟨q, dgs_lt S _, l2, rfl, ?_⟩
      have e : (dgs S (fun m => (bs (S 3) (fun m => S (50 + m) == p) &&& t).testBit m)).testBit q = !heldS S (fun m => S (50 + m) == p && t.testBit m) q := by
        rw [dgs_cong (p' := fun m => S (50 + m) == p && t.testBit m) (fun m hm => by rw [Nat.testBit_and, bs_bit]; simp [hm])]
        unfold dgs
        rw [bs_bit]
        simp [l2]
      rw [e]
      refine ip_bn (fun h3 => ?_) (fun h3 => ?_)
      · have h3 : heldS S (fun m => S (50 + m) == p && t.testBit m) q = false := by simpa using h3
        exact Exists.intro (2 ^ S 3 - (t + 1)) ⟨by show _ < _; omega, hpre, rfl, t + 1, _, _, _, by omega, rfl, rfl, rfl, rfl, rfl, by rw [fb_ct_succ, h3]; simp, nI_1 t⟩
      · have h3 : heldS S (fun m => S (50 + m) == p && t.testBit m) q = true := by simpa using h3
        exact Exists.intro (2 ^ S 3 - (t + 1)) ⟨by show _ < _; omega, hpre, rfl, t + 1, _, _, _, by omega, rfl, rfl, rfl, rfl, rfl, by rw [fb_ct_succ, h3, nI_1]; simp, nI_1 t⟩
set_option maxRecDepth 100000 in
set_option maxHeartbeats 4000000 in
theorem m_X7_odds (l : Launch) : ip_Met l yX7_odds cX7_odds 8 (some .long) (ip_rm 2) C_X7_odds := ip_met tb_X7_odds 400 (by decide +kernel) fl_X7_ok cn_X7_ok (ip_cs1 (ip_gsV (m_X0_hasParish l) (ip_in [303, 304, 305, 33, 306] (by decide +kernel) (by decide +kernel)) rfl ⟨by decide +kernel, by decide +kernel, by decide +kernel⟩ ⟨rfl, rfl, Nat.le_of_ble_eq_true rfl, Nat.le_of_ble_eq_true rfl⟩) (ip_cs1 (ip_gsS (m_X7_isQuestion l) (ip_in [315, 316, 32, 317] (by decide +kernel) (by decide +kernel)) ⟨by decide +kernel, by decide +kernel, by decide +kernel⟩ ⟨rfl, rfl, Nat.le_of_ble_eq_true rfl, Nat.le_of_ble_eq_true rfl⟩) (ip_cs1 (ip_gsS (m_X7_isWhich l) (ip_in [458, 459, 32, 460] (by decide +kernel) (by decide +kernel)) ⟨by decide +kernel, by decide +kernel, by decide +kernel⟩ ⟨rfl, rfl, Nat.le_of_ble_eq_true rfl, Nat.le_of_ble_eq_true rfl⟩) (ip_cs1 (ip_gsV (m_X0_menIn l) (ip_in [543, 342, 343, 33, 344] (by decide +kernel) (by decide +kernel)) rfl ⟨by decide +kernel, by decide +kernel, by decide +kernel⟩ ⟨rfl, rfl, Nat.le_of_ble_eq_true rfl, Nat.le_of_ble_eq_true rfl⟩) (ip_cs1 (ip_gsV (m_X0_dangersBy l) (ip_in [544, 346, 347, 33, 348] (by decide +kernel) (by decide +kernel)) rfl ⟨by decide +kernel, by decide +kernel, by decide +kernel⟩ ⟨rfl, rfl, Nat.le_of_ble_eq_true rfl, Nat.le_of_ble_eq_true rfl⟩) (ip_cs1 (ip_gsS (m_X7_holds l) (ip_in [318, 319, 32, 320] (by decide +kernel) (by decide +kernel)) ⟨by decide +kernel, by decide +kernel, by decide +kernel⟩ ⟨rfl, rfl, Nat.le_of_ble_eq_true rfl, Nat.le_of_ble_eq_true rfl⟩) (ip_cs1 (ip_gsS (m_X7_inLeastTerms l) (ip_in [463, 464, 32, 465] (by decide +kernel) (by decide +kernel)) ⟨by decide +kernel, by decide +kernel, by decide +kernel⟩ ⟨rfl, rfl, Nat.le_of_ble_eq_true rfl, Nat.le_of_ble_eq_true rfl⟩) (ip_cs0)))))))) ck_X7_odds rfl p_X7_odds
end
section
/-! ===== the text of a county: CountyText ===== -/
def isD1 (c : Int32) : Prop := 48 ≤ c.toInt ∧ c.toInt ≤ 54
def isD2 (f c : Int32) : Prop := 48 ≤ c.toInt ∧ c.toInt ≤ (if f.toInt = 54 then 51 else 57)
def C_X1_isFirstDigit : ip_C := fun vs hp K => ∃ c : Int32, vs = [.int c] ∧ ∀ b : Bool, (b = true ↔ isD1 c) → K (some (.int (ip_bi b))) hp
def cs_X1_isFirstDigit : List ip_G := []
theorem p_X1_isFirstDigit : ip_Pf fl_X1 [] cs_X1_isFirstDigit (some .boolean) tb_X1_isFirstDigit 1 C_X1_isFirstDigit := ip_pf0 (by
  rintro _ hp K ⟨c, rfl, hK⟩
  refine ⟨Nat.le_of_ble_eq_true rfl, ?_⟩
  refine bz_lt c.toInt 48 (fun h => ?_) (fun h => ?_)
  · exact And.intro rfl (hK false (by simp [isD1]; omega))
  refine bz_lt 54 c.toInt (fun h2 => ?_) (fun h2 => ?_)
  · exact And.intro rfl (hK false (by simp [isD1]; omega))
  · exact And.intro rfl (hK true (by simp [isD1]; omega)))
set_option maxRecDepth 100000 in
set_option maxHeartbeats 4000000 in
theorem m_X1_isFirstDigit (l : Launch) : ip_Met l yX1_isFirstDigit cX1_isFirstDigit 1 (some .boolean) (ip_rm 0) C_X1_isFirstDigit := ip_met tb_X1_isFirstDigit 400 (by decide +kernel) fl_X1_ok ip_cn0 (ip_cs0) ck_X1_isFirstDigit rfl p_X1_isFirstDigit
def C_X1_isSecondDigit : ip_C := fun vs hp K => ∃ f c : Int32, vs = [.int f, .int c] ∧ ∀ b : Bool, (b = true ↔ isD2 f c) → K (some (.int (ip_bi b))) hp
def cs_X1_isSecondDigit : List ip_G := []
theorem p_X1_isSecondDigit : ip_Pf fl_X1 [] cs_X1_isSecondDigit (some .boolean) tb_X1_isSecondDigit 2 C_X1_isSecondDigit := ip_pf0 (by
  rintro _ hp K ⟨f, c, rfl, hK⟩
  refine ⟨Nat.le_of_ble_eq_true rfl, ?_⟩
  refine bz_lt c.toInt 48 (fun h => ?_) (fun h => ?_)
  · exact And.intro rfl (hK false (by simp [isD2]; omega))
  refine bz_ne f.toInt 54 (fun h2 => ?_) (fun h2 => ?_)
  · refine bz_lt 57 c.toInt (fun h3 => ?_) (fun h3 => ?_)
    · exact And.intro rfl (hK false (by simp [isD2, h2]; omega))
    · exact And.intro rfl (hK true (by simp [isD2, h2]; omega))
  · refine bz_lt 51 c.toInt (fun h3 => ?_) (fun h3 => ?_)
    · exact And.intro rfl (hK false (by simp [isD2, h2]; omega))
    · exact And.intro rfl (hK true (by simp [isD2, h2]; omega)))
set_option maxRecDepth 100000 in
set_option maxHeartbeats 4000000 in
theorem m_X1_isSecondDigit (l : Launch) : ip_Met l yX1_isSecondDigit cX1_isSecondDigit 2 (some .boolean) (ip_rm 0) C_X1_isSecondDigit := ip_met tb_X1_isSecondDigit 400 (by decide +kernel) fl_X1_ok ip_cn0 (ip_cs0) ck_X1_isSecondDigit rfl p_X1_isSecondDigit
def kdB (c : Int32) : Nat := if c.toInt = 115 then 2 else if c.toInt = 98 then 1 else 0
def C_X1_kindBy : ip_C := fun vs hp K => ∃ c : Int32, vs = [.int c] ∧ K (some (.int (nI (kdB c)))) hp
def cs_X1_kindBy : List ip_G := []
theorem p_X1_kindBy : ip_Pf fl_X1 [] cs_X1_kindBy (some .int) tb_X1_kindBy 1 C_X1_kindBy := ip_pf0 (by
  rintro _ hp K ⟨c, rfl, hK⟩
  refine ⟨Nat.le_of_ble_eq_true rfl, ?_⟩
  refine bz_ne c.toInt 115 (fun h => ?_) (fun h => ?_)
  · refine bz_ne c.toInt 98 (fun h2 => ?_) (fun h2 => ?_)
    · rw [kdB, if_neg h, if_neg h2] at hK; exact hK
    · rw [kdB, if_neg h, if_pos h2] at hK; exact hK
  · rw [kdB, if_pos h] at hK; exact hK)
set_option maxRecDepth 100000 in
set_option maxHeartbeats 4000000 in
theorem m_X1_kindBy (l : Launch) : ip_Met l yX1_kindBy cX1_kindBy 1 (some .int) (ip_rm 0) C_X1_kindBy := ip_met tb_X1_kindBy 400 (by decide +kernel) fl_X1_ok ip_cn0 (ip_cs0) ck_X1_kindBy rfl p_X1_kindBy
/-- cell a of a sheet -/
def C_X1_setAt : ip_C := fun vs hp K => ∃ tc S G, ∃ k a : Nat, k < 4 ∧ a + 1 < S (30 + k) ∧ vs = [.ref (2 + 2 * k), .int (nI a)] ∧ hp = hpC tc S G ∧ wfH S ∧ K (some (.int ((G k a - 48) * 10 + G k (a + 1) - 48))) hp
def cs_X1_setAt : List ip_G := [(15, 2, 5, C_X5_valueAt)]
theorem p_X1_setAt : ip_Pf fl_X1 [] cs_X1_setAt (some .int) tb_X1_setAt 2 C_X1_setAt := ip_pf0 (by
  rintro _ _ K ⟨tc, S, G, k, a, hk, ha, rfl, rfl, hwh, hK⟩
  refine ⟨Nat.le_of_ble_eq_true rfl, ?_⟩
  have hz := (hwh k hk).2.2
  have p1 : vat S G k (nI a).toInt = G k a := by rw [ti_n (by omega), vat_in (by omega)]
  have p2 : vat S G k (nI a + 1).toInt = G k (a + 1) := by rw [nI_1, ti_n (by omega), vat_in (by omega)]
  rcases four hk with rfl | rfl | rfl | rfl
  all_goals
    refine Exists.intro tc ⟨S, G, _, _, hk, rfl, rfl, hwh, ?_⟩
    rw [p1]
    refine Exists.intro tc ⟨S, G, _, _, hk, rfl, rfl, hwh, ?_⟩
    rw [p2]
    exact hK)
set_option maxRecDepth 100000 in
set_option maxHeartbeats 4000000 in
theorem m_X1_setAt (l : Launch) : ip_Met l yX1_setAt cX1_setAt 2 (some .int) (ip_rm 2) C_X1_setAt := ip_met tb_X1_setAt 400 (by decide +kernel) fl_X1_ok ip_cn0 (ip_cs1 (ip_gsV (m_X5_valueAt l) (ip_in [255, 256, 257, 38, 258] (by decide +kernel) (by decide +kernel)) rfl ⟨by decide +kernel, by decide +kernel, by decide +kernel⟩ ⟨rfl, rfl, Nat.le_of_ble_eq_true rfl, Nat.le_of_ble_eq_true rfl⟩) (ip_cs0)) ck_X1_setAt rfl p_X1_setAt
/-- whether a text goes on with the code at place t, cells from a on -/
def mgo (c p3 prev : Int32) (r : Nat) : Prop := (r = 0 ∧ c.toInt = 44) ∨ (r = 1 ∧ (c.toInt = 109 ∨ c.toInt = 98 ∨ c.toInt = 115)) ∨ (r = 2 ∧ 48 ≤ c.toInt ∧ c.toInt < p3.toInt) ∨ (r = 3 ∧ isD1 c) ∨ (r = 4 ∧ isD2 prev c)
def C_X1_manGoesOn : ip_C := fun vs hp K => ∃ tc S G, ∃ (k a t : Nat) (c : Int32), k < 4 ∧ 4 ≤ t ∧ t < 24 ∧ a + t < S (30 + k) ∧ vs = [.ref (2 + 2 * k), .int (nI a), .int (nI t), .int c] ∧ hp = hpC tc S G ∧ wfH S ∧ ∀ b : Bool, (b = true ↔ mgo c (G k (a + 3)) (G k (a + t - 1)) ((t - 4) % 5)) → K (some (.int (ip_bi b))) hp
def cs_X1_manGoesOn : List ip_G := [(15, 2, 5, C_X5_valueAt), (25, 1, 0, C_X1_isFirstDigit), (29, 2, 0, C_X1_isSecondDigit)]
set_option maxHeartbeats 4000000 in
theorem p_X1_manGoesOn : ip_Pf fl_X1 [] cs_X1_manGoesOn (some .boolean) tb_X1_manGoesOn 4 C_X1_manGoesOn := ip_pf0 (by
  rintro _ _ K ⟨tc, S, G, k, a, t, c, hk, ht4, ht, hat, rfl, rfl, hwh, hK⟩
  refine ⟨Nat.le_of_ble_eq_true rfl, ?_⟩
  have hz := (hwh k hk).2.2
  have e3 : nI a + 3 = nI (a + 3) := nI_add a 3
  have et : nI a + nI t - 1 = nI (a + t - 1) := by rw [nI_add, show a + t = (a + t - 1) + 1 by omega, nI_pred]; rfl
  have p1 : vat S G k (nI a + 3).toInt = G k (a + 3) := by rw [e3, ti_n (by omega), vat_in (by omega)]
  have p2 : vat S G k (nI a + nI t - 1).toInt = G k (a + t - 1) := by rw [et, ti_n (by omega), vat_in (by omega)]
  have er : nI t - 4 - (nI t - 4) / 5 * 5 = nI ((t - 4) % 5) := by
    rw [show nI t - 4 = nI (t - 4) from pk_sub ht4]
    exact pk_rem (by omega) (by decide) (by decide)
  have hr : (t - 4) % 5 < 5 := Nat.mod_lt _ (by decide)
  have kT : mgo c (G k (a + 3)) (G k (a + t - 1)) ((t - 4) % 5) → K (some (.int 1)) (hpC tc S G) := fun h => hK true (by simp [h])
  have kF : ¬ mgo c (G k (a + 3)) (G k (a + t - 1)) ((t - 4) % 5) → K (some (.int 0)) (hpC tc S G) := fun h => hK false (by simp [h])
  have hsw : ∀ {X0 X1 X2 X3 X4 : Prop}, ((t - 4) % 5 = 0 → X0) → ((t - 4) % 5 = 1 → X1) → ((t - 4) % 5 = 2 → X2) → ((t - 4) % 5 = 3 → X3) → ((t - 4) % 5 = 4 → X4) →
      ((nI t - 4 - (nI t - 4) / 5 * 5).toInt = 0 → X0) ∧ ((nI t - 4 - (nI t - 4) / 5 * 5).toInt ≠ 0 → ((nI t - 4 - (nI t - 4) / 5 * 5).toInt = 0 + 1 → X1) ∧ ((nI t - 4 - (nI t - 4) / 5 * 5).toInt ≠ 0 + 1 → ((nI t - 4 - (nI t - 4) / 5 * 5).toInt = 0 + 1 + 1 → X2) ∧ ((nI t - 4 - (nI t - 4) / 5 * 5).toInt ≠ 0 + 1 + 1 → ((nI t - 4 - (nI t - 4) / 5 * 5).toInt = 0 + 1 + 1 + 1 → X3) ∧ ((nI t - 4 - (nI t - 4) / 5 * 5).toInt ≠ 0 + 1 + 1 + 1 → (((nI t - 4 - (nI t - 4) / 5 * 5).toInt < 0 + 1 + 1 + 1 + 1 ∨ 0 + 1 + 1 + 1 + 1 ≤ (nI t - 4 - (nI t - 4) / 5 * 5).toInt) → X4))))) := fun f0 f1 f2 f3 f4 => by
    rw [er, ti_n (by omega)]
    exact ⟨fun q => f0 (by omega), fun q0 => ⟨fun q => f1 (by omega), fun q1 => ⟨fun q => f2 (by omega), fun q2 => ⟨fun q => f3 (by omega), fun q3 _ => f4 (by omega)⟩⟩⟩⟩
  rcases four hk with rfl | rfl | rfl | rfl
  all_goals
    refine And.intro (by decide) ?_
    refine hsw (fun h => ?_) (fun h => ?_) (fun h => ?_) (fun h => ?_) (fun h => ?_)
    · rw [h] at kT kF
      refine bz_ne c.toInt 44 (fun h1 => ?_) (fun h1 => ?_)
      · exact And.intro rfl (kF (by simp [mgo, h1]))
      · exact And.intro rfl (kT (by simp [mgo, h1]))
    · rw [h] at kT kF
      refine bz_eq c.toInt 109 (fun h1 => ?_) (fun h1 => ?_)
      · exact And.intro rfl (kT (by simp [mgo, h1]))
      refine bz_eq c.toInt 98 (fun h2 => ?_) (fun h2 => ?_)
      · exact And.intro rfl (kT (by simp [mgo, h2]))
      refine bz_ne c.toInt 115 (fun h3 => ?_) (fun h3 => ?_)
      · exact And.intro rfl (kF (by simp [mgo, h1, h2, h3]))
      · exact And.intro rfl (kT (by simp [mgo, h3]))
    · rw [h] at kT kF
      refine bz_lt c.toInt 48 (fun h1 => ?_) (fun h1 => ?_)
      · exact And.intro rfl (kF (by simp [mgo]; omega))
      refine Exists.intro tc ⟨S, G, _, _, hk, rfl, rfl, hwh, ?_⟩
      rw [p1]
      refine bz_le _ c.toInt (fun h2 => ?_) (fun h2 => ?_)
      · exact And.intro rfl (kF (by simp [mgo]; omega))
      · exact And.intro rfl (kT (by simp [mgo]; omega))
    · rw [h] at kT kF
      refine Exists.intro c ⟨rfl, fun b hb => ?_⟩
      refine And.intro (ip_bnar b) ?_
      cases b with
      | false => exact kF (by simp [mgo]; intro q; have := hb.mpr q; cases this)
      | true => exact kT (by simp [mgo]; exact hb.mp rfl)
    · rw [h] at kT kF
      refine Exists.intro tc ⟨S, G, _, _, hk, rfl, rfl, hwh, ?_⟩
      rw [p2]
      refine Exists.intro _ ⟨c, rfl, fun b hb => ?_⟩
      refine And.intro (ip_bnar b) ?_
      cases b with
      | false => exact kF (by simp [mgo]; intro q; have := hb.mpr q; cases this)
      | true => exact kT (by simp [mgo]; exact hb.mp rfl))
set_option maxRecDepth 100000 in
set_option maxHeartbeats 4000000 in
theorem m_X1_manGoesOn (l : Launch) : ip_Met l yX1_manGoesOn cX1_manGoesOn 4 (some .boolean) (ip_rm 2) C_X1_manGoesOn := ip_met tb_X1_manGoesOn 400 (by decide +kernel) fl_X1_ok ip_cn0 (ip_cs1 (ip_gsV (m_X5_valueAt l) (ip_in [255, 256, 257, 38, 258] (by decide +kernel) (by decide +kernel)) rfl ⟨by decide +kernel, by decide +kernel, by decide +kernel⟩ ⟨rfl, rfl, Nat.le_of_ble_eq_true rfl, Nat.le_of_ble_eq_true rfl⟩) (ip_cs1 (ip_gsS (m_X1_isFirstDigit l) (ip_in [262, 263, 40, 264] (by decide +kernel) (by decide +kernel)) ⟨by decide +kernel, by decide +kernel, by decide +kernel⟩ ⟨rfl, rfl, Nat.le_of_ble_eq_true rfl, Nat.le_of_ble_eq_true rfl⟩) (ip_cs1 (ip_gsS (m_X1_isSecondDigit l) (ip_in [265, 266, 40, 267] (by decide +kernel) (by decide +kernel)) ⟨by decide +kernel, by decide +kernel, by decide +kernel⟩ ⟨rfl, rfl, Nat.le_of_ble_eq_true rfl, Nat.le_of_ble_eq_true rfl⟩) (ip_cs0)))) ck_X1_manGoesOn rfl p_X1_manGoesOn
end
section
/-! ===== goesOn, firstFault, settle, county ===== -/
noncomputable def dcd (P : Prop) : Bool := @decide P (Classical.propDecidable P)
theorem dcd_iff {P : Prop} : dcd P = true ↔ P := by unfold dcd; exact @decide_eq_true_iff P (Classical.propDecidable P)
theorem dcd_t {P : Prop} (h : P) : dcd P = true := dcd_iff.mpr h
theorem dcd_f {P : Prop} (h : ¬ P) : dcd P = false := by
  cases e : dcd P
  · rfl
  · exact absurd (dcd_iff.mp e) h
def goP (g : Nat → Int32) (a t : Nat) : Prop := (t = 0 ∧ (g a).toInt = 100) ∨ (t = 1 ∧ isD1 (g (a + 1))) ∨ (t = 2 ∧ isD2 (g (a + 1)) (g (a + 2))) ∨ (t = 3 ∧ 50 ≤ (g (a + 3)).toInt ∧ (g (a + 3)).toInt ≤ 54) ∨ (4 ≤ t ∧ t < 24 ∧ mgo (g (a + t)) (g (a + 3)) (g (a + t - 1)) ((t - 4) % 5))
def C_X1_goesOn : ip_C := fun vs hp K => ∃ tc S G, ∃ (k a t : Nat), k < 4 ∧ a + t < S (30 + k) ∧ vs = [.ref (2 + 2 * k), .int (nI a), .int (nI t)] ∧ hp = hpC tc S G ∧ wfH S ∧ ∀ b : Bool, (b = true ↔ goP (G k) a t) → K (some (.int (ip_bi b))) hp
def cs_X1_goesOn : List ip_G := [(15, 2, 5, C_X5_valueAt), (21, 4, 0, C_X1_manGoesOn), (25, 1, 0, C_X1_isFirstDigit), (29, 2, 0, C_X1_isSecondDigit)]
set_option maxHeartbeats 4000000 in
theorem p_X1_goesOn : ip_Pf fl_X1 [] cs_X1_goesOn (some .boolean) tb_X1_goesOn 4 C_X1_goesOn := ip_pf0 (by
  rintro _ _ K ⟨tc, S, G, k, a, t, hk, hat, rfl, rfl, hwh, hK⟩
  refine ⟨Nat.le_of_ble_eq_true rfl, ?_⟩
  have hz := (hwh k hk).2.2
  have p0 : vat S G k (nI a + nI t).toInt = G k (a + t) := by rw [nI_add, ti_n (by omega), vat_in (by omega)]
  have kT : goP (G k) a t → K (some (.int 1)) (hpC tc S G) := fun h => hK true (by simp [h])
  have kF : ¬ goP (G k) a t → K (some (.int 0)) (hpC tc S G) := fun h => hK false (by simp [h])
  have et := ti_n (n := t) (by omega)
  have hsw : t < 4 → ∀ {X0 X1 X2 X3 : Prop}, (t = 0 → X0) → (t = 1 → X1) → (t = 2 → X2) → (t = 3 → X3) →
      ((nI t).toInt = 0 → X0) ∧ ((nI t).toInt ≠ 0 → ((nI t).toInt = 0 + 1 → X1) ∧ ((nI t).toInt ≠ 0 + 1 → ((nI t).toInt = 0 + 1 + 1 → X2) ∧ ((nI t).toInt ≠ 0 + 1 + 1 → (((nI t).toInt < 0 + 1 + 1 + 1 ∨ 0 + 1 + 1 + 1 ≤ (nI t).toInt) → X3)))) := fun ht X0 X1 X2 X3 f0 f1 f2 f3 => by
    rw [et]
    exact ⟨fun q => f0 (by omega), fun q0 => ⟨fun q => f1 (by omega), fun q1 => ⟨fun q => f2 (by omega), fun q2 _ => f3 (by omega)⟩⟩⟩
  have p1 : t = 2 → vat S G k (nI a + 1).toInt = G k (a + 1) := fun h => by rw [nI_1, ti_n (by omega), vat_in (by omega)]
  rcases four hk with rfl | rfl | rfl | rfl
  all_goals
    refine Exists.intro tc ⟨S, G, _, _, hk, rfl, rfl, hwh, ?_⟩
    rw [p0]
    refine pk_lt t 4 (fun h => ?_) (fun h => ?_)
    · refine hsw h (fun h1 => ?_) (fun h1 => ?_) (fun h1 => ?_) (fun h1 => ?_)
      · subst h1
        refine bz_ne _ 100 (fun h2 => ?_) (fun h2 => ?_)
        · exact And.intro rfl (kF (by simp [goP]; exact h2))
        · exact And.intro rfl (kT (by simp [goP]; exact h2))
      · subst h1
        refine Exists.intro _ ⟨rfl, fun b hb => ?_⟩
        refine And.intro (ip_bnar b) ?_
        cases b with
        | false => exact kF (by simp [goP]; intro q; have := hb.mpr q; cases this)
        | true => exact kT (by simp [goP]; exact hb.mp rfl)
      · refine Exists.intro tc ⟨S, G, _, _, hk, rfl, rfl, hwh, ?_⟩
        rw [p1 h1]
        subst h1
        refine Exists.intro _ ⟨_, rfl, fun b hb => ?_⟩
        refine And.intro (ip_bnar b) ?_
        cases b with
        | false => exact kF (by simp [goP]; intro q; have := hb.mpr q; cases this)
        | true => exact kT (by simp [goP]; exact hb.mp rfl)
      · subst h1
        refine bz_lt _ 50 (fun h2 => ?_) (fun h2 => ?_)
        · exact And.intro rfl (kF (by simp [goP]; omega))
        refine bz_lt 54 _ (fun h3 => ?_) (fun h3 => ?_)
        · exact And.intro rfl (kF (by simp [goP]; omega))
        · exact And.intro rfl (kT (by simp [goP]; omega))
    · refine pk_le 24 t (fun h1 => ?_) (fun h1 => ?_)
      · exact And.intro rfl (kF (by unfold goP; omega))
      refine Exists.intro tc ⟨S, G, _, a, t, _, hk, h, h1, hat, rfl, rfl, hwh, fun b hb => ?_⟩
      refine ip_bt (fun h2 => ?_) (fun h2 => ?_)
      · refine And.intro rfl (kF (fun q => ?_))
        have hbt : b = true := hb.mpr (by
          rcases q with q | q | q | q | q
          · exact absurd q.1 (by omega)
          · exact absurd q.1 (by omega)
          · exact absurd q.1 (by omega)
          · exact absurd q.1 (by omega)
          · exact q.2.2)
        rw [hbt] at h2
        cases h2
      · exact And.intro rfl (kT (Or.inr (Or.inr (Or.inr (Or.inr ⟨h, h1, hb.mp h2⟩))))))
set_option maxRecDepth 100000 in
set_option maxHeartbeats 4000000 in
theorem m_X1_goesOn (l : Launch) : ip_Met l yX1_goesOn cX1_goesOn 4 (some .boolean) (ip_rm 3) C_X1_goesOn := ip_met tb_X1_goesOn 400 (by decide +kernel) fl_X1_ok ip_cn0 (ip_cs1 (ip_gsV (m_X5_valueAt l) (ip_in [255, 256, 257, 38, 258] (by decide +kernel) (by decide +kernel)) rfl ⟨by decide +kernel, by decide +kernel, by decide +kernel⟩ ⟨rfl, rfl, Nat.le_of_ble_eq_true rfl, Nat.le_of_ble_eq_true rfl⟩) (ip_cs1 (ip_gsS (m_X1_manGoesOn l) (ip_in [259, 260, 40, 261] (by decide +kernel) (by decide +kernel)) ⟨by decide +kernel, by decide +kernel, by decide +kernel⟩ ⟨rfl, rfl, Nat.le_of_ble_eq_true rfl, Nat.le_of_ble_eq_true rfl⟩) (ip_cs1 (ip_gsS (m_X1_isFirstDigit l) (ip_in [262, 263, 40, 264] (by decide +kernel) (by decide +kernel)) ⟨by decide +kernel, by decide +kernel, by decide +kernel⟩ ⟨rfl, rfl, Nat.le_of_ble_eq_true rfl, Nat.le_of_ble_eq_true rfl⟩) (ip_cs1 (ip_gsS (m_X1_isSecondDigit l) (ip_in [265, 266, 40, 267] (by decide +kernel) (by decide +kernel)) ⟨by decide +kernel, by decide +kernel, by decide +kernel⟩ ⟨rfl, rfl, Nat.le_of_ble_eq_true rfl, Nat.le_of_ble_eq_true rfl⟩) (ip_cs0))))) ck_X1_goesOn rfl p_X1_goesOn
noncomputable def ffR (g : Nat → Int32) (a n : Nat) : Int32 := match lst (fun t => !dcd (goP g a t)) n with
  | some t => nI t
  | none => if 9 ≤ n ∧ (n - 4) % 5 = 0 then -1 else nI n
def C_X1_firstFault : ip_C := fun vs hp K => ∃ tc S G, ∃ (k a n : Nat), k < 4 ∧ a + n ≤ S (30 + k) ∧ vs = [.ref (2 + 2 * k), .int (nI a), .int (nI n)] ∧ hp = hpC tc S G ∧ wfH S ∧ ((lst (fun t => !dcd (goP (G k) a t)) n = none → ∀ t, t < n → goP (G k) a t) → K (some (.int (ffR (G k) a n))) hp)
def cs_X1_firstFault : List ip_G := [(9, 3, 0, C_X1_goesOn)]
def I_X1_firstFault (tc : Int32) (S : Nat → Nat) (G : Nat → Nat → Int32) (k a n : Nat) : Nat → Nat → ip_P := fun pc kk L st hp => pc = 2 ∧ ∃ (t : Nat) (y : Int32), t ≤ n ∧ kk = n - t ∧ L = [some (.ref (2 + 2 * k)), some (.int (nI a)), some (.int (nI n)), some (.int y)] ∧ st = [] ∧ hp = hpC tc S G ∧ y = nI t ∧ ∀ i, i < t → goP (G k) a i
set_option maxHeartbeats 4000000 in
theorem p_X1_firstFault : ip_Pf fl_X1 [] cs_X1_firstFault (some .int) tb_X1_firstFault 4 C_X1_firstFault := by
  rintro _ _ K ⟨tc, S, G, k, a, n, hk, han, rfl, rfl, hwh, hK⟩
  have hz := (hwh k hk).2.2
  refine ⟨Nat.le_of_ble_eq_true rfl, I_X1_firstFault tc S G k a n, ?_, ?_⟩
  · exact Exists.intro n ⟨trivial, rfl, 0, _, by omega, rfl, rfl, rfl, rfl, rfl, fun i hi => absurd hi (by omega)⟩
  · rintro pc kk L st hp ⟨rfl, t, y, ht, rfl, rfl, rfl, rfl, rfl, hgo⟩
    refine pk_le n t (fun h => ?_) (fun h => ?_)
    · obtain rfl : t = n := by omega
      have e : lst (fun t => !dcd (goP (G k) a t)) t = none := lst_none (fun i hi => by rw [dcd_t (hgo i hi)]; rfl)
      have hK := hK (fun _ => hgo)
      rw [ffR, e] at hK
      refine pk_lt t 9 (fun h1 => ?_) (fun h1 => ?_)
      · refine And.intro (fun _ => ?_) (fun h2 => absurd rfl h2)
        have hK : K (some (.int (if 9 ≤ t ∧ (t - 4) % 5 = 0 then (-1 : Int32) else nI t))) (hpC tc S G) := hK
        rw [if_neg (by omega)] at hK
        exact hK
      · have er : nI t - 4 - (nI t - 4) / 5 * 5 = nI ((t - 4) % 5) := by
          rw [show nI t - 4 = nI (t - 4) from pk_sub (a := t) (b := 4) (by omega)]
          exact pk_rem (by omega) (by decide) (by decide)
        refine And.intro (by decide) ?_
        rw [er]
        have hr : (t - 4) % 5 < 5 := Nat.mod_lt _ (by decide)
        have hK : K (some (.int (if 9 ≤ t ∧ (t - 4) % 5 = 0 then (-1 : Int32) else nI t))) (hpC tc S G) := hK
        refine pk_ne ((t - 4) % 5) 0 (fun h2 => ?_) (fun h2 => ?_)
        · refine And.intro (fun _ => ?_) (fun h3 => absurd rfl h3)
          rw [if_neg (by omega)] at hK
          exact hK
        · refine And.intro (fun h3 => absurd h3 (by decide)) (fun _ => ?_)
          rw [if_pos ⟨h1, h2⟩] at hK
          exact hK
    · refine Exists.intro tc ⟨S, G, k, a, t, hk, by omega, rfl, rfl, hwh, fun b hb => ?_⟩
      refine ip_bn (fun h2 => ?_) (fun h2 => ?_)
      · exact Exists.intro (n - (t + 1)) ⟨by show _ < _; omega, rfl, t + 1, _, by omega, rfl, rfl, rfl, rfl, nI_1 t, fun i hi => by
          rcases Nat.lt_or_ge i t with q | q
          · exact hgo i q
          · obtain rfl : i = t := by omega
            exact hb.mp h2⟩
      · have hno : ¬ goP (G k) a t := fun z => by rw [hb.mpr z] at h2; cases h2
        have e : lst (fun t => !dcd (goP (G k) a t)) n = some t := lst_some (f := fun t => !dcd (goP (G k) a t)) (by simp only [dcd_f hno]; rfl) (fun i hi => by simp only [dcd_t (hgo i hi)]; rfl) h
        have hK := hK (fun z => by rw [e] at z; cases z)
        rw [ffR, e] at hK
        exact hK
set_option maxRecDepth 100000 in
set_option maxHeartbeats 4000000 in
theorem m_X1_firstFault (l : Launch) : ip_Met l yX1_firstFault cX1_firstFault 4 (some .int) (ip_rm 4) C_X1_firstFault := ip_met tb_X1_firstFault 400 (by decide +kernel) fl_X1_ok ip_cn0 (ip_cs1 (ip_gsS (m_X1_goesOn l) (ip_in [252, 253, 40, 254] (by decide +kernel) (by decide +kernel)) ⟨by decide +kernel, by decide +kernel, by decide +kernel⟩ ⟨rfl, rfl, Nat.le_of_ble_eq_true rfl, Nat.le_of_ble_eq_true rfl⟩) (ip_cs0)) ck_X1_firstFault rfl p_X1_firstFault
end
section
/-! ===== settle, county ===== -/
def sv (c1 c2 : Int32) : Nat := 10 * (nt c1 - 48) + (nt c2 - 48)
theorem sv_ok {c1 c2 : Int32} (h1 : isD1 c1) (h2 : isD2 c1 c2) : (c1 - 48) * 10 + c2 - 48 = nI (sv c1 c2) ∧ sv c1 c2 < 64 := by
  obtain ⟨a, ha, rfl, ea⟩ := ti_of (x := c1) (by have := h1.1; omega)
  obtain ⟨b, hb, rfl, eb⟩ := ti_of (x := c2) (by have := h2.1; omega)
  unfold isD1 at h1
  unfold isD2 at h2
  rw [ea] at h1
  rw [ea, eb] at h2
  have h48a : 48 ≤ a := by omega
  have h48b : 48 ≤ b := by omega
  unfold sv
  rw [nt_n ha, nt_n hb]
  have h2' : (a = 54 → b ≤ 51) ∧ b ≤ 57 := by
    by_cases h : (a : Int) = 54
    · rw [if_pos h] at h2; omega
    · rw [if_neg h] at h2; omega
  refine ⟨?_, by omega⟩
  rw [show nI a - 48 = nI (a - 48) from pk_sub h48a, show (10 : Int32) = nI 10 from rfl, pk_mul, nI_add, show nI ((a - 48) * 10 + b) - 48 = nI ((a - 48) * 10 + b - 48) from pk_sub (a := (a - 48) * 10 + b) (b := 48) (by omega)]
  congr 1
  omega
theorem dg_ok {c : Int32} {lo hi : Nat} (h1 : (48 : Int) ≤ c.toInt) : c - 48 = nI (nt c - 48) := by
  obtain ⟨a, ha, rfl, ea⟩ := ti_of (x := c) (by omega)
  rw [nt_n ha]
  exact pk_sub (a := a) (b := 48) (by omega)
/-- the county behind i men of the text that stands in g from a on -/
def stl (S : Nat → Nat) (g : Nat → Int32) (a m : Nat) : Nat → Nat → Nat
  | 0 => va_up (va_up (va_up S 1 (sv (g (a + 1)) (g (a + 2)))) 2 (nt (g (a + 3)) - 48)) 3 m
  | i + 1 => va_up (va_up (va_up (stl S g a m i) (40 + i) (kdB (g (a + 5 * i + 5)))) (50 + i) (nt (g (a + 5 * i + 6)) - 48)) (60 + i) (sv (g (a + 5 * i + 7)) (g (a + 5 * i + 8)))
theorem stl_out (S : Nat → Nat) (g : Nat → Int32) (a m : Nat) : ∀ i, i ≤ 4 → ∀ j, j ≠ 1 → j ≠ 2 → j ≠ 3 → (j < 40 ∨ 70 ≤ j) → stl S g a m i j = S j
  | 0, _, j, h1, h2, h3, _ => by simp only [stl, va_up]; rw [if_neg h3, if_neg h2, if_neg h1]
  | i + 1, hi, j, h1, h2, h3, h4 => by
    simp only [stl, va_up]
    rw [if_neg (by omega), if_neg (by omega), if_neg (by omega)]
    exact stl_out S g a m i (by omega) j h1 h2 h3 h4
theorem stl_123 (S : Nat → Nat) (g : Nat → Int32) (a m : Nat) : ∀ i, i ≤ 4 → stl S g a m i 1 = sv (g (a + 1)) (g (a + 2)) ∧ stl S g a m i 2 = nt (g (a + 3)) - 48 ∧ stl S g a m i 3 = m
  | 0, _ => ⟨rfl, rfl, rfl⟩
  | i + 1, hi => by
    have ih := stl_123 S g a m i (by omega)
    simp only [stl, va_up]
    rw [if_neg (by omega), if_neg (by omega), if_neg (by omega), if_neg (by omega), if_neg (by omega), if_neg (by omega), if_neg (by omega), if_neg (by omega), if_neg (by omega)]
    exact ih
theorem wfH_s {S : Nat → Nat} (h : wfH S) (g : Nat → Int32) (a m i : Nat) (hi : i ≤ 4) : wfH (stl S g a m i) := fun k hk => by
  rw [stl_out S g a m i hi (10 + k) (by omega) (by omega) (by omega) (by omega), stl_out S g a m i hi (20 + k) (by omega) (by omega) (by omega) (by omega), stl_out S g a m i hi (30 + k) (by omega) (by omega) (by omega) (by omega)]
  exact h k hk
def C_X1_settle : ip_C := fun vs hp K => ∃ tc S G, ∃ (k a m : Nat), k < 4 ∧ 1 ≤ m ∧ m ≤ 4 ∧ a + (4 + 5 * m) ≤ S (30 + k) ∧ vs = [.ref (2 + 2 * k), .int (nI a), .int (nI (4 + 5 * m)), .ref 10] ∧ hp = hpC tc S G ∧ wfH S ∧ (∀ t, t < 4 + 5 * m → goP (G k) a t) ∧ ∀ T, T = stl S (G k) a m m → K none (hpC tc T G)
def cs_X1_settle : List ip_G := [(33, 2, 0, C_X1_setAt), (15, 2, 5, C_X5_valueAt), (46, 2, 0, C_J9_min), (59, 1, 0, C_X1_kindBy)]
def I_X1_settle (tc : Int32) (S : Nat → Nat) (G : Nat → Nat → Int32) (k a m : Nat) : Nat → Nat → ip_P := fun pc kk L st hp => pc = 41 ∧ ∃ (i : Nat) (y : Int32) (l5 l6 : Option Value), i ≤ m ∧ kk = m - i ∧ L = [some (.ref (2 + 2 * k)), some (.int (nI a)), some (.int (nI (4 + 5 * m))), some (.ref 10), some (.int y), l5, l6] ∧ st = [] ∧ hp = hpC tc (stl S (G k) a m i) G ∧ y = nI i
theorem go_man {g : Nat → Int32} {a i t r : Nat} (h : goP g a t) (ht : t = 4 + 5 * i + r) (hr : r < 5) : mgo (g (a + t)) (g (a + 3)) (g (a + t - 1)) r := by
  rcases h with q | q | q | q | q
  · exact absurd q.1 (by omega)
  · exact absurd q.1 (by omega)
  · exact absurd q.1 (by omega)
  · exact absurd q.1 (by omega)
  · have e : (t - 4) % 5 = r := by omega
    rw [e] at q
    exact q.2.2
theorem mgo_2 {c p3 prev : Int32} (h : mgo c p3 prev 2) : 48 ≤ c.toInt ∧ c.toInt < p3.toInt := by
  rcases h with q | q | q | q | q
  · exact absurd q.1 (by decide)
  · exact absurd q.1 (by decide)
  · exact q.2
  · exact absurd q.1 (by decide)
  · exact absurd q.1 (by decide)
theorem mgo_3 {c p3 prev : Int32} (h : mgo c p3 prev 3) : isD1 c := by
  rcases h with q | q | q | q | q
  · exact absurd q.1 (by decide)
  · exact absurd q.1 (by decide)
  · exact absurd q.1 (by decide)
  · exact q.2
  · exact absurd q.1 (by decide)
theorem mgo_4 {c p3 prev : Int32} (h : mgo c p3 prev 4) : isD2 prev c := by
  rcases h with q | q | q | q | q
  · exact absurd q.1 (by decide)
  · exact absurd q.1 (by decide)
  · exact absurd q.1 (by decide)
  · exact absurd q.1 (by decide)
  · exact q.2
set_option maxHeartbeats 8000000 in
theorem pa_X1_settle {tc : Int32} {S : Nat → Nat} {G : Nat → Nat → Int32} {k a m : Nat} {K : ip_K} (hk : k < 4) (hm1 : 1 ≤ m) (hm4 : m ≤ 4) (ham : a + (4 + 5 * m) ≤ S (30 + k)) (hwh : wfH S) (hgo : ∀ t, t < 4 + 5 * m → goP (G k) a t) : ip_wp fl_X1 [] cs_X1_settle none tb_X1_settle (I_X1_settle tc S G k a m) K 400 none false tb_X1_settle (ip_L0 7 [.ref (2 + 2 * k), .int (nI a), .int (nI (4 + 5 * m)), .ref 10]) [] (hpC tc S G) := by
  have hz := (hwh k hk).2.2
  have g1 : isD1 (G k (a + 1)) := by
    rcases hgo 1 (by omega) with q | q | q | q | q
    · exact absurd q.1 (by decide)
    · exact q.2
    · exact absurd q.1 (by decide)
    · exact absurd q.1 (by decide)
    · exact absurd q.1 (by decide)
  have g2 : isD2 (G k (a + 1)) (G k (a + 2)) := by
    rcases hgo 2 (by omega) with q | q | q | q | q
    · exact absurd q.1 (by decide)
    · exact absurd q.1 (by decide)
    · exact q.2
    · exact absurd q.1 (by decide)
    · exact absurd q.1 (by decide)
  have g3 : 50 ≤ (G k (a + 3)).toInt ∧ (G k (a + 3)).toInt ≤ 54 := by
    rcases hgo 3 (by omega) with q | q | q | q | q
    · exact absurd q.1 (by decide)
    · exact absurd q.1 (by decide)
    · exact absurd q.1 (by decide)
    · exact q.2
    · exact absurd q.1 (by decide)
  obtain ⟨s1, s2⟩ := sv_ok g1 g2
  obtain ⟨T, hT⟩ : ∃ T, T = sv (G k (a + 1)) (G k (a + 2)) := ⟨_, rfl⟩
  rw [← hT] at s1
  have d3 : G k (a + 3) - 48 = nI (nt (G k (a + 3)) - 48) := dg_ok (lo := 0) (hi := 0) (by omega)
  have e3 : nI a + 3 = nI (a + 3) := nI_add a 3
  have p3 : vat (va_up S 1 T) G k (nI a + 3).toInt = G k (a + 3) := by
    rw [e3, ti_n (by omega)]
    exact vat_in (by show a + 3 < va_up S 1 _ (30 + k); simp only [va_up]; rw [if_neg (by omega)]; omega)
  have w1 : wfH (va_up S 1 T) := fun j hj => by
    have e : ∀ i, i ≠ 1 → va_up S 1 T i = S i := fun i hi => by simp only [va_up]; rw [if_neg hi]
    rw [e _ (by omega), e _ (by omega), e _ (by omega)]; exact hwh j hj
  have ediv : (nI (4 + 5 * m) - 4) / 5 = nI m := by
    rw [show nI (4 + 5 * m) - 4 = nI (4 + 5 * m - 4) from pk_sub (a := 4 + 5 * m) (b := 4) (by omega)]
    rw [show (5 : Int32) = nI 5 from rfl, pk_div (by omega) (by decide) (by decide)]
    congr 1
    omega
  have em := ti_n (n := m) (by omega)
  have t4 : (4 : Int32).toInt = 4 := by decide
  have ha1 : nI a + 1 = nI (a + 1) := nI_1 a
  have haS : a + 1 + 1 < S (30 + k) := by omega
  rcases four hk with rfl | rfl | rfl | rfl
  all_goals
    refine Exists.intro tc ⟨S, G, _, a + 1, hk, haS, (by show [Value.ref _, Value.int (nI a + 1)] = _; rw [ha1]), rfl, hwh, ?_⟩
    rw [s1]
    refine Exists.intro tc ⟨va_up S 1 T, G, _, _, hk, rfl, rfl, w1, ?_⟩
    rw [p3]
    refine And.intro (by decide) ?_
    rw [d3, ediv]
    refine Exists.intro _ ⟨_, rfl, fun r hr => ?_⟩
    have er : r = nI m := by rw [fa_eq, hr, em, t4]; omega
    subst er
    subst hT
    exact Exists.intro m ⟨trivial, rfl, 0, _, none, none, Nat.zero_le _, rfl, rfl, rfl, rfl, rfl⟩

set_option maxHeartbeats 8000000 in
theorem pb_X1_settle {tc : Int32} {S : Nat → Nat} {G : Nat → Nat → Int32} {k a m : Nat} {K : ip_K} (hk : k < 4) (hm1 : 1 ≤ m) (hm4 : m ≤ 4) (ham : a + (4 + 5 * m) ≤ S (30 + k)) (hwh : wfH S) (hgo : ∀ t, t < 4 + 5 * m → goP (G k) a t) (hK : K none (hpC tc (stl S (G k) a m m) G)) : ∀ (pc kk : Nat) (L : ip_L) (st : List Value) (hp : ip_H), I_X1_settle tc S G k a m pc kk L st hp → ip_wp fl_X1 [] cs_X1_settle none tb_X1_settle (I_X1_settle tc S G k a m) K 400 (some kk) true (ip_find pc tb_X1_settle) L st hp := by
  have hz := (hwh k hk).2.2
  rintro pc kk L st hp ⟨rfl, i, y, l5, l6, hi, rfl, rfl, rfl, rfl, rfl⟩
  have e3 := (stl_123 S (G k) a m i (by omega)).2.2
  have hbr : ∀ {X Y : Prop}, (m ≤ i → X) → (i < m → Y) → (nI (stl S (G k) a m i 3) ≤ nI i → X) ∧ (¬ nI (stl S (G k) a m i 3) ≤ nI i → Y) := fun f g => by rw [e3]; exact pk_le m i f g
  have fin : m ≤ i → K none (hpC tc (stl S (G k) a m i) G) := fun h => by
    obtain rfl : i = m := by omega
    exact hK
  refine hbr (fun h => fin h) (fun h => ?_)
  have hi4 : i < 4 := by omega
  have eL : nI a + 4 + nI i * 5 + 1 = nI (a + 5 * i + 5) := by
    rw [show (4 : Int32) = nI 4 from rfl, nI_add, show (5 : Int32) = nI 5 from rfl, pk_mul, nI_add, nI_1]
    congr 1
    omega
  have ws : ∀ S', (∀ j, j < 40 → S' j = stl S (G k) a m i j) → wfH S' ∧ S' (30 + k) = S (30 + k) := fun S' hS' => by
    have hw := wfH_s hwh (G k) a m i (by omega)
    refine ⟨fun j hj => ?_, ?_⟩
    · rw [hS' _ (by omega), hS' _ (by omega), hS' _ (by omega)]; exact hw j hj
    · rw [hS' _ (by omega), stl_out S (G k) a m i (by omega) (30 + k) (by omega) (by omega) (by omega) (by omega)]
  have r2 := mgo_2 (go_man (i := i) (hgo (4 + 5 * i + 2) (by omega)) rfl (by decide))
  have r3 := mgo_3 (go_man (i := i) (hgo (4 + 5 * i + 3) (by omega)) rfl (by decide))
  have r4 := mgo_4 (go_man (i := i) (hgo (4 + 5 * i + 4) (by omega)) rfl (by decide))
  rw [show a + (4 + 5 * i + 2) = a + 5 * i + 6 by omega] at r2
  rw [show a + (4 + 5 * i + 3) = a + 5 * i + 7 by omega] at r3
  rw [show a + (4 + 5 * i + 4) - 1 = a + 5 * i + 7 by omega, show a + (4 + 5 * i + 4) = a + 5 * i + 8 by omega] at r4
  obtain ⟨u1, u2⟩ := sv_ok r3 r4
  have d6 : G k (a + 5 * i + 6) - 48 = nI (nt (G k (a + 5 * i + 6)) - 48) := dg_ok (lo := 0) (hi := 0) r2.1
  have val : ∀ S' (j : Nat), (∀ j, j < 40 → S' j = stl S (G k) a m i j) → j < S (30 + k) → vat S' G k (nI j).toInt = G k j := fun S' j hS' hj => by
    rw [ti_n (by omega)]
    exact vat_in (by rw [(ws S' hS').2]; exact hj)
  have hn : ∀ (y : Int32) (l5 l6 : Option Value) (KD PL LI : Nat), KD = kdB (G k (a + 5 * i + 5)) → PL = nt (G k (a + 5 * i + 6)) - 48 → LI = sv (G k (a + 5 * i + 7)) (G k (a + 5 * i + 8)) → y = nI (i + 1) → ∃ kk, ip_lt kk (some (m - i)) ∧ I_X1_settle tc S G k a m 41 kk [some (.ref (2 + 2 * k)), some (.int (nI a)), some (.int (nI (4 + 5 * m))), some (.ref 10), some (.int y), l5, l6] [] (hpC tc (va_up (va_up (va_up (stl S (G k) a m i) (40 + i) KD) (50 + i) PL) (60 + i) LI) G) := fun y l5 l6 KD PL LI h1 h2 h3 hy => by
    subst h1 h2 h3
    exact ⟨m - (i + 1), by show _ < _; omega, rfl, i + 1, y, l5, l6, by omega, rfl, rfl, rfl, rfl, hy⟩
  have h9 : nI i + 1 = nI (i + 1) := nI_1 i
  have hin : vp_in (nI i) 4 := pk_in i 4 hi4
  obtain ⟨KD, hKD⟩ : ∃ x, x = kdB (G k (a + 5 * i + 5)) := ⟨_, rfl⟩
  obtain ⟨PL, hPL⟩ : ∃ x, x = nt (G k (a + 5 * i + 6)) - 48 := ⟨_, rfl⟩
  obtain ⟨LI, hLI⟩ : ∃ x, x = sv (G k (a + 5 * i + 7)) (G k (a + 5 * i + 8)) := ⟨_, rfl⟩
  rw [← hLI] at u1
  rw [← hPL] at d6
  have f6 : ∀ j, j < 40 → va_up (stl S (G k) a m i) (40 + i) KD j = stl S (G k) a m i j := fun j hj => by simp only [va_up]; rw [if_neg (by omega)]
  have f7 : ∀ j, j < 40 → va_up (va_up (stl S (G k) a m i) (40 + i) KD) (50 + i) PL j = stl S (G k) a m i j := fun j hj => by simp only [va_up]; rw [if_neg (by omega), if_neg (by omega)]
  have q5 : vat (stl S (G k) a m i) G k (nI a + 4 + nI i * 5 + 1).toInt = G k (a + 5 * i + 5) := by rw [eL]; exact val _ _ (fun _ _ => rfl) (by omega)
  have l6' : nI a + 4 + nI i * 5 + 1 + 1 = nI (a + 5 * i + 6) := by rw [eL]; exact nI_1 _
  have l7' : nI a + 4 + nI i * 5 + 1 + 2 = nI (a + 5 * i + 7) := by rw [eL]; exact nI_add (a + 5 * i + 5) 2
  have q6 : vat (va_up (stl S (G k) a m i) (40 + i) KD) G k (nI a + 4 + nI i * 5 + 1 + 1).toInt = G k (a + 5 * i + 6) := by rw [l6']; exact val _ _ f6 (by omega)
  have v5 := (ws (stl S (G k) a m i) (fun _ _ => rfl)).1
  have v6 := (ws _ f6).1
  have v7 := (ws _ f7).1
  have z7 : a + 5 * i + 7 + 1 < va_up (va_up (stl S (G k) a m i) (40 + i) KD) (50 + i) PL (30 + k) := by rw [(ws _ f7).2]; omega
  have hn : ∀ (y : Int32) (l5 l6 : Option Value), y = nI (i + 1) → _ := fun y l5 l6 => hn y l5 l6 KD PL LI hKD hPL hLI
  clear hPL hLI hgo hK fin r2 r3 r4
  clear ws val f6 f7 hbr e3 eL l6' hz
  generalize stl S (G k) a m i = T at hn q5 q6 v5 v6 v7 z7 ⊢
  rcases four hk with rfl | rfl | rfl | rfl
  all_goals
    rcases four hi4 with rfl | rfl | rfl | rfl
    all_goals
      refine And.intro hin ?_
      refine Exists.intro tc ⟨T, G, _, _, hk, rfl, rfl, v5, ?_⟩
      rw [q5]
      refine Exists.intro _ ⟨rfl, ?_⟩
      rw [← hKD]
      refine Exists.intro tc ⟨va_up T _ KD, G, _, _, hk, rfl, rfl, v6, ?_⟩
      rw [q6]
      refine Exists.intro tc ⟨va_up (va_up T _ KD) _ PL, G, _, _, hk, z7, (by show [Value.ref _, Value.int (nI a + 4 + nI _ * 5 + 1 + 2)] = _; rw [l7']), (by rw [d6]; rfl), v7, ?_⟩
      rw [u1, d6]
      exact hn _ _ _ h9

theorem p_X1_settle : ip_Pf fl_X1 [] cs_X1_settle none tb_X1_settle 7 C_X1_settle := by
  rintro _ _ K ⟨tc, S, G, k, a, m, hk, hm1, hm4, ham, rfl, rfl, hwh, hgo, hK⟩
  exact ⟨Nat.le_of_ble_eq_true rfl, I_X1_settle tc S G k a m, pa_X1_settle hk hm1 hm4 ham hwh hgo, pb_X1_settle hk hm1 hm4 ham hwh hgo (hK _ rfl)⟩
set_option maxRecDepth 100000 in
set_option maxHeartbeats 4000000 in
theorem m_X1_settle (l : Launch) : ip_Met l yX1_settle cX1_settle 7 none (ip_rm 3) C_X1_settle := ip_met tb_X1_settle 400 (by decide +kernel) fl_X1_ok ip_cn0 (ip_cs1 (ip_gsS (m_X1_setAt l) (ip_in [271, 272, 40, 273] (by decide +kernel) (by decide +kernel)) ⟨by decide +kernel, by decide +kernel, by decide +kernel⟩ ⟨rfl, rfl, Nat.le_of_ble_eq_true rfl, Nat.le_of_ble_eq_true rfl⟩) (ip_cs1 (ip_gsV (m_X5_valueAt l) (ip_in [255, 256, 257, 38, 258] (by decide +kernel) (by decide +kernel)) rfl ⟨by decide +kernel, by decide +kernel, by decide +kernel⟩ ⟨rfl, rfl, Nat.le_of_ble_eq_true rfl, Nat.le_of_ble_eq_true rfl⟩) (ip_cs1 (ip_gsMin (ip_in [274, 275, 41, 276] (by decide +kernel) (by decide +kernel)) ⟨Nat.le_of_ble_eq_true rfl, Nat.le_of_ble_eq_true rfl⟩) (ip_cs1 (ip_gsS (m_X1_kindBy l) (ip_in [277, 278, 40, 279] (by decide +kernel) (by decide +kernel)) ⟨by decide +kernel, by decide +kernel, by decide +kernel⟩ ⟨rfl, rfl, Nat.le_of_ble_eq_true rfl, Nat.le_of_ble_eq_true rfl⟩) (ip_cs0))))) ck_X1_settle rfl p_X1_settle
end
section
/-! ===== the reference: hpM, its cells; R: its numbers (by field), N: its rows (by address) ===== -/
def hpM (R : Nat → Int32) (N : Nat → Nat → Int32) : ip_H := [
  .inr (7, [.int (R 0), .int (R 1), .ref 1, .ref 2, .ref 3, .int (R 5), .int (R 6), .int (R 7), .ref 4, .ref 5, .ref 6, .int (R 11), .int (R 12), .int (R 13), .int (R 14), .int (R 15), .ref 7, .int (R 17), .ref 8, .ref 9, .ref 10, .ref 11, .ref 12, .ref 13, .int (R 24), .ref 14, .ref 15, .ref 16]),
  .inl (0, 4, .inl (N 1)), .inl (0, 4, .inl (N 2)), .inl (0, 240, .inl (N 3)), .inl (0, 4, .inl (N 4)), .inl (0, 4, .inl (N 5)), .inl (0, 4, .inl (N 6)), .inl (0, 12, .inl (N 7)), .inl (0, 20, .inl (N 8)), .inl (0, 20, .inl (N 9)), .inl (0, 4, .inl (N 10)), .inl (0, 4, .inl (N 11)), .inl (1, 384, .inl (N 12)), .inl (1, 384, .inl (N 13)), .inl (0, 8, .inl (N 14)), .inl (0, 8, .inl (N 15)), .inl (1, 8, .inl (N 16))]
theorem iff_f {P : Prop} (h : ¬ P) : (false = true ↔ P) := ⟨fun z => (by cases z), fun z => absurd z h⟩
theorem iff_t {P : Prop} (h : P) : (true = true ↔ P) := ⟨fun _ => h, fun _ => rfl⟩
def C_X8_within : ip_C := fun vs hp K => ∃ v l m : Int32, vs = [.int v, .int l, .int m] ∧ ∀ b : Bool, (b = true ↔ l.toInt ≤ v.toInt ∧ v.toInt ≤ m.toInt) → K (some (.int (ip_bi b))) hp
def cs_X8_within : List ip_G := []
theorem p_X8_within : ip_Pf fl_X8 cn_X8 cs_X8_within (some .boolean) tb_X8_within 3 C_X8_within := ip_pf0 (by
  rintro _ hp K ⟨v, l, m, rfl, hK⟩
  refine ⟨Nat.le_of_ble_eq_true rfl, ?_⟩
  refine bz_lt v.toInt l.toInt (fun h => ?_) (fun h => ?_)
  · exact And.intro rfl (hK false (by simp; omega))
  refine bz_lt m.toInt v.toInt (fun h2 => ?_) (fun h2 => ?_)
  · exact And.intro rfl (hK false (by simp; omega))
  · exact And.intro rfl (hK true (by simp; omega)))
set_option maxRecDepth 100000 in
set_option maxHeartbeats 4000000 in
theorem m_X8_within (l : Launch) : ip_Met l yX8_within cX8_within 3 (some .boolean) (ip_rm 0) C_X8_within := ip_met tb_X8_within 400 (by decide +kernel) fl_X8_ok cn_X8_ok (ip_cs0) ck_X8_within rfl p_X8_within
def C_X8_isSheet : ip_C := fun vs hp K => ∃ v : Int32, vs = [.int v] ∧ ∀ b : Bool, (b = true ↔ inI v 4) → K (some (.int (ip_bi b))) hp
def cs_X8_isSheet : List ip_G := [(65, 3, 0, C_X8_within)]
theorem p_X8_isSheet : ip_Pf fl_X8 cn_X8 cs_X8_isSheet (some .boolean) tb_X8_isSheet 1 C_X8_isSheet := ip_pf0 (by
  rintro _ hp K ⟨v, rfl, hK⟩
  refine ⟨Nat.le_of_ble_eq_true rfl, ?_⟩
  refine Exists.intro v ⟨0, 3, rfl, fun b hb => ?_⟩
  have t0 : (0 : Int32).toInt = 0 := by decide
  have t3 : (3 : Int32).toInt = 3 := by decide
  rw [t0, t3] at hb
  exact And.intro (ip_bnar b) (hK b (by rw [hb]; unfold inI; omega)))
set_option maxRecDepth 100000 in
set_option maxHeartbeats 4000000 in
theorem m_X8_isSheet (l : Launch) : ip_Met l yX8_isSheet cX8_isSheet 1 (some .boolean) (ip_rm 1) C_X8_isSheet := ip_met tb_X8_isSheet 400 (by decide +kernel) fl_X8_ok cn_X8_ok (ip_cs1 (ip_gsS (m_X8_within l) (ip_in [716, 717, 39, 718] (by decide +kernel) (by decide +kernel)) ⟨by decide +kernel, by decide +kernel, by decide +kernel⟩ ⟨rfl, rfl, Nat.le_of_ble_eq_true rfl, Nat.le_of_ble_eq_true rfl⟩) (ip_cs0)) ck_X8_isSheet rfl p_X8_isSheet
def C_X8_isSort : ip_C := fun vs hp K => ∃ v : Int32, vs = [.int v] ∧ ∀ b : Bool, (b = true ↔ inI v 3) → K (some (.int (ip_bi b))) hp
def cs_X8_isSort : List ip_G := [(65, 3, 0, C_X8_within)]
theorem p_X8_isSort : ip_Pf fl_X8 cn_X8 cs_X8_isSort (some .boolean) tb_X8_isSort 1 C_X8_isSort := ip_pf0 (by
  rintro _ hp K ⟨v, rfl, hK⟩
  refine ⟨Nat.le_of_ble_eq_true rfl, ?_⟩
  refine Exists.intro v ⟨0, 2, rfl, fun b hb => ?_⟩
  have t0 : (0 : Int32).toInt = 0 := by decide
  have t3 : (2 : Int32).toInt = 2 := by decide
  rw [t0, t3] at hb
  exact And.intro (ip_bnar b) (hK b (by rw [hb]; unfold inI; omega)))
set_option maxRecDepth 100000 in
set_option maxHeartbeats 4000000 in
theorem m_X8_isSort (l : Launch) : ip_Met l yX8_isSort cX8_isSort 1 (some .boolean) (ip_rm 1) C_X8_isSort := ip_met tb_X8_isSort 400 (by decide +kernel) fl_X8_ok cn_X8_ok (ip_cs1 (ip_gsS (m_X8_within l) (ip_in [716, 717, 39, 718] (by decide +kernel) (by decide +kernel)) ⟨by decide +kernel, by decide +kernel, by decide +kernel⟩ ⟨rfl, rfl, Nat.le_of_ble_eq_true rfl, Nat.le_of_ble_eq_true rfl⟩) (ip_cs0)) ck_X8_isSort rfl p_X8_isSort
def C_X8_isQuestion : ip_C := fun vs hp K => ∃ v : Int32, vs = [.int v] ∧ ∀ b : Bool, (b = true ↔ inI v 6) → K (some (.int (ip_bi b))) hp
def cs_X8_isQuestion : List ip_G := [(65, 3, 0, C_X8_within)]
theorem p_X8_isQuestion : ip_Pf fl_X8 cn_X8 cs_X8_isQuestion (some .boolean) tb_X8_isQuestion 1 C_X8_isQuestion := ip_pf0 (by
  rintro _ hp K ⟨v, rfl, hK⟩
  refine ⟨Nat.le_of_ble_eq_true rfl, ?_⟩
  refine Exists.intro v ⟨0, 5, rfl, fun b hb => ?_⟩
  have t0 : (0 : Int32).toInt = 0 := by decide
  have t3 : (5 : Int32).toInt = 5 := by decide
  rw [t0, t3] at hb
  exact And.intro (ip_bnar b) (hK b (by rw [hb]; unfold inI; omega)))
set_option maxRecDepth 100000 in
set_option maxHeartbeats 4000000 in
theorem m_X8_isQuestion (l : Launch) : ip_Met l yX8_isQuestion cX8_isQuestion 1 (some .boolean) (ip_rm 1) C_X8_isQuestion := ip_met tb_X8_isQuestion 400 (by decide +kernel) fl_X8_ok cn_X8_ok (ip_cs1 (ip_gsS (m_X8_within l) (ip_in [716, 717, 39, 718] (by decide +kernel) (by decide +kernel)) ⟨by decide +kernel, by decide +kernel, by decide +kernel⟩ ⟨rfl, rfl, Nat.le_of_ble_eq_true rfl, Nat.le_of_ble_eq_true rfl⟩) (ip_cs0)) ck_X8_isQuestion rfl p_X8_isQuestion
def C_X8_isSet : ip_C := fun vs hp K => ∃ v : Int32, vs = [.int v] ∧ ∀ b : Bool, (b = true ↔ inI v 64) → K (some (.int (ip_bi b))) hp
def cs_X8_isSet : List ip_G := [(65, 3, 0, C_X8_within)]
theorem p_X8_isSet : ip_Pf fl_X8 cn_X8 cs_X8_isSet (some .boolean) tb_X8_isSet 1 C_X8_isSet := ip_pf0 (by
  rintro _ hp K ⟨v, rfl, hK⟩
  refine ⟨Nat.le_of_ble_eq_true rfl, ?_⟩
  refine Exists.intro v ⟨0, 63, rfl, fun b hb => ?_⟩
  have t0 : (0 : Int32).toInt = 0 := by decide
  have t3 : (63 : Int32).toInt = 63 := by decide
  rw [t0, t3] at hb
  exact And.intro (ip_bnar b) (hK b (by rw [hb]; unfold inI; omega)))
set_option maxRecDepth 100000 in
set_option maxHeartbeats 4000000 in
theorem m_X8_isSet (l : Launch) : ip_Met l yX8_isSet cX8_isSet 1 (some .boolean) (ip_rm 1) C_X8_isSet := ip_met tb_X8_isSet 400 (by decide +kernel) fl_X8_ok cn_X8_ok (ip_cs1 (ip_gsS (m_X8_within l) (ip_in [716, 717, 39, 718] (by decide +kernel) (by decide +kernel)) ⟨by decide +kernel, by decide +kernel, by decide +kernel⟩ ⟨rfl, rfl, Nat.le_of_ble_eq_true rfl, Nat.le_of_ble_eq_true rfl⟩) (ip_cs0)) ck_X8_isSet rfl p_X8_isSet
def C_X8_isRow : ip_C := fun vs hp K => ∃ v n : Int32, vs = [.int v, .int n] ∧ ∀ b : Bool, (b = true ↔ inI v 3 ∧ 0 ≤ n.toInt ∧ n.toInt ≤ 20) → K (some (.int (ip_bi b))) hp
def cs_X8_isRow : List ip_G := [(86, 1, 0, C_X8_isSort), (65, 3, 0, C_X8_within)]
theorem p_X8_isRow : ip_Pf fl_X8 cn_X8 cs_X8_isRow (some .boolean) tb_X8_isRow 2 C_X8_isRow := ip_pf0 (by
  rintro _ hp K ⟨v, n, rfl, hK⟩
  refine ⟨Nat.le_of_ble_eq_true rfl, ?_⟩
  refine Exists.intro v ⟨rfl, fun b hb => ?_⟩
  have t0 : (0 : Int32).toInt = 0 := by decide
  have t3 : (20 : Int32).toInt = 20 := by decide
  refine ip_bt (fun h => ?_) (fun h => ?_)
  · exact And.intro rfl (hK false (iff_f (fun z => by rw [hb.mpr z.1] at h; cases h)))
  refine Exists.intro n ⟨0, 20, rfl, fun b2 hb2 => ?_⟩
  rw [t0, t3] at hb2
  refine ip_bt (fun h2 => ?_) (fun h2 => ?_)
  · exact And.intro rfl (hK false (iff_f (fun z => by rw [hb2.mpr z.2] at h2; cases h2)))
  · exact And.intro rfl (hK true (iff_t ⟨hb.mp h, hb2.mp h2⟩)))
set_option maxRecDepth 100000 in
set_option maxHeartbeats 4000000 in
theorem m_X8_isRow (l : Launch) : ip_Met l yX8_isRow cX8_isRow 2 (some .boolean) (ip_rm 2) C_X8_isRow := ip_met tb_X8_isRow 400 (by decide +kernel) fl_X8_ok cn_X8_ok (ip_cs1 (ip_gsS (m_X8_isSort l) (ip_in [719, 720, 39, 721] (by decide +kernel) (by decide +kernel)) ⟨by decide +kernel, by decide +kernel, by decide +kernel⟩ ⟨rfl, rfl, Nat.le_of_ble_eq_true rfl, Nat.le_of_ble_eq_true rfl⟩) (ip_cs1 (ip_gsS (m_X8_within l) (ip_in [716, 717, 39, 718] (by decide +kernel) (by decide +kernel)) ⟨by decide +kernel, by decide +kernel, by decide +kernel⟩ ⟨rfl, rfl, Nat.le_of_ble_eq_true rfl, Nat.le_of_ble_eq_true rfl⟩) (ip_cs0))) ck_X8_isRow rfl p_X8_isRow
def C_X8_fails : ip_C := fun vs hp K => ∃ R N, ∃ f : Int32, vs = [.ref 0, .int f] ∧ hp = hpM R N ∧ K (some (.int (-10 - f))) (hpM (va_up R 0 f) N)
def cs_X8_fails : List ip_G := []
theorem p_X8_fails : ip_Pf fl_X8 cn_X8 cs_X8_fails (some .int) tb_X8_fails 2 C_X8_fails := ip_pf0 (by
  rintro _ _ K ⟨R, N, f, rfl, rfl, hK⟩
  exact ⟨Nat.le_of_ble_eq_true rfl, hK⟩)
set_option maxRecDepth 100000 in
set_option maxHeartbeats 4000000 in
theorem m_X8_fails (l : Launch) : ip_Met l yX8_fails cX8_fails 2 (some .int) (ip_rm 0) C_X8_fails := ip_met tb_X8_fails 400 (by decide +kernel) fl_X8_ok cn_X8_ok (ip_cs0) ck_X8_fails rfl p_X8_fails
def C_X8_lost : ip_C := fun vs hp K => ∃ R N, ∃ f : Int32, vs = [.ref 0, .int f] ∧ hp = hpM R N ∧ K (some (.long (-9223372036854775808))) (hpM (va_up R 0 f) N)
def cs_X8_lost : List ip_G := []
theorem p_X8_lost : ip_Pf fl_X8 cn_X8 cs_X8_lost (some .long) tb_X8_lost 2 C_X8_lost := ip_pf0 (by
  rintro _ _ K ⟨R, N, f, rfl, rfl, hK⟩
  exact ⟨Nat.le_of_ble_eq_true rfl, hK⟩)
set_option maxRecDepth 100000 in
set_option maxHeartbeats 4000000 in
theorem m_X8_lost (l : Launch) : ip_Met l yX8_lost cX8_lost 2 (some .long) (ip_rm 0) C_X8_lost := ip_met tb_X8_lost 400 (by decide +kernel) fl_X8_ok cn_X8_ok (ip_cs0) ck_X8_lost rfl p_X8_lost
def C_X8_begins : ip_C := fun vs hp K => ∃ R N, ∃ b : Int32, vs = [.ref 0, .int b] ∧ hp = hpM R N ∧ K none (hpM (va_up R 1 (31 * R 1 + b)) N)
def cs_X8_begins : List ip_G := []
theorem p_X8_begins : ip_Pf fl_X8 cn_X8 cs_X8_begins none tb_X8_begins 2 C_X8_begins := ip_pf0 (by
  rintro _ _ K ⟨R, N, b, rfl, rfl, hK⟩
  exact ⟨Nat.le_of_ble_eq_true rfl, hK⟩)
set_option maxRecDepth 100000 in
set_option maxHeartbeats 4000000 in
theorem m_X8_begins (l : Launch) : ip_Met l yX8_begins cX8_begins 2 none (ip_rm 0) C_X8_begins := ip_met tb_X8_begins 400 (by decide +kernel) fl_X8_ok cn_X8_ok (ip_cs0) ck_X8_begins rfl p_X8_begins
/-- the reference's county is the system's; those of sl are silent -/
def relM (S : Nat → Nat) (R : Nat → Int32) (N : Nat → Nat → Int32) (sl : Nat) : Prop := R 5 = nI (S 1) ∧ R 6 = nI (S 2) ∧ R 7 = nI (S 3) ∧ R 11 = nI sl ∧ ∀ m, m < 4 → N 4 m = nI (S (40 + m)) ∧ N 5 m = nI (S (50 + m)) ∧ N 6 m = nI (S (60 + m))
def C_X8_isMan : ip_C := fun vs hp K => ∃ R N, ∃ (m : Int32) (n : Nat), vs = [.ref 0, .int m] ∧ hp = hpM R N ∧ R 7 = nI n ∧ n ≤ 4 ∧ ∀ b : Bool, (b = true ↔ inI m n) → K (some (.int (ip_bi b))) hp
def cs_X8_isMan : List ip_G := []
theorem p_X8_isMan : ip_Pf fl_X8 cn_X8 cs_X8_isMan (some .boolean) tb_X8_isMan 2 C_X8_isMan := ip_pf0 (by
  rintro _ _ K ⟨R, N, m, n, rfl, rfl, hR, hn, hK⟩
  refine ⟨Nat.le_of_ble_eq_true rfl, ?_⟩
  refine bz_lt m.toInt 0 (fun h => ?_) (fun h => ?_)
  · exact And.intro rfl (hK false (by simp; omega))
  have b1 : ∀ {X Y : Prop}, ((n : Int) ≤ m.toInt → X) → (m.toInt < n → Y) → (R 7 ≤ m → X) ∧ (¬ R 7 ≤ m → Y) := fun f g => bz_le _ _ f g (by rw [hR]; exact ti_n (by omega)) rfl
  refine b1 (fun h2 => ?_) (fun h2 => ?_)
  · exact And.intro rfl (hK false (by simp; omega))
  · exact And.intro rfl (hK true (by simp; omega)))
set_option maxRecDepth 100000 in
set_option maxHeartbeats 4000000 in
theorem m_X8_isMan (l : Launch) : ip_Met l yX8_isMan cX8_isMan 2 (some .boolean) (ip_rm 0) C_X8_isMan := ip_met tb_X8_isMan 400 (by decide +kernel) fl_X8_ok cn_X8_ok (ip_cs0) ck_X8_isMan rfl p_X8_isMan
def C_X8_isParish : ip_C := fun vs hp K => ∃ R N, ∃ (m : Int32) (n : Nat), vs = [.ref 0, .int m] ∧ hp = hpM R N ∧ R 6 = nI n ∧ n ≤ 6 ∧ ∀ b : Bool, (b = true ↔ inI m n) → K (some (.int (ip_bi b))) hp
def cs_X8_isParish : List ip_G := []
theorem p_X8_isParish : ip_Pf fl_X8 cn_X8 cs_X8_isParish (some .boolean) tb_X8_isParish 2 C_X8_isParish := ip_pf0 (by
  rintro _ _ K ⟨R, N, m, n, rfl, rfl, hR, hn, hK⟩
  refine ⟨Nat.le_of_ble_eq_true rfl, ?_⟩
  refine bz_lt m.toInt 0 (fun h => ?_) (fun h => ?_)
  · exact And.intro rfl (hK false (by simp; omega))
  have b1 : ∀ {X Y : Prop}, ((n : Int) ≤ m.toInt → X) → (m.toInt < n → Y) → (R 6 ≤ m → X) ∧ (¬ R 6 ≤ m → Y) := fun f g => bz_le _ _ f g (by rw [hR]; exact ti_n (by omega)) rfl
  refine b1 (fun h2 => ?_) (fun h2 => ?_)
  · exact And.intro rfl (hK false (by simp; omega))
  · exact And.intro rfl (hK true (by simp; omega)))
set_option maxRecDepth 100000 in
set_option maxHeartbeats 4000000 in
theorem m_X8_isParish (l : Launch) : ip_Met l yX8_isParish cX8_isParish 2 (some .boolean) (ip_rm 0) C_X8_isParish := ip_met tb_X8_isParish 400 (by decide +kernel) fl_X8_ok cn_X8_ok (ip_cs0) ck_X8_isParish rfl p_X8_isParish
theorem bt_bi : ∀ a : Fin 64, ∀ k : Fin 6, (nI a.val >>> (nI k.val &&& 31)) &&& 1 = ip_bi (a.val.testBit k.val) := by decide +kernel
theorem bt_bi16 : ∀ a : Fin 16, ∀ k : Fin 4, (nI a.val >>> (nI k.val &&& 31)) &&& 1 = ip_bi (a.val.testBit k.val) := by decide +kernel
def C_X8_right : ip_C := fun vs hp K => ∃ R N, ∃ tr q : Nat, tr < 64 ∧ q < 6 ∧ vs = [.ref 0, .int (nI q)] ∧ hp = hpM R N ∧ R 5 = nI tr ∧ K (some (.int (ip_bi (tr.testBit q)))) hp
def cs_X8_right : List ip_G := []
theorem p_X8_right : ip_Pf fl_X8 cn_X8 cs_X8_right (some .int) tb_X8_right 2 C_X8_right := ip_pf0 (by
  rintro _ _ K ⟨R, N, tr, q, ht, hq, rfl, rfl, hR, hK⟩
  refine ⟨Nat.le_of_ble_eq_true rfl, ?_⟩
  have hb := bt_bi ⟨tr, ht⟩ ⟨q, hq⟩
  simp only at hb
  rw [← hb, ← hR] at hK
  exact hK)
set_option maxRecDepth 100000 in
set_option maxHeartbeats 4000000 in
theorem m_X8_right (l : Launch) : ip_Met l yX8_right cX8_right 2 (some .int) (ip_rm 0) C_X8_right := ip_met tb_X8_right 400 (by decide +kernel) fl_X8_ok cn_X8_ok (ip_cs0) ck_X8_right rfl p_X8_right
theorem ip_bo {b : Bool} {X Y : Prop} (h0 : b = false → X) (h1 : b = true → Y) : (¬ ip_bi b = 1 → X) ∧ (ip_bi b = 1 → Y) := by
  cases b
  · exact ⟨fun _ => h0 rfl, fun h => absurd h (by decide)⟩
  · exact ⟨fun h => absurd rfl h, fun _ => h1 rfl⟩
def ansR (tr kd li q : Nat) : Int32 := if ar tr kd li q then ip_bi (tr.testBit q) else if aw tr kd li q then 1 - ip_bi (tr.testBit q) else -9
def C_X8_answerOf : ip_C := fun vs hp K => ∃ R N S, ∃ m q sl : Nat, m < 4 ∧ q < 6 ∧ vs = [.ref 0, .int (nI m), .int (nI q)] ∧ hp = hpM R N ∧ wfM S ∧ relM S R N sl ∧ K (some (.int (ansR (S 1) (S (40 + m)) (S (60 + m)) q))) hp
def cs_X8_answerOf : List ip_G := [(134, 2, 8, C_X8_right)]
set_option maxHeartbeats 4000000 in
theorem p_X8_answerOf : ip_Pf fl_X8 cn_X8 cs_X8_answerOf (some .int) tb_X8_answerOf 4 C_X8_answerOf := ip_pf0 (by
  rintro _ _ K ⟨R, N, S, m, q, sl, hm, hq, rfl, rfl, ⟨w1, w2, w3, w4⟩, ⟨r5, r6, r7, r11, rm⟩, hK⟩
  refine ⟨Nat.le_of_ble_eq_true rfl, ?_⟩
  obtain ⟨k1, k2, k3⟩ := w4 m hm
  obtain ⟨n4, n5, n6⟩ := rm m hm
  have hc := nI_clamp (n := m) (by omega)
  have hin : vp_in (nI m) 4 := pk_in m 4 hm
  have bl := bt_bi ⟨S (60 + m), k3⟩ ⟨q, hq⟩
  simp only at bl
  have e6 : N 6 (nI m).toNatClampNeg = nI (S (60 + m)) := by rw [hc, n6]
  have e4 : N 4 (nI m).toNatClampNeg = nI (S (40 + m)) := by rw [hc, n4]
  have b0 : ∀ {X Y : Prop}, ((S (60 + m)).testBit q = false → X) → ((S (60 + m)).testBit q = true → Y) → (¬ (N 6 (nI m).toNatClampNeg >>> (nI q &&& 31)) &&& 1 = 1 → X) ∧ ((N 6 (nI m).toNatClampNeg >>> (nI q &&& 31)) &&& 1 = 1 → Y) := fun f g => by rw [e6, bl]; exact ip_bo f g
  have b2 : ∀ {X Y : Prop}, (S (40 + m) ≠ 2 → X) → (S (40 + m) = 2 → Y) → (¬ N 4 (nI m).toNatClampNeg = 2 → X) ∧ (N 4 (nI m).toNatClampNeg = 2 → Y) := fun f g => by rw [e4]; exact pk_ne _ 2 f g
  have b3 : ∀ {X Y : Prop}, (S (40 + m) ≠ 1 → X) → (S (40 + m) = 1 → Y) → (¬ N 4 (nI m).toNatClampNeg = 1 → X) ∧ (N 4 (nI m).toNatClampNeg = 1 → Y) := fun f g => by rw [e4]; exact pk_ne _ 1 f g
  have c1 : S (40 + m) = 2 → (S (60 + m)).testBit q = true → K (some (.int (1 - ip_bi ((S 1).testBit q)))) (hpM R N) := fun h h2 => by simp [ansR, ar, aw, h, h2] at hK; exact hK
  have c2 : S (40 + m) = 2 → (S (60 + m)).testBit q = false → K (some (.int (-9))) (hpM R N) := fun h h2 => by simp [ansR, ar, aw, h, h2] at hK; exact hK
  have c3 : S (40 + m) ≠ 2 → (S (60 + m)).testBit q = true → K (some (.int (ip_bi ((S 1).testBit q)))) (hpM R N) := fun h h2 => by simp [ansR, ar, aw, h, h2] at hK; exact hK
  have c4 : S (40 + m) = 1 → (S (60 + m)).testBit q = false → K (some (.int 1)) (hpM R N) := fun h h2 => by
    cases h3 : (S 1).testBit q
    · simp [ansR, ar, aw, h, h2, h3] at hK; exact hK
    · simp [ansR, ar, aw, h, h2, h3] at hK; exact hK
  have c5 : S (40 + m) ≠ 2 → S (40 + m) ≠ 1 → (S (60 + m)).testBit q = false → K (some (.int (-9))) (hpM R N) := fun h h0 h2 => by simp [ansR, ar, aw, h, h0, h2] at hK; exact hK
  clear hK
  refine And.intro hin ?_
  refine b0 (fun h => ?_) (fun h => ?_)
  · refine And.intro hin ?_
    refine b2 (fun h2 => ?_) (fun h2 => ?_)
    · refine And.intro (fun _ => ?_) (fun z => absurd rfl z)
      refine And.intro hin ?_
      refine b3 (fun h3 => ?_) (fun h3 => ?_)
      · exact c5 h2 h3 h
      · exact c4 h3 h
    · refine And.intro (fun _ => ?_) (fun z => absurd rfl z)
      exact c2 h2 h
  · refine And.intro hin ?_
    refine b2 (fun h2 => ?_) (fun h2 => ?_)
    · refine And.intro (fun z => absurd z (by decide)) (fun _ => ?_)
      exact Exists.intro R ⟨N, S 1, q, w1, hq, rfl, rfl, r5, c3 h2 h⟩
    · refine And.intro (fun z => absurd z (by decide)) (fun _ => ?_)
      exact Exists.intro R ⟨N, S 1, q, w1, hq, rfl, rfl, r5, c1 h2 h⟩)
set_option maxRecDepth 100000 in
set_option maxHeartbeats 4000000 in
theorem m_X8_answerOf (l : Launch) : ip_Met l yX8_answerOf cX8_answerOf 4 (some .int) (ip_rm 1) C_X8_answerOf := ip_met tb_X8_answerOf 400 (by decide +kernel) fl_X8_ok cn_X8_ok (ip_cs1 (ip_gsV (m_X8_right l) (ip_in [788, 790, 19, 39, 791] (by decide +kernel) (by decide +kernel)) rfl ⟨by decide +kernel, by decide +kernel, by decide +kernel⟩ ⟨rfl, rfl, Nat.le_of_ble_eq_true rfl, Nat.le_of_ble_eq_true rfl⟩) (ip_cs0)) ck_X8_answerOf rfl p_X8_answerOf
def C_X8_trace : ip_C := fun vs hp K => ∃ R N, vs = [.ref 0] ∧ hp = hpM R N ∧ K (some (.int (R 1))) hp
def cs_X8_trace : List ip_G := []
theorem p_X8_trace : ip_Pf fl_X8 cn_X8 cs_X8_trace (some .int) tb_X8_trace 1 C_X8_trace := ip_pf0 (by
  rintro _ _ K ⟨R, N, rfl, rfl, hK⟩
  exact ⟨Nat.le_of_ble_eq_true rfl, hK⟩)
set_option maxRecDepth 100000 in
set_option maxHeartbeats 4000000 in
theorem m_X8_trace (l : Launch) : ip_Met l yX8_trace cX8_trace 1 (some .int) (ip_rm 0) C_X8_trace := ip_met tb_X8_trace 400 (by decide +kernel) fl_X8_ok cn_X8_ok (ip_cs0) ck_X8_trace rfl p_X8_trace
def C_X8_fault : ip_C := fun vs hp K => ∃ R N, vs = [.ref 0] ∧ hp = hpM R N ∧ K (some (.int (R 0))) hp
def cs_X8_fault : List ip_G := []
theorem p_X8_fault : ip_Pf fl_X8 cn_X8 cs_X8_fault (some .int) tb_X8_fault 1 C_X8_fault := ip_pf0 (by
  rintro _ _ K ⟨R, N, rfl, rfl, hK⟩
  exact ⟨Nat.le_of_ble_eq_true rfl, hK⟩)
set_option maxRecDepth 100000 in
set_option maxHeartbeats 4000000 in
theorem m_X8_fault (l : Launch) : ip_Met l yX8_fault cX8_fault 1 (some .int) (ip_rm 0) C_X8_fault := ip_met tb_X8_fault 400 (by decide +kernel) fl_X8_ok cn_X8_ok (ip_cs0) ck_X8_fault rfl p_X8_fault
end
section
/-! ===== the reference: isHeld, dangersOf, size, strikesNow, areSo ===== -/
def prS (S : Nat → Nat) (sl p m : Nat) : Bool := S (50 + m) == p && !sl.testBit m
def C_X8_isHeld : ip_C := fun vs hp K => ∃ R N S, ∃ p q sl : Nat, p < 2147483648 ∧ q < 6 ∧ sl < 16 ∧ vs = [.ref 0, .int (nI p), .int (nI q)] ∧ hp = hpM R N ∧ wfM S ∧ relM S R N sl ∧ K (some (.int (ip_bi (heldS S (prS S sl p) q)))) hp
def cs_X8_isHeld : List ip_G := [(140, 3, 8, C_X8_answerOf), (134, 2, 8, C_X8_right)]
def I_X8_isHeld (R : Nat → Int32) (N : Nat → Nat → Int32) (S : Nat → Nat) (p q sl : Nat) : Nat → Nat → ip_P := fun pc k L st hp => pc = 5 ∧ ∃ (m : Nat) (y : Int32) (l5 : Option Value), m ≤ S 3 ∧ k = 4 - m ∧ L = [some (.ref 0), some (.int (nI p)), some (.int (nI q)), some (.int (ip_bi (anyb m (fun m => prS S sl p m && ar (S 1) (S (40 + m)) (S (60 + m)) q)))), some (.int y), l5] ∧ st = [] ∧ hp = hpM R N ∧ y = nI m ∧ anyb m (fun m => prS S sl p m && aw (S 1) (S (40 + m)) (S (60 + m)) q) = false
theorem ansR_9 (tr kd li q : Nat) (hk : kd ≤ 2) : (ansR tr kd li q = -9 ↔ ar tr kd li q = false ∧ aw tr kd li q = false) ∧ (ansR tr kd li q ≠ -9 → (ansR tr kd li q = ip_bi (tr.testBit q) ↔ ar tr kd li q = true)) ∧ (ar tr kd li q = true → aw tr kd li q = false) := by
  have hx : ar tr kd li q = true → aw tr kd li q = false := by
    unfold ar aw
    intro h
    rcases (show kd = 0 ∨ kd = 1 ∨ kd = 2 by omega) with rfl | rfl | rfl
    · simp
    · simp at h ⊢
      intro z
      rcases h with h | h
      · rw [h] at z; cases z
      · exact h
    · simp at h
  refine ⟨?_, ?_, hx⟩
  · unfold ansR
    cases h1 : ar tr kd li q
    · cases h2 : aw tr kd li q
      · simp
      · cases tr.testBit q <;> simp [ip_bi]
    · cases tr.testBit q <;> simp [ip_bi]
  · unfold ansR
    intro h3
    cases h1 : ar tr kd li q
    · cases h2 : aw tr kd li q
      · rw [h1, h2] at h3; simp at h3
      · cases tr.testBit q <;> simp [ip_bi]
    · simp
set_option maxHeartbeats 4000000 in
theorem p_X8_isHeld : ip_Pf fl_X8 cn_X8 cs_X8_isHeld (some .boolean) tb_X8_isHeld 6 C_X8_isHeld := by
  rintro _ _ K ⟨R, N, S, p, q, sl, hp0, hq, hsl, rfl, rfl, hwf, hrel, hK⟩
  obtain ⟨w1, w2, w3, w4⟩ := id hwf
  obtain ⟨r5, r6, r7, r11, rm⟩ := id hrel
  refine ⟨Nat.le_of_ble_eq_true rfl, I_X8_isHeld R N S p q sl, ?_, ?_⟩
  · exact Exists.intro 4 ⟨trivial, rfl, 0, _, none, by omega, rfl, rfl, rfl, rfl, rfl, rfl⟩
  · rintro pc k L st hp ⟨rfl, m, y, l5, hm, rfl, rfl, rfl, rfl, rfl, hno⟩
    have b7 : ∀ {X Y : Prop}, (S 3 ≤ m → X) → (m < S 3 → Y) → (R 7 ≤ nI m → X) ∧ (¬ R 7 ≤ nI m → Y) := fun f g => by rw [r7]; exact pk_le (S 3) m f g
    refine b7 (fun h => ?_) (fun h => ?_)
    · obtain rfl : m = S 3 := by omega
      have e : heldS S (prS S sl p) q = anyb (S 3) (fun m => prS S sl p m && ar (S 1) (S (40 + m)) (S (60 + m)) q) := by unfold heldS held; rw [hno]; simp
      rw [e] at hK
      exact And.intro (ip_bnar _) hK
    have hm4 : m < 4 := by omega
    obtain ⟨k1, k2, k3⟩ := w4 m hm4
    obtain ⟨n4, n5, n6⟩ := rm m hm4
    have hc := nI_clamp (n := m) (by omega)
    have hin : vp_in (nI m) 4 := pk_in m 4 hm4
    have b5 : ∀ {X Y : Prop}, (S (50 + m) ≠ p → X) → (S (50 + m) = p → Y) → (¬ N 5 (nI m).toNatClampNeg = nI p → X) ∧ (N 5 (nI m).toNatClampNeg = nI p → Y) := fun f g => by rw [hc, n5]; exact pk_ne _ p f g
    have bs4 := bt_bi16 ⟨sl, hsl⟩ ⟨m, hm4⟩
    simp only at bs4
    have b11 : ∀ {X Y : Prop}, (sl.testBit m = true → X) → (sl.testBit m = false → Y) → (¬ (R 11 >>> (nI m &&& 31)) &&& 1 = 0 → X) ∧ ((R 11 >>> (nI m &&& 31)) &&& 1 = 0 → Y) := fun f g => by rw [r11, bs4]; exact ip_bn f g
    have hn : ∀ (x y : Int32) (l5 : Option Value), x = ip_bi (anyb (m + 1) (fun m => prS S sl p m && ar (S 1) (S (40 + m)) (S (60 + m)) q)) → anyb (m + 1) (fun m => prS S sl p m && aw (S 1) (S (40 + m)) (S (60 + m)) q) = false → y = nI (m + 1) → ∃ k, ip_lt k (some (4 - m)) ∧ I_X8_isHeld R N S p q sl 5 k [some (.ref 0), some (.int (nI p)), some (.int (nI q)), some (.int x), some (.int y), l5] [] (hpM R N) := fun x y l5 hx hn2 hy => by
      subst hx
      exact ⟨4 - (m + 1), by show _ < _; omega, rfl, m + 1, y, l5, by omega, rfl, rfl, rfl, rfl, hy, hn2⟩
    have skip : prS S sl p m = false → ip_bi (anyb m (fun m => prS S sl p m && ar (S 1) (S (40 + m)) (S (60 + m)) q)) = ip_bi (anyb (m + 1) (fun m => prS S sl p m && ar (S 1) (S (40 + m)) (S (60 + m)) q)) ∧ anyb (m + 1) (fun m => prS S sl p m && aw (S 1) (S (40 + m)) (S (60 + m)) q) = false := fun h => by simp [anyb, h, hno]
    obtain ⟨a9, a8, a7⟩ := ansR_9 (S 1) (S (40 + m)) (S (60 + m)) q k1
    have h9 : nI m + 1 = nI (m + 1) := nI_1 m
    refine And.intro hin ?_
    refine b5 (fun h2 => ?_) (fun h2 => ?_)
    · have hp : prS S sl p m = false := by simp [prS, h2]
      exact hn _ _ _ (skip hp).1 (skip hp).2 h9
    refine b11 (fun h3 => ?_) (fun h3 => ?_)
    · have hp : prS S sl p m = false := by simp [prS, h3]
      exact hn _ _ _ (skip hp).1 (skip hp).2 h9
    have hp : prS S sl p m = true := by simp [prS, h2, h3]
    have bad : aw (S 1) (S (40 + m)) (S (60 + m)) q = true → K (some (.int 0)) (hpM R N) := fun hw => by
      have e : heldS S (prS S sl p) q = false := by
        unfold heldS held
        rw [anyb_true (f := fun m => prS S sl p m && aw (S 1) (S (40 + m)) (S (60 + m)) q) h (by simp only [hp, hw]; rfl)]
        simp
      rw [e] at hK
      exact hK
    have nxt : ∀ a w : Bool, ar (S 1) (S (40 + m)) (S (60 + m)) q = a → aw (S 1) (S (40 + m)) (S (60 + m)) q = w → w = false → anyb (m + 1) (fun m => prS S sl p m && ar (S 1) (S (40 + m)) (S (60 + m)) q) = (anyb m (fun m => prS S sl p m && ar (S 1) (S (40 + m)) (S (60 + m)) q) || a) ∧ anyb (m + 1) (fun m => prS S sl p m && aw (S 1) (S (40 + m)) (S (60 + m)) q) = false := fun a w h1 h2 h3 => by
      simp [anyb, hp, hno, h1, h2, h3]
    refine Exists.intro R ⟨N, S, m, q, sl, hm4, hq, rfl, rfl, hwf, hrel, ?_⟩
    generalize hA : ansR (S 1) (S (40 + m)) (S (60 + m)) q = A at a9 a8 ⊢
    cases hx : ar (S 1) (S (40 + m)) (S (60 + m)) q with
    | true =>
      have hw := a7 hx
      obtain ⟨e1, e2⟩ := nxt true false hx hw rfl
      have hA9 : A ≠ -9 := fun z => by rw [(a9.mp z).1] at hx; cases hx
      have hAr := (a8 hA9).mpr hx
      refine And.intro (fun z => absurd z hA9) (fun _ => ?_)
      refine Exists.intro R ⟨N, S 1, q, w1, hq, rfl, rfl, r5, ?_⟩
      refine And.intro (fun _ => ?_) (fun z => absurd hAr z)
      have e3 : (1 : Int32) = ip_bi (anyb (m + 1) (fun m => prS S sl p m && ar (S 1) (S (40 + m)) (S (60 + m)) q)) := by rw [e1, Bool.or_true]; rfl
      refine ip_bn (fun h5 => ?_) (fun h5 => ?_)
      · exact hn _ _ _ e3 e2 h9
      · refine And.intro (fun z => absurd z hA9) (fun _ => ?_)
        exact hn _ _ _ e3 e2 h9
    | false =>
      cases hw : aw (S 1) (S (40 + m)) (S (60 + m)) q with
      | true =>
        have hA9 : A ≠ -9 := fun z => by rw [(a9.mp z).2] at hw; cases hw
        have hAr : ¬ A = ip_bi ((S 1).testBit q) := fun z => by rw [(a8 hA9).mp z] at hx; cases hx
        refine And.intro (fun z => absurd z hA9) (fun _ => ?_)
        refine Exists.intro R ⟨N, S 1, q, w1, hq, rfl, rfl, r5, ?_⟩
        refine And.intro (fun z => absurd z hAr) (fun _ => ?_)
        exact And.intro rfl (bad hw)
      | false =>
        obtain ⟨e1, e2⟩ := nxt false false hx hw rfl
        have hA9 : A = -9 := a9.mpr ⟨hx, hw⟩
        subst hA9
        refine And.intro (fun _ => ?_) (fun z => absurd rfl z)
        refine ip_bn (fun h5 => ?_) (fun h5 => ?_)
        · exact hn _ _ _ (by rw [e1, h5]; rfl) e2 h9
        · refine And.intro (fun _ => ?_) (fun z => absurd rfl z)
          exact hn _ _ _ (by rw [e1, h5]; rfl) e2 h9
set_option maxRecDepth 100000 in
set_option maxHeartbeats 4000000 in
theorem m_X8_isHeld (l : Launch) : ip_Met l yX8_isHeld cX8_isHeld 6 (some .boolean) (ip_rm 2) C_X8_isHeld := ip_met tb_X8_isHeld 400 (by decide +kernel) fl_X8_ok cn_X8_ok (ip_cs1 (ip_gsV (m_X8_answerOf l) (ip_in [784, 786, 18, 39, 787] (by decide +kernel) (by decide +kernel)) rfl ⟨by decide +kernel, by decide +kernel, by decide +kernel⟩ ⟨rfl, rfl, Nat.le_of_ble_eq_true rfl, Nat.le_of_ble_eq_true rfl⟩) (ip_cs1 (ip_gsV (m_X8_right l) (ip_in [788, 790, 19, 39, 791] (by decide +kernel) (by decide +kernel)) rfl ⟨by decide +kernel, by decide +kernel, by decide +kernel⟩ ⟨rfl, rfl, Nat.le_of_ble_eq_true rfl, Nat.le_of_ble_eq_true rfl⟩) (ip_cs0))) ck_X8_isHeld rfl p_X8_isHeld
end
section
/-! ===== the reference: sets, counts ===== -/
theorem prS_0 (S : Nat → Nat) (p : Nat) : prS S 0 p = fun m => S (50 + m) == p := by funext m; simp [prS]
def dgpM (S : Nat → Nat) (sl p : Nat) : Nat := dgs S (prS S sl p)
theorem dgpM_0 (S : Nat → Nat) (p : Nat) : dgpM S 0 p = dgp S p := by unfold dgpM dgp; rw [prS_0]
def C_X8_dangersOf : ip_C := fun vs hp K => ∃ R N S, ∃ p sl : Nat, p < 2147483648 ∧ sl < 16 ∧ vs = [.ref 0, .int (nI p)] ∧ hp = hpM R N ∧ wfM S ∧ relM S R N sl ∧ K (some (.int (nI (dgpM S sl p)))) hp
def cs_X8_dangersOf : List ip_G := [(147, 3, 8, C_X8_isHeld)]
def I_X8_dangersOf (R : Nat → Int32) (N : Nat → Nat → Int32) (S : Nat → Nat) (p sl : Nat) : Nat → Nat → ip_P := fun pc k L st hp => pc = 4 ∧ ∃ (q : Nat) (x y : Int32), q ≤ 6 ∧ k = 6 - q ∧ L = [some (.ref 0), some (.int (nI p)), some (.int x), some (.int y)] ∧ st = [] ∧ hp = hpM R N ∧ x = nI (bs q (fun q => !heldS S (prS S sl p) q)) ∧ y = nI q
theorem p_X8_dangersOf : ip_Pf fl_X8 cn_X8 cs_X8_dangersOf (some .int) tb_X8_dangersOf 4 C_X8_dangersOf := by
  rintro _ _ K ⟨R, N, S, p, sl, hp0, hsl, rfl, rfl, hwf, hrel, hK⟩
  refine ⟨Nat.le_of_ble_eq_true rfl, I_X8_dangersOf R N S p sl, ?_, ?_⟩
  · exact Exists.intro 6 ⟨trivial, rfl, 0, _, _, by omega, rfl, rfl, rfl, rfl, rfl, rfl⟩
  · rintro pc k L st hp ⟨rfl, q, x, y, hq, rfl, rfl, rfl, rfl, rfl, rfl⟩
    refine pk_le 6 q (fun h => ?_) (fun h => ?_)
    · obtain rfl : q = 6 := by omega
      exact hK
    have hb := bs_lt (fun q => !heldS S (prS S sl p) q) q
    refine Exists.intro R ⟨N, S, p, q, sl, hp0, h, hsl, rfl, rfl, hwf, hrel, ?_⟩
    refine ip_bt (fun h3 => ?_) (fun h3 => ?_)
    · exact Exists.intro (6 - (q + 1)) ⟨by show _ < _; omega, rfl, q + 1, _, _, by omega, rfl, rfl, rfl, rfl, by rw [or_bit hb (by omega)]; simp [bs, h3], nI_1 q⟩
    · have e0 : nI (bs q (fun q => !heldS S (prS S sl p) q)) ||| 0 = nI (bs q (fun q => !heldS S (prS S sl p) q)) := by rw [show (0 : Int32) = nI 0 from rfl, fa_or, Nat.or_zero]
      exact Exists.intro (6 - (q + 1)) ⟨by show _ < _; omega, rfl, q + 1, _, _, by omega, rfl, rfl, rfl, rfl, by rw [e0]; simp [bs, h3], nI_1 q⟩
set_option maxRecDepth 100000 in
set_option maxHeartbeats 4000000 in
theorem m_X8_dangersOf (l : Launch) : ip_Met l yX8_dangersOf cX8_dangersOf 4 (some .int) (ip_rm 3) C_X8_dangersOf := ip_met tb_X8_dangersOf 400 (by decide +kernel) fl_X8_ok cn_X8_ok (ip_cs1 (ip_gsV (m_X8_isHeld l) (ip_in [796, 798, 20, 39, 799] (by decide +kernel) (by decide +kernel)) rfl ⟨by decide +kernel, by decide +kernel, by decide +kernel⟩ ⟨rfl, rfl, Nat.le_of_ble_eq_true rfl, Nat.le_of_ble_eq_true rfl⟩) (ip_cs0)) ck_X8_dangersOf rfl p_X8_dangersOf
def C_X8_size : ip_C := fun vs hp K => ∃ a : Nat, a < 64 ∧ vs = [.int (nI a)] ∧ K (some (.int (nI (pc6 a)))) hp
def cs_X8_size : List ip_G := []
def I_X8_size (a : Nat) (hp0 : ip_H) : Nat → Nat → ip_P := fun pc k L st hp => pc = 4 ∧ ∃ (t : Nat) (x y : Int32), t ≤ 6 ∧ k = 6 - t ∧ L = [some (.int (nI a)), some (.int x), some (.int y)] ∧ st = [] ∧ hp = hp0 ∧ x = nI (fb_ct (fun i => a.testBit i) t) ∧ y = nI (a / 2 ^ t)
theorem half_ok : ∀ a : Fin 64, nI a.val >>> ((1 : Int32) &&& 31) = nI (a.val / 2) ∧ nI a.val &&& 1 = nI (a.val % 2) := by decide +kernel
theorem p_X8_size : ip_Pf fl_X8 cn_X8 cs_X8_size (some .int) tb_X8_size 3 C_X8_size := by
  rintro _ hp0 K ⟨a, ha, rfl, hK⟩
  refine ⟨Nat.le_of_ble_eq_true rfl, I_X8_size a hp0, ?_, ?_⟩
  · exact Exists.intro 6 ⟨trivial, rfl, 0, _, _, by omega, rfl, rfl, rfl, rfl, rfl, by rw [Nat.pow_zero, Nat.div_one]⟩
  · rintro pc k L st hp ⟨rfl, t, x, y, ht, rfl, rfl, rfl, rfl, rfl, rfl⟩
    have hl : a / 2 ^ t < 64 := Nat.lt_of_le_of_lt (Nat.div_le_self _ _) ha
    refine pk_le (a / 2 ^ t) 0 (fun h => ?_) (fun h => ?_)
    · have hz : a / 2 ^ t = 0 := Nat.le_zero.mp h
      have hlt : a < 2 ^ t := by
        rcases Nat.lt_or_ge a (2 ^ t) with q | q
        · exact q
        · exact absurd hz (Nat.ne_of_gt (Nat.div_pos q (Nat.pow_pos (by decide))))
      have e : pc6 a = fb_ct (fun i => a.testBit i) t := by
        unfold pc6
        rw [show 6 = t + (6 - t) by omega, fb_ct_split]
        have : fb_ct (fun k => a.testBit (t + k)) (6 - t) = 0 := fb_ct_zero.mpr (fun k _ => Nat.testBit_lt_two_pow (Nat.lt_of_lt_of_le hlt (Nat.pow_le_pow_right (by decide) (by omega))))
        omega
      rw [e] at hK
      exact hK
    · have ht6 : t < 6 := by
        rcases Nat.lt_or_ge t 6 with q | q
        · exact q
        · obtain rfl : t = 6 := by omega
          have : a / 2 ^ 6 = 0 := Nat.div_eq_of_lt ha
          rw [this] at h
          exact absurd h (Nat.lt_irrefl 0)
      obtain ⟨e1, e2⟩ := half_ok ⟨a / 2 ^ t, hl⟩
      simp only at e1 e2
      refine Exists.intro (6 - (t + 1)) ⟨by show _ < _; omega, rfl, t + 1, _, _, by omega, rfl, rfl, rfl, rfl, ?_, ?_⟩
      · rw [e2, nI_add, fb_ct_succ]
        congr 2
        rw [Nat.testBit_eq_decide_div_mod_eq]
        have : a / 2 ^ t % 2 < 2 := Nat.mod_lt _ (by decide)
        by_cases hb : a / 2 ^ t % 2 = 1
        · simp [hb]
        · simp [hb]; omega
      · rw [e1, Nat.div_div_eq_div_mul, Nat.pow_succ]
set_option maxRecDepth 100000 in
set_option maxHeartbeats 4000000 in
theorem m_X8_size (l : Launch) : ip_Met l yX8_size cX8_size 3 (some .int) (ip_rm 0) C_X8_size := ip_met tb_X8_size 400 (by decide +kernel) fl_X8_ok cn_X8_ok (ip_cs0) ck_X8_size rfl p_X8_size
def wfT' (S : Nat → Nat) (R : Nat → Int32) (N : Nat → Nat → Int32) (n : Nat) : Prop := R 17 = nI n ∧ n ≤ 20 ∧ ∀ t, t < n → N 8 t = nI (pN (N 8) t) ∧ pN (N 8) t < 6 ∧ N 9 t = nI (pN (N 9) t) ∧ pN (N 9) t < 6
def stM (S : Nat → Nat) (N : Nat → Nat → Int32) (t : Nat) : Bool := stk S (pN (N 8) t) (pN (N 9) t)
theorem stk_held (S : Nat → Nat) (p q : Nat) : heldS S (prS S 0 p) q = !stk S p q := by unfold stk; rw [prS_0]; simp
def C_X8_strikesNow : ip_C := fun vs hp K => ∃ R N S, ∃ n : Nat, vs = [.ref 0] ∧ hp = hpM R N ∧ wfM S ∧ relM S R N 0 ∧ wfT' S R N n ∧ K (some (.int (nI (fb_ct (stM S N) n)))) hp
def cs_X8_strikesNow : List ip_G := [(147, 3, 8, C_X8_isHeld)]
def I_X8_strikesNow (R : Nat → Int32) (N : Nat → Nat → Int32) (S : Nat → Nat) (n : Nat) : Nat → Nat → ip_P := fun pc k L st hp => pc = 4 ∧ ∃ (t : Nat) (x y : Int32), t ≤ n ∧ k = n - t ∧ L = [some (.ref 0), some (.int x), some (.int y)] ∧ st = [] ∧ hp = hpM R N ∧ x = nI (fb_ct (stM S N) t) ∧ y = nI t
theorem p_X8_strikesNow : ip_Pf fl_X8 cn_X8 cs_X8_strikesNow (some .int) tb_X8_strikesNow 3 C_X8_strikesNow := by
  rintro _ _ K ⟨R, N, S, n, rfl, rfl, hwf, hrel, ⟨t0, t1, t2⟩, hK⟩
  refine ⟨Nat.le_of_ble_eq_true rfl, I_X8_strikesNow R N S n, ?_, ?_⟩
  · exact Exists.intro n ⟨trivial, rfl, 0, _, _, by omega, rfl, rfl, rfl, rfl, rfl, rfl⟩
  · rintro pc k L st hp ⟨rfl, t, x, y, ht, rfl, rfl, rfl, rfl, rfl, rfl⟩
    have b7 : ∀ {X Y : Prop}, (n ≤ t → X) → (t < n → Y) → (R 17 ≤ nI t → X) ∧ (¬ R 17 ≤ nI t → Y) := fun f g => by rw [t0]; exact pk_le n t f g
    refine b7 (fun h => ?_) (fun h => ?_)
    · obtain rfl : t = n := by omega
      exact hK
    obtain ⟨e1, e2, e3, e4⟩ := t2 t h
    have hc := nI_clamp (n := t) (by omega)
    refine And.intro (pk_in t 20 (by omega)) ?_
    refine And.intro (pk_in t 20 (by omega)) ?_
    refine Exists.intro R ⟨N, S, pN (N 8) t, pN (N 9) t, 0, by omega, e4, by decide, (by show [Value.ref 0, .int (N 8 (nI t).toNatClampNeg), .int (N 9 (nI t).toNatClampNeg)] = _; rw [hc, ← e1, ← e3]), rfl, hwf, hrel, ?_⟩
    rw [stk_held]
    have hs : stM S N t = stk S (pN (N 8) t) (pN (N 9) t) := rfl
    refine ip_bt (fun h3 => ?_) (fun h3 => ?_)
    · have h3 : stk S (pN (N 8) t) (pN (N 9) t) = true := by simpa using h3
      exact Exists.intro (n - (t + 1)) ⟨by show _ < _; omega, rfl, t + 1, _, _, by omega, rfl, rfl, rfl, rfl, by rw [fb_ct_succ, hs, h3, nI_1]; simp, nI_1 t⟩
    · have h3 : stk S (pN (N 8) t) (pN (N 9) t) = false := by simpa using h3
      have e0 : nI (fb_ct (stM S N) t) + 0 = nI (fb_ct (stM S N) t) := by rw [show (0 : Int32) = nI 0 from rfl, nI_add, Nat.add_zero]
      exact Exists.intro (n - (t + 1)) ⟨by show _ < _; omega, rfl, t + 1, _, _, by omega, rfl, rfl, rfl, rfl, by rw [e0, fb_ct_succ, hs, h3]; simp, nI_1 t⟩
set_option maxRecDepth 100000 in
set_option maxHeartbeats 4000000 in
theorem m_X8_strikesNow (l : Launch) : ip_Met l yX8_strikesNow cX8_strikesNow 3 (some .int) (ip_rm 3) C_X8_strikesNow := ip_met tb_X8_strikesNow 400 (by decide +kernel) fl_X8_ok cn_X8_ok (ip_cs1 (ip_gsV (m_X8_isHeld l) (ip_in [796, 798, 20, 39, 799] (by decide +kernel) (by decide +kernel)) rfl ⟨by decide +kernel, by decide +kernel, by decide +kernel⟩ ⟨rfl, rfl, Nat.le_of_ble_eq_true rfl, Nat.le_of_ble_eq_true rfl⟩) (ip_cs0)) ck_X8_strikesNow rfl p_X8_strikesNow
/-- the reference's readings are the system's -/
def relR (S : Nat → Nat) (G : Nat → Nat → Int32) (R : Nat → Int32) (N : Nat → Nat → Int32) : Prop := R 24 = nI (S 4) ∧ N 14 = G 4 ∧ N 15 = G 5 ∧ N 16 = G 6
def C_X8_areSo : ip_C := fun vs hp K => ∃ R N S G, vs = [.ref 0] ∧ hp = hpM R N ∧ wfM S ∧ wfR S G ∧ relM S R N 0 ∧ relR S G R N ∧ K (some (.int (ip_bi (allSo S G)))) hp
def cs_X8_areSo : List ip_G := [(147, 3, 8, C_X8_isHeld)]
def I_X8_areSo (R : Nat → Int32) (N : Nat → Nat → Int32) (S : Nat → Nat) (G : Nat → Nat → Int32) : Nat → Nat → ip_P := fun pc k L st hp => pc = 2 ∧ ∃ (t : Nat) (y : Int32), t ≤ S 4 ∧ k = 8 - t ∧ L = [some (.ref 0), some (.int y)] ∧ st = [] ∧ hp = hpM R N ∧ y = nI t ∧ anyb t (fun r => !isSo S G r) = false
theorem p_X8_areSo : ip_Pf fl_X8 cn_X8 cs_X8_areSo (some .boolean) tb_X8_areSo 2 C_X8_areSo := by
  rintro _ _ K ⟨R, N, S, G, rfl, rfl, hwf, ⟨t0, t1⟩, hrel, ⟨rr, g4, g5, g6⟩, hK⟩
  refine ⟨Nat.le_of_ble_eq_true rfl, I_X8_areSo R N S G, ?_, ?_⟩
  · exact Exists.intro 8 ⟨trivial, rfl, 0, _, by omega, rfl, rfl, rfl, rfl, rfl, rfl⟩
  · rintro pc k L st hp ⟨rfl, t, y, ht, rfl, rfl, rfl, rfl, rfl, hno⟩
    have b7 : ∀ {X Y : Prop}, (S 4 ≤ t → X) → (t < S 4 → Y) → (R 24 ≤ nI t → X) ∧ (¬ R 24 ≤ nI t → Y) := fun f g => by rw [rr]; exact pk_le (S 4) t f g
    refine b7 (fun h => ?_) (fun h => ?_)
    · obtain rfl : t = S 4 := by omega
      rw [allSo, hno] at hK
      exact And.intro rfl hK
    obtain ⟨e1, e2, e3, e4, e5⟩ := t1 t h
    have hc := nI_clamp (n := t) (by omega)
    refine And.intro (pk_in t 8 (by omega)) ?_
    refine And.intro (pk_in t 8 (by omega)) ?_
    refine Exists.intro R ⟨N, S, pN (G 4) t, pN (G 5) t, 0, by omega, e4, by decide, (by show [Value.ref 0, .int (N 14 (nI t).toNatClampNeg), .int (N 15 (nI t).toNatClampNeg)] = _; rw [hc, g4, g5, ← e1, ← e3]), rfl, hwf, hrel, ?_⟩
    refine And.intro (pk_in t 8 (by omega)) ?_
    have hso : (¬ ip_bi (heldS S (prS S 0 (pN (G 4) t)) (pN (G 5) t)) = N 16 (nI t).toNatClampNeg) ↔ isSo S G t = true := by
      rw [hc, g6, isSo, stk_held]
      rcases e5 with e5 | e5 <;> rw [e5] <;> cases stk S (pN (G 4) t) (pN (G 5) t) <;> decide
    refine And.intro (fun h3 => ?_) (fun h3 => ?_)
    · exact Exists.intro (8 - (t + 1)) ⟨by show _ < _; omega, rfl, t + 1, _, by omega, rfl, rfl, rfl, rfl, nI_1 t, by rw [anyb, hno, hso.mp h3]; rfl⟩
    · have h4 : isSo S G t = false := by
        cases h5 : isSo S G t
        · rfl
        · exact absurd h3 (hso.mpr h5)
      rw [allSo, anyb_true (i := t) h (by rw [h4]; rfl)] at hK
      exact And.intro rfl hK
set_option maxRecDepth 100000 in
set_option maxHeartbeats 4000000 in
theorem m_X8_areSo (l : Launch) : ip_Met l yX8_areSo cX8_areSo 2 (some .boolean) (ip_rm 3) C_X8_areSo := ip_met tb_X8_areSo 400 (by decide +kernel) fl_X8_ok cn_X8_ok (ip_cs1 (ip_gsV (m_X8_isHeld l) (ip_in [796, 798, 20, 39, 799] (by decide +kernel) (by decide +kernel)) rfl ⟨by decide +kernel, by decide +kernel, by decide +kernel⟩ ⟨rfl, rfl, Nat.le_of_ble_eq_true rfl, Nat.le_of_ble_eq_true rfl⟩) (ip_cs0)) ck_X8_areSo rfl p_X8_areSo
end
section
/-! ===== the reference and the system side by side: relA ===== -/
def relH (S : Nat → Nat) (G : Nat → Nat → Int32) (N : Nat → Nat → Int32) : Prop := ∀ k, k < 4 → (S (10 + k) = 0 → N 1 k = -9) ∧ (S (10 + k) = 1 → N 1 k = nI (S (20 + k)) ∧ N 2 k = nI (S (30 + k)) ∧ ∀ i, i < 60 → N 3 (60 * k + i) = G k i)
def relA (tc : Int32) (S : Nat → Nat) (G : Nat → Nat → Int32) (R : Nat → Int32) (N : Nat → Nat → Int32) : Prop := R 0 = nI (S 0) ∧ R 1 = tc ∧ relM S R N 0 ∧ relR S G R N ∧ relH S G N
theorem up_n {α : Type} {f : Nat → α} {k : Nat} {v : α} (j : Nat) (h : j ≠ k) : va_up f k v j = f j := va_up_ne f v h
theorem relM_S {S S' : Nat → Nat} {R : Nat → Int32} {N : Nat → Nat → Int32} {sl : Nat} (h : relM S R N sl) (e1 : S' 1 = S 1) (e2 : S' 2 = S 2) (e3 : S' 3 = S 3) (e4 : ∀ i, 40 ≤ i → S' i = S i) : relM S' R N sl := by
  obtain ⟨m5, m6, m7, m11, mm⟩ := h
  refine ⟨by rw [e1]; exact m5, by rw [e2]; exact m6, by rw [e3]; exact m7, m11, fun m hm => ?_⟩
  rw [e4 _ (by omega), e4 _ (by omega), e4 _ (by omega)]
  exact mm m hm
theorem relH_S {S S' : Nat → Nat} {G G' : Nat → Nat → Int32} {N N' : Nat → Nat → Int32} (h : relH S G N) (e : ∀ i, 10 ≤ i → i < 40 → S' i = S i) (eG : ∀ k, k < 4 → G' k = G k) (e1 : N' 1 = N 1) (e2 : N' 2 = N 2) (e3 : N' 3 = N 3) : relH S' G' N' := by
  intro k hk
  rw [e1, e2, e3, e _ (by omega) (by omega), e _ (by omega) (by omega), e _ (by omega) (by omega), eG k hk]
  exact h k hk
theorem relA_f {tc : Int32} {S : Nat → Nat} {G : Nat → Nat → Int32} {R : Nat → Int32} {N : Nat → Nat → Int32} (f : Nat) (h : relA tc S G R N) : relA tc (va_up S 0 f) G (va_up R 0 (nI f)) N := by
  obtain ⟨h0, h1, hm, hr, hh⟩ := h
  refine ⟨rfl, h1, ?_, hr, relH_S hh (fun i h1 h2 => up_n i (by omega)) (fun _ _ => rfl) rfl rfl rfl⟩
  have := relM_S (S' := va_up S 0 f) hm rfl rfl rfl (fun i hi => up_n i (by omega))
  exact this
theorem relA_tc {tc : Int32} {S : Nat → Nat} {G : Nat → Nat → Int32} {R : Nat → Int32} {N : Nat → Nat → Int32} (x : Int32) (h : relA tc S G R N) : relA x S G (va_up R 1 x) N := by
  obtain ⟨h0, h1, hm, hr, hh⟩ := h
  exact ⟨h0, rfl, hm, hr, hh⟩
theorem relM_t {S : Nat → Nat} {R : Nat → Int32} {N : Nat → Nat → Int32} {sl : Nat} (i : Nat) (h : relM S R N sl) : relM (va_up S 1 i) (va_up R 5 (nI i)) N sl := by
  obtain ⟨m5, m6, m7, m11, mm⟩ := h
  refine ⟨rfl, m6, m7, m11, fun m hm => ?_⟩
  rw [up_n (f := S) (40 + m) (by omega), up_n (f := S) (50 + m) (by omega), up_n (f := S) (60 + m) (by omega)]
  exact mm m hm
theorem relM_k {S : Nat → Nat} {R : Nat → Int32} {N : Nat → Nat → Int32} {sl j : Nat} (i : Nat) (hj : j < 4) (h : relM S R N sl) : relM (va_up S (40 + j) i) R (va_up N 4 (upd (N 4) (nI j).toNatClampNeg (nI i))) sl := by
  obtain ⟨m5, m6, m7, m11, mm⟩ := h
  rw [nI_clamp (by omega)]
  refine ⟨by rw [up_n (f := S) 1 (by omega)]; exact m5, by rw [up_n (f := S) 2 (by omega)]; exact m6, by rw [up_n (f := S) 3 (by omega)]; exact m7, m11, fun m hm => ?_⟩
  obtain ⟨a, b, c⟩ := mm m hm
  refine ⟨?_, by rw [up_n (f := S) (50 + m) (by omega)]; exact b, by rw [up_n (f := S) (60 + m) (by omega)]; exact c⟩
  by_cases e : m = j
  · subst e; simp [va_up, upd]
  · rw [up_n (f := S) (40 + m) (by omega), ← a]; simp [va_up, upd, e]
theorem relM_p {S : Nat → Nat} {R : Nat → Int32} {N : Nat → Nat → Int32} {sl j : Nat} (i : Nat) (hj : j < 4) (h : relM S R N sl) : relM (va_up S (50 + j) i) R (va_up N 5 (upd (N 5) (nI j).toNatClampNeg (nI i))) sl := by
  obtain ⟨m5, m6, m7, m11, mm⟩ := h
  rw [nI_clamp (by omega)]
  refine ⟨by rw [up_n (f := S) 1 (by omega)]; exact m5, by rw [up_n (f := S) 2 (by omega)]; exact m6, by rw [up_n (f := S) 3 (by omega)]; exact m7, m11, fun m hm => ?_⟩
  obtain ⟨a, b, c⟩ := mm m hm
  refine ⟨by rw [up_n (f := S) (40 + m) (by omega)]; exact a, ?_, by rw [up_n (f := S) (60 + m) (by omega)]; exact c⟩
  by_cases e : m = j
  · subst e; simp [va_up, upd]
  · rw [up_n (f := S) (50 + m) (by omega), ← b]; simp [va_up, upd, e]
theorem relM_l {S : Nat → Nat} {R : Nat → Int32} {N : Nat → Nat → Int32} {sl j : Nat} (i : Nat) (hj : j < 4) (h : relM S R N sl) : relM (va_up S (60 + j) i) R (va_up N 6 (upd (N 6) (nI j).toNatClampNeg (nI i))) sl := by
  obtain ⟨m5, m6, m7, m11, mm⟩ := h
  rw [nI_clamp (by omega)]
  refine ⟨by rw [up_n (f := S) 1 (by omega)]; exact m5, by rw [up_n (f := S) 2 (by omega)]; exact m6, by rw [up_n (f := S) 3 (by omega)]; exact m7, m11, fun m hm => ?_⟩
  obtain ⟨a, b, c⟩ := mm m hm
  refine ⟨by rw [up_n (f := S) (40 + m) (by omega)]; exact a, by rw [up_n (f := S) (50 + m) (by omega)]; exact b, ?_⟩
  by_cases e : m = j
  · subst e; simp [va_up, upd]
  · rw [up_n (f := S) (60 + m) (by omega), ← c]; simp [va_up, upd, e]
theorem relA_t {tc : Int32} {S : Nat → Nat} {G : Nat → Nat → Int32} {R : Nat → Int32} {N : Nat → Nat → Int32} (i : Nat) (h : relA tc S G R N) : relA tc (va_up S 1 i) G (va_up R 5 (nI i)) N := by
  obtain ⟨h0, h1, hm, hr, hh⟩ := h
  exact ⟨h0, h1, relM_t i hm, hr, relH_S hh (fun i h1 h2 => up_n i (by omega)) (fun _ _ => rfl) rfl rfl rfl⟩
theorem relA_m {tc : Int32} {S S' : Nat → Nat} {G : Nat → Nat → Int32} {R : Nat → Int32} {N N' : Nat → Nat → Int32} (h : relA tc S G R N) (hm : relM S' R N' 0) (e : ∀ i, i < 40 → S' i = S i) (n : N' 1 = N 1 ∧ N' 2 = N 2 ∧ N' 3 = N 3 ∧ N' 14 = N 14 ∧ N' 15 = N 15 ∧ N' 16 = N 16) : relA tc S' G R N' := by
  obtain ⟨h0, h1, -, ⟨r1, r2, r3, r4⟩, hh⟩ := h
  obtain ⟨n1, n2, n3, n4, n5, n6⟩ := n
  exact ⟨by rw [e 0 (by omega)]; exact h0, h1, hm, ⟨by rw [e 4 (by omega)]; exact r1, by rw [n4]; exact r2, by rw [n5]; exact r3, by rw [n6]; exact r4⟩, relH_S hh (fun i h1 h2 => e i h2) (fun _ _ => rfl) n1 n2 n3⟩
def C_X8_many : ip_C := fun vs hp K => ∃ tc S G R N, ∃ w : Int32, vs = [.ref 0, .int w] ∧ hp = hpM R N ∧ relA tc S G R N ∧ K (some (.int (r_many S w))) hp
def cs_X8_many : List ip_G := []
theorem p_X8_many : ip_Pf fl_X8 cn_X8 cs_X8_many (some .int) tb_X8_many 2 C_X8_many := ip_pf0 (by
  rintro _ _ K ⟨tc, S, G, R, N, w, rfl, rfl, ⟨h0, h1, ⟨m5, m6, m7, m11, mm⟩, ⟨r1, r2, r3, r4⟩, hh⟩, hK⟩
  refine ⟨Nat.le_of_ble_eq_true rfl, ?_⟩
  rw [r_many, ← m5, ← m6, ← m7, ← r1] at hK
  refine bz_ne w.toInt 0 (fun h => ?_) (fun h => ?_)
  · rw [if_neg h] at hK
    refine bz_ne w.toInt 1 (fun h => ?_) (fun h => ?_)
    · rw [if_neg h] at hK
      refine bz_ne w.toInt 2 (fun h => ?_) (fun h => ?_)
      · rw [if_neg h] at hK
        refine bz_ne w.toInt 3 (fun h => ?_) (fun h => ?_)
        · rw [if_neg h] at hK; exact hK
        · rw [if_pos h] at hK; exact hK
      · rw [if_pos h] at hK; exact hK
    · rw [if_pos h] at hK; exact hK
  · rw [if_pos h] at hK; exact hK)
set_option maxRecDepth 100000 in
set_option maxHeartbeats 4000000 in
theorem m_X8_many (l : Launch) : ip_Met l yX8_many cX8_many 2 (some .int) (ip_rm 0) C_X8_many := ip_met tb_X8_many 400 (by decide +kernel) fl_X8_ok cn_X8_ok (ip_cs0) ck_X8_many rfl p_X8_many
def C_X8_strikes : ip_C := fun vs hp K => ∃ S R N, ∃ p q : Int32, vs = [.ref 0, .int p, .int q] ∧ hp = hpM R N ∧ wfM S ∧ relM S R N 0 ∧ K (some (.int (r_strikes S p q))) hp
def cs_X8_strikes : List ip_G := [(131, 2, 8, C_X8_isParish), (137, 1, 0, C_X8_isQuestion), (147, 3, 8, C_X8_isHeld)]
theorem p_X8_strikes : ip_Pf fl_X8 cn_X8 cs_X8_strikes (some .int) tb_X8_strikes 3 C_X8_strikes := ip_pf0 (by
  rintro _ _ K ⟨S, R, N, p, q, rfl, rfl, hwf, hrel, hK⟩
  refine ⟨Nat.le_of_ble_eq_true rfl, ?_⟩
  refine Exists.intro R ⟨N, p, S 2, rfl, rfl, hrel.2.1, hwf.2.1, fun b hb => ?_⟩
  refine ip_bn (fun h => ?_) (fun h => ?_)
  · have hin : inI p (S 2) := hb.mp h
    rw [r_strikes, if_neg (not_not_intro hin)] at hK
    refine Exists.intro q ⟨rfl, fun b2 hb2 => ?_⟩
    refine ip_bn (fun h2 => ?_) (fun h2 => ?_)
    · have hin2 : inI q 6 := hb2.mp h2
      rw [if_neg (not_not_intro hin2)] at hK
      obtain ⟨i, hi, rfl, ei⟩ := ti_of hin.1
      obtain ⟨j, hj, rfl, ej⟩ := ti_of hin2.1
      rw [nt_n hi, nt_n hj] at hK
      have l2 : j < 6 := by have := hin2.2; omega
      have kk : ∀ c : Bool, stk S i j = c → K (some (.int (ip_bi c))) (hpM R N) := fun c e => by rw [← e]; exact hK
      refine Exists.intro R ⟨N, S, i, j, 0, hi, l2, by decide, rfl, rfl, hwf, hrel, ?_⟩
      rw [stk_held]
      refine ip_bt (fun h3 => ?_) (fun h3 => ?_)
      · exact kk true (by simpa using h3)
      · exact kk false (by simpa using h3)
    · have hin2 : ¬ inI q 6 := fun z => by rw [hb2.mpr z] at h2; cases h2
      rw [if_pos hin2] at hK
      exact hK
  · have hin : ¬ inI p (S 2) := fun z => by rw [hb.mpr z] at h; cases h
    rw [r_strikes, if_pos hin] at hK
    exact hK)
set_option maxRecDepth 100000 in
set_option maxHeartbeats 4000000 in
theorem m_X8_strikes (l : Launch) : ip_Met l yX8_strikes cX8_strikes 3 (some .int) (ip_rm 3) C_X8_strikes := ip_met tb_X8_strikes 400 (by decide +kernel) fl_X8_ok cn_X8_ok (ip_cs1 (ip_gsV (m_X8_isParish l) (ip_in [769, 771, 17, 39, 772] (by decide +kernel) (by decide +kernel)) rfl ⟨by decide +kernel, by decide +kernel, by decide +kernel⟩ ⟨rfl, rfl, Nat.le_of_ble_eq_true rfl, Nat.le_of_ble_eq_true rfl⟩) (ip_cs1 (ip_gsS (m_X8_isQuestion l) (ip_in [781, 782, 39, 783] (by decide +kernel) (by decide +kernel)) ⟨by decide +kernel, by decide +kernel, by decide +kernel⟩ ⟨rfl, rfl, Nat.le_of_ble_eq_true rfl, Nat.le_of_ble_eq_true rfl⟩) (ip_cs1 (ip_gsV (m_X8_isHeld l) (ip_in [796, 798, 20, 39, 799] (by decide +kernel) (by decide +kernel)) rfl ⟨by decide +kernel, by decide +kernel, by decide +kernel⟩ ⟨rfl, rfl, Nat.le_of_ble_eq_true rfl, Nat.le_of_ble_eq_true rfl⟩) (ip_cs0)))) ck_X8_strikes rfl p_X8_strikes
def C_X8_dangers : ip_C := fun vs hp K => ∃ S R N, ∃ p : Int32, vs = [.ref 0, .int p] ∧ hp = hpM R N ∧ wfM S ∧ relM S R N 0 ∧ K (some (.int (r_dangers S p))) hp
def cs_X8_dangers : List ip_G := [(131, 2, 8, C_X8_isParish), (150, 2, 8, C_X8_dangersOf)]
theorem p_X8_dangers : ip_Pf fl_X8 cn_X8 cs_X8_dangers (some .int) tb_X8_dangers 2 C_X8_dangers := ip_pf0 (by
  rintro _ _ K ⟨S, R, N, p, rfl, rfl, hwf, hrel, hK⟩
  refine ⟨Nat.le_of_ble_eq_true rfl, ?_⟩
  refine Exists.intro R ⟨N, p, S 2, rfl, rfl, hrel.2.1, hwf.2.1, fun b hb => ?_⟩
  refine ip_bt (fun h => ?_) (fun h => ?_)
  · have hin : ¬ inI p (S 2) := fun z => by rw [hb.mpr z] at h; cases h
    rw [r_dangers, if_pos hin] at hK
    exact hK
  · have hin : inI p (S 2) := hb.mp h
    rw [r_dangers, if_neg (not_not_intro hin)] at hK
    obtain ⟨i, hi, rfl, ei⟩ := ti_of hin.1
    rw [nt_n hi, ← dgpM_0] at hK
    exact Exists.intro R ⟨N, S, i, 0, hi, by decide, rfl, rfl, hwf, hrel, hK⟩)
set_option maxRecDepth 100000 in
set_option maxHeartbeats 4000000 in
theorem m_X8_dangers (l : Launch) : ip_Met l yX8_dangers cX8_dangers 2 (some .int) (ip_rm 4) C_X8_dangers := ip_met tb_X8_dangers 400 (by decide +kernel) fl_X8_ok cn_X8_ok (ip_cs1 (ip_gsV (m_X8_isParish l) (ip_in [769, 771, 17, 39, 772] (by decide +kernel) (by decide +kernel)) rfl ⟨by decide +kernel, by decide +kernel, by decide +kernel⟩ ⟨rfl, rfl, Nat.le_of_ble_eq_true rfl, Nat.le_of_ble_eq_true rfl⟩) (ip_cs1 (ip_gsV (m_X8_dangersOf l) (ip_in [804, 806, 21, 39, 807] (by decide +kernel) (by decide +kernel)) rfl ⟨by decide +kernel, by decide +kernel, by decide +kernel⟩ ⟨rfl, rfl, Nat.le_of_ble_eq_true rfl, Nat.le_of_ble_eq_true rfl⟩) (ip_cs0))) ck_X8_dangers rfl p_X8_dangers
def C_X8_answer : ip_C := fun vs hp K => ∃ S R N, ∃ m q : Int32, vs = [.ref 0, .int m, .int q] ∧ hp = hpM R N ∧ wfM S ∧ relM S R N 0 ∧ K (some (.int (r_answer S m q))) hp
def cs_X8_answer : List ip_G := [(125, 2, 8, C_X8_isMan), (137, 1, 0, C_X8_isQuestion), (140, 3, 8, C_X8_answerOf)]
theorem p_X8_answer : ip_Pf fl_X8 cn_X8 cs_X8_answer (some .int) tb_X8_answer 3 C_X8_answer := ip_pf0 (by
  rintro _ _ K ⟨S, R, N, m, q, rfl, rfl, hwf, hrel, hK⟩
  refine ⟨Nat.le_of_ble_eq_true rfl, ?_⟩
  have w3 := hwf.2.2.1
  refine Exists.intro R ⟨N, m, S 3, rfl, rfl, hrel.2.2.1, w3, fun b hb => ?_⟩
  refine ip_bn (fun h => ?_) (fun h => ?_)
  · have hin : inI m (S 3) := hb.mp h
    rw [r_answer, if_neg (not_not_intro hin)] at hK
    refine Exists.intro q ⟨rfl, fun b2 hb2 => ?_⟩
    refine ip_bt (fun h2 => ?_) (fun h2 => ?_)
    · have hin2 : ¬ inI q 6 := fun z => by rw [hb2.mpr z] at h2; cases h2
      rw [if_pos hin2] at hK
      exact hK
    · have hin2 : inI q 6 := hb2.mp h2
      rw [if_neg (not_not_intro hin2)] at hK
      obtain ⟨i, hi, rfl, ei⟩ := ti_of hin.1
      obtain ⟨j, hj, rfl, ej⟩ := ti_of hin2.1
      rw [nt_n hi, nt_n hj] at hK
      have l1 : i < 4 := by have := hin.2; omega
      have l2 : j < 6 := by have := hin2.2; omega
      exact Exists.intro R ⟨N, S, i, j, 0, l1, l2, rfl, rfl, hwf, hrel, hK⟩
  · have hin : ¬ inI m (S 3) := fun z => by rw [hb.mpr z] at h; cases h
    rw [r_answer, if_pos hin] at hK
    exact hK)
set_option maxRecDepth 100000 in
set_option maxHeartbeats 4000000 in
theorem m_X8_answer (l : Launch) : ip_Met l yX8_answer cX8_answer 3 (some .int) (ip_rm 2) C_X8_answer := ip_met tb_X8_answer 400 (by decide +kernel) fl_X8_ok cn_X8_ok (ip_cs1 (ip_gsV (m_X8_isMan l) (ip_in [754, 756, 16, 39, 757] (by decide +kernel) (by decide +kernel)) rfl ⟨by decide +kernel, by decide +kernel, by decide +kernel⟩ ⟨rfl, rfl, Nat.le_of_ble_eq_true rfl, Nat.le_of_ble_eq_true rfl⟩) (ip_cs1 (ip_gsS (m_X8_isQuestion l) (ip_in [781, 782, 39, 783] (by decide +kernel) (by decide +kernel)) ⟨by decide +kernel, by decide +kernel, by decide +kernel⟩ ⟨rfl, rfl, Nat.le_of_ble_eq_true rfl, Nat.le_of_ble_eq_true rfl⟩) (ip_cs1 (ip_gsV (m_X8_answerOf l) (ip_in [784, 786, 18, 39, 787] (by decide +kernel) (by decide +kernel)) rfl ⟨by decide +kernel, by decide +kernel, by decide +kernel⟩ ⟨rfl, rfl, Nat.le_of_ble_eq_true rfl, Nat.le_of_ble_eq_true rfl⟩) (ip_cs0)))) ck_X8_answer rfl p_X8_answer
end
section
/-! ===== the reference: men, truth, parts ===== -/
theorem man_at {S : Nat → Nat} {R : Nat → Int32} {N : Nat → Nat → Int32} {sl i : Nat} (h : relM S R N sl) (hi : i < 4) : vp_in (nI i) 4 ∧ N 4 (nI i).toNatClampNeg = nI (S (40 + i)) ∧ N 5 (nI i).toNatClampNeg = nI (S (50 + i)) ∧ N 6 (nI i).toNatClampNeg = nI (S (60 + i)) := by
  rw [nI_clamp (n := i) (by omega)]
  exact ⟨pk_in i 4 hi, h.2.2.2.2 i hi⟩
def C_X8_ofMan : ip_C := fun vs hp K => ∃ S R N, ∃ m w : Int32, vs = [.ref 0, .int m, .int w] ∧ hp = hpM R N ∧ wfM S ∧ relM S R N 0 ∧ K (some (.int (r_ofMan S m w))) hp
def cs_X8_ofMan : List ip_G := [(125, 2, 8, C_X8_isMan)]
theorem p_X8_ofMan : ip_Pf fl_X8 cn_X8 cs_X8_ofMan (some .int) tb_X8_ofMan 3 C_X8_ofMan := ip_pf0 (by
  rintro _ _ K ⟨S, R, N, m, w, rfl, rfl, hwf, hrel, hK⟩
  refine ⟨Nat.le_of_ble_eq_true rfl, ?_⟩
  have w3 := hwf.2.2.1
  refine Exists.intro R ⟨N, m, S 3, rfl, rfl, hrel.2.2.1, w3, fun b hb => ?_⟩
  refine ip_bn (fun h => ?_) (fun h => ?_)
  · have hin : inI m (S 3) := hb.mp h
    rw [r_ofMan, if_neg (not_not_intro hin)] at hK
    obtain ⟨i, hi, rfl, ei⟩ := ti_of hin.1
    have l1 : i < 4 := by have := hin.2; omega
    obtain ⟨hv, e4, e5, e6⟩ := man_at hrel l1
    rw [nt_n hi, ← e4, ← e5, ← e6] at hK
    refine bz_ne w.toInt 0 (fun h => ?_) (fun h => ?_)
    · rw [if_neg h] at hK
      refine bz_ne w.toInt 1 (fun h => ?_) (fun h => ?_)
      · rw [if_neg h] at hK
        refine bz_ne w.toInt 2 (fun h => ?_) (fun h => ?_)
        · rw [if_neg h] at hK; exact hK
        · rw [if_pos h] at hK; exact And.intro hv hK
      · rw [if_pos h] at hK; exact And.intro hv hK
    · rw [if_pos h] at hK; exact And.intro hv hK
  · have hin : ¬ inI m (S 3) := fun z => by rw [hb.mpr z] at h; cases h
    rw [r_ofMan, if_pos hin] at hK
    exact hK)
set_option maxRecDepth 100000 in
set_option maxHeartbeats 4000000 in
theorem m_X8_ofMan (l : Launch) : ip_Met l yX8_ofMan cX8_ofMan 3 (some .int) (ip_rm 1) C_X8_ofMan := ip_met tb_X8_ofMan 400 (by decide +kernel) fl_X8_ok cn_X8_ok (ip_cs1 (ip_gsV (m_X8_isMan l) (ip_in [754, 756, 16, 39, 757] (by decide +kernel) (by decide +kernel)) rfl ⟨by decide +kernel, by decide +kernel, by decide +kernel⟩ ⟨rfl, rfl, Nat.le_of_ble_eq_true rfl, Nat.le_of_ble_eq_true rfl⟩) (ip_cs0)) ck_X8_ofMan rfl p_X8_ofMan
def C_X8_truth : ip_C := fun vs hp K => ∃ tc S G R N, ∃ a : Int32, vs = [.ref 0, .int a] ∧ hp = hpM R N ∧ wfC S G ∧ relA tc S G R N ∧ ∀ R' N', relA tc (q_truth S a).2 G R' N' → K (some (.int (q_truth S a).1)) (hpM R' N')
def cs_X8_truth : List ip_G := [(128, 1, 0, C_X8_isSet)]
theorem p_X8_truth : ip_Pf fl_X8 cn_X8 cs_X8_truth (some .int) tb_X8_truth 3 C_X8_truth := ip_pf0 (by
  rintro _ _ K ⟨tc, S, G, R, N, a, rfl, rfl, hwf, hrel, hK⟩
  refine ⟨Nat.le_of_ble_eq_true rfl, ?_⟩
  obtain ⟨m5, m6, m7, -⟩ := hrel.2.2.1
  have w3 := hwf.1.2.2.1
  have w5 := hwf.2.2.2.2.1
  refine Exists.intro a ⟨rfl, fun b hb => ?_⟩
  have b7 : ∀ {X Y : Prop}, (S 3 ≠ 0 → X) → (S 3 = 0 → Y) → (¬ R 7 = 0 → X) ∧ (R 7 = 0 → Y) := fun f g => by rw [m7]; exact pk_ne (S 3) 0 f g
  refine ip_bn (fun h => ?_) (fun h => ?_)
  · have hin : inI a 64 := hb.mp h
    rw [q_truth, if_neg (not_not_intro hin)] at hK
    refine b7 (fun h2 => ?_) (fun h2 => ?_)
    · rw [if_neg (fun z => h2 (w5.mp z))] at hK
      obtain ⟨i, hi, rfl, ei⟩ := ti_of hin.1
      rw [nt_n hi, ← m5] at hK
      exact hK (va_up R 5 (nI i)) N (relA_t i hrel)
    · rw [if_pos (w5.mpr h2)] at hK
      exact hK R N hrel
  · have hin : ¬ inI a 64 := fun z => by rw [hb.mpr z] at h; cases h
    rw [q_truth, if_pos hin] at hK
    exact hK R N hrel)
set_option maxRecDepth 100000 in
set_option maxHeartbeats 4000000 in
theorem m_X8_truth (l : Launch) : ip_Met l yX8_truth cX8_truth 3 (some .int) (ip_rm 2) C_X8_truth := ip_met tb_X8_truth 400 (by decide +kernel) fl_X8_ok cn_X8_ok (ip_cs1 (ip_gsS (m_X8_isSet l) (ip_in [762, 763, 39, 764] (by decide +kernel) (by decide +kernel)) ⟨by decide +kernel, by decide +kernel, by decide +kernel⟩ ⟨rfl, rfl, Nat.le_of_ble_eq_true rfl, Nat.le_of_ble_eq_true rfl⟩) (ip_cs0)) ck_X8_truth rfl p_X8_truth
theorem relA_p {tc : Int32} {S : Nat → Nat} {G : Nat → Nat → Int32} {R : Nat → Int32} {N : Nat → Nat → Int32} {j : Nat} (i : Nat) (hj : j < 4) (h : relA tc S G R N) : relA tc (va_up S (50 + j) i) G R (va_up N 5 (upd (N 5) (nI j).toNatClampNeg (nI i))) :=
  relA_m h (relM_p i hj h.2.2.1) (fun i hi => up_n i (by omega)) ⟨rfl, rfl, rfl, rfl, rfl, rfl⟩
theorem relA_l {tc : Int32} {S : Nat → Nat} {G : Nat → Nat → Int32} {R : Nat → Int32} {N : Nat → Nat → Int32} {j : Nat} (i : Nat) (hj : j < 4) (h : relA tc S G R N) : relA tc (va_up S (60 + j) i) G R (va_up N 6 (upd (N 6) (nI j).toNatClampNeg (nI i))) :=
  relA_m h (relM_l i hj h.2.2.1) (fun i hi => up_n i (by omega)) ⟨rfl, rfl, rfl, rfl, rfl, rfl⟩
theorem relA_k {tc : Int32} {S : Nat → Nat} {G : Nat → Nat → Int32} {R : Nat → Int32} {N : Nat → Nat → Int32} {j : Nat} (i : Nat) (hj : j < 4) (h : relA tc S G R N) : relA tc (va_up S (40 + j) i) G R (va_up N 4 (upd (N 4) (nI j).toNatClampNeg (nI i))) :=
  relA_m h (relM_k i hj h.2.2.1) (fun i hi => up_n i (by omega)) ⟨rfl, rfl, rfl, rfl, rfl, rfl⟩
def C_X8_stand : ip_C := fun vs hp K => ∃ tc S G R N, ∃ m p : Int32, vs = [.ref 0, .int m, .int p] ∧ hp = hpM R N ∧ wfC S G ∧ relA tc S G R N ∧ ∀ R' N', relA tc (q_stand S m p).2 G R' N' → K (some (.int (q_stand S m p).1)) (hpM R' N')
def cs_X8_stand : List ip_G := [(125, 2, 8, C_X8_isMan), (131, 2, 8, C_X8_isParish)]
theorem p_X8_stand : ip_Pf fl_X8 cn_X8 cs_X8_stand (some .int) tb_X8_stand 4 C_X8_stand := ip_pf0 (by
  rintro _ _ K ⟨tc, S, G, R, N, m, p, rfl, rfl, hwf, hrel, hK⟩
  refine ⟨Nat.le_of_ble_eq_true rfl, ?_⟩
  obtain ⟨m5, m6, m7, -⟩ := id hrel.2.2.1
  have w3 := hwf.1.2.2.1
  refine Exists.intro R ⟨N, m, S 3, rfl, rfl, m7, w3, fun b hb => ?_⟩
  refine ip_bt (fun h => ?_) (fun h => ?_)
  · have hin : ¬ inI m (S 3) := fun z => by rw [hb.mpr z] at h; cases h
    rw [q_stand, if_pos hin] at hK
    exact hK R N hrel
  have hin : inI m (S 3) := hb.mp h
  rw [q_stand, if_neg (not_not_intro hin)] at hK
  refine Exists.intro R ⟨N, p, S 2, rfl, rfl, m6, hwf.1.2.1, fun b2 hb2 => ?_⟩
  refine ip_bn (fun h2 => ?_) (fun h2 => ?_)
  · have hin2 : inI p (S 2) := hb2.mp h2
    rw [if_neg (not_not_intro hin2)] at hK
    obtain ⟨i, hi, rfl, ei⟩ := ti_of hin.1
    obtain ⟨j, hj, rfl, ej⟩ := ti_of hin2.1
    have l1 : i < 4 := by have := hin.2; omega
    obtain ⟨hv, e4, e5, e6⟩ := man_at hrel.2.2.1 l1
    rw [nt_n hi, nt_n hj, ← e5] at hK
    exact And.intro hv (And.intro hv (hK R _ (relA_p j l1 hrel)))
  · have hin2 : ¬ inI p (S 2) := fun z => by rw [hb2.mpr z] at h2; cases h2
    rw [if_pos hin2] at hK
    exact hK R N hrel)
set_option maxRecDepth 100000 in
set_option maxHeartbeats 4000000 in
theorem m_X8_stand (l : Launch) : ip_Met l yX8_stand cX8_stand 4 (some .int) (ip_rm 1) C_X8_stand := ip_met tb_X8_stand 400 (by decide +kernel) fl_X8_ok cn_X8_ok (ip_cs1 (ip_gsV (m_X8_isMan l) (ip_in [754, 756, 16, 39, 757] (by decide +kernel) (by decide +kernel)) rfl ⟨by decide +kernel, by decide +kernel, by decide +kernel⟩ ⟨rfl, rfl, Nat.le_of_ble_eq_true rfl, Nat.le_of_ble_eq_true rfl⟩) (ip_cs1 (ip_gsV (m_X8_isParish l) (ip_in [769, 771, 17, 39, 772] (by decide +kernel) (by decide +kernel)) rfl ⟨by decide +kernel, by decide +kernel, by decide +kernel⟩ ⟨rfl, rfl, Nat.le_of_ble_eq_true rfl, Nat.le_of_ble_eq_true rfl⟩) (ip_cs0))) ck_X8_stand rfl p_X8_stand
def C_X8_learn : ip_C := fun vs hp K => ∃ tc S G R N, ∃ m a : Int32, vs = [.ref 0, .int m, .int a] ∧ hp = hpM R N ∧ wfC S G ∧ relA tc S G R N ∧ ∀ R' N', relA tc (q_learn S m a).2 G R' N' → K (some (.int (q_learn S m a).1)) (hpM R' N')
def cs_X8_learn : List ip_G := [(125, 2, 8, C_X8_isMan), (128, 1, 0, C_X8_isSet)]
theorem p_X8_learn : ip_Pf fl_X8 cn_X8 cs_X8_learn (some .int) tb_X8_learn 4 C_X8_learn := ip_pf0 (by
  rintro _ _ K ⟨tc, S, G, R, N, m, p, rfl, rfl, hwf, hrel, hK⟩
  refine ⟨Nat.le_of_ble_eq_true rfl, ?_⟩
  obtain ⟨m5, m6, m7, -⟩ := id hrel.2.2.1
  have w3 := hwf.1.2.2.1
  refine Exists.intro R ⟨N, m, S 3, rfl, rfl, m7, w3, fun b hb => ?_⟩
  refine ip_bn (fun h => ?_) (fun h => ?_)
  · have hin : inI m (S 3) := hb.mp h
    rw [q_learn, if_neg (not_not_intro hin)] at hK
    refine Exists.intro p ⟨rfl, fun b2 hb2 => ?_⟩
    refine ip_bn (fun h2 => ?_) (fun h2 => ?_)
    · have hin2 : inI p 64 := hb2.mp h2
      rw [if_neg (not_not_intro hin2)] at hK
      obtain ⟨i, hi, rfl, ei⟩ := ti_of hin.1
      obtain ⟨j, hj, rfl, ej⟩ := ti_of hin2.1
      have l1 : i < 4 := by have := hin.2; omega
      obtain ⟨hv, e4, e5, e6⟩ := man_at hrel.2.2.1 l1
      rw [nt_n hi, nt_n hj, ← e6] at hK
      exact And.intro hv (And.intro hv (hK R _ (relA_l j l1 hrel)))
    · have hin2 : ¬ inI p 64 := fun z => by rw [hb2.mpr z] at h2; cases h2
      rw [if_pos hin2] at hK
      exact hK R N hrel
  · have hin : ¬ inI m (S 3) := fun z => by rw [hb.mpr z] at h; cases h
    rw [q_learn, if_pos hin] at hK
    exact hK R N hrel)
set_option maxRecDepth 100000 in
set_option maxHeartbeats 4000000 in
theorem m_X8_learn (l : Launch) : ip_Met l yX8_learn cX8_learn 4 (some .int) (ip_rm 2) C_X8_learn := ip_met tb_X8_learn 400 (by decide +kernel) fl_X8_ok cn_X8_ok (ip_cs1 (ip_gsV (m_X8_isMan l) (ip_in [754, 756, 16, 39, 757] (by decide +kernel) (by decide +kernel)) rfl ⟨by decide +kernel, by decide +kernel, by decide +kernel⟩ ⟨rfl, rfl, Nat.le_of_ble_eq_true rfl, Nat.le_of_ble_eq_true rfl⟩) (ip_cs1 (ip_gsS (m_X8_isSet l) (ip_in [762, 763, 39, 764] (by decide +kernel) (by decide +kernel)) ⟨by decide +kernel, by decide +kernel, by decide +kernel⟩ ⟨rfl, rfl, Nat.le_of_ble_eq_true rfl, Nat.le_of_ble_eq_true rfl⟩) (ip_cs0))) ck_X8_learn rfl p_X8_learn
def C_X8_tell : ip_C := fun vs hp K => ∃ tc S G R N, ∃ m : Int32, vs = [.ref 0, .int m] ∧ hp = hpM R N ∧ wfC S G ∧ relA tc S G R N ∧ ∀ R' N', relA (q_tell tc S m).2 S G R' N' → K (some (.int (q_tell tc S m).1)) (hpM R' N')
def cs_X8_tell : List ip_G := [(125, 2, 8, C_X8_isMan), (198, 2, 8, C_X8_begins)]
theorem twice_pl : ∀ p : Fin 6, 2 * nI p.val + 100 = nI p.val + 100 + nI p.val := by decide +kernel
theorem p_X8_tell : ip_Pf fl_X8 cn_X8 cs_X8_tell (some .int) tb_X8_tell 3 C_X8_tell := ip_pf0 (by
  rintro _ _ K ⟨tc, S, G, R, N, m, rfl, rfl, hwf, hrel, hK⟩
  refine ⟨Nat.le_of_ble_eq_true rfl, ?_⟩
  obtain ⟨m5, m6, m7, -⟩ := id hrel.2.2.1
  have hR1 := hrel.2.1
  have w3 := hwf.1.2.2.1
  refine Exists.intro R ⟨N, m, S 3, rfl, rfl, m7, w3, fun b hb => ?_⟩
  refine ip_bn (fun h => ?_) (fun h => ?_)
  · have hin : inI m (S 3) := hb.mp h
    rw [q_tell, if_neg (not_not_intro hin)] at hK
    obtain ⟨i, hi, rfl, ei⟩ := ti_of hin.1
    have l1 : i < 4 := by have := hin.2; omega
    obtain ⟨k1, k2, k3⟩ := hwf.1.2.2.2 i l1
    obtain ⟨hv, e4, e5, e6⟩ := man_at hrel.2.2.1 l1
    have tw := twice_pl ⟨S (50 + i), k2⟩
    simp only at tw
    rw [nt_n hi, ← tw, ← e5, ← hR1] at hK
    rw [← hR1] at hrel
    have t4 : (N 4 (nI i).toNatClampNeg).toInt = (S (40 + i) : Int) := by rw [e4]; exact ti_n (by omega)
    have g1 : ∀ {X Y : Prop}, (S (40 + i) = 1 → X) → (S (40 + i) ≠ 1 → Y) → ((1 : Int) = (N 4 (nI i).toNatClampNeg).toInt → X) ∧ (¬ (1 : Int) = (N 4 (nI i).toNatClampNeg).toInt → Y) := fun f g => by rw [t4]; exact ⟨fun h => f (by omega), fun h => g (by omega)⟩
    have g2 : ∀ {X Y : Prop}, (S (40 + i) = 2 → X) → (S (40 + i) ≠ 2 → Y) → ((2 : Int) = (N 4 (nI i).toNatClampNeg).toInt → X) ∧ (¬ (2 : Int) = (N 4 (nI i).toNatClampNeg).toInt → Y) := fun f g => by rw [t4]; exact ⟨fun h => f (by omega), fun h => g (by omega)⟩
    refine And.intro hv (And.intro hv ?_)
    refine g1 (fun h => ?_) (fun h => ?_)
    · rw [if_pos h] at hK
      refine Exists.intro R ⟨N, 2, rfl, rfl, ?_⟩
      refine Exists.intro _ ⟨N, 1, rfl, rfl, ?_⟩
      exact hK _ N (relA_tc _ (relA_tc _ hrel))
    rw [if_neg h] at hK
    refine g2 (fun h => ?_) (fun h => ?_)
    · rw [if_pos h] at hK
      refine Exists.intro R ⟨N, 3, rfl, rfl, ?_⟩
      refine Exists.intro _ ⟨N, 2, rfl, rfl, ?_⟩
      refine Exists.intro _ ⟨N, 1, rfl, rfl, ?_⟩
      refine Exists.intro _ ⟨N, 1, rfl, rfl, ?_⟩
      exact hK _ N (relA_tc _ (relA_tc _ (relA_tc _ (relA_tc _ hrel))))
    · rw [if_neg h] at hK
      refine Exists.intro R ⟨N, 1, rfl, rfl, ?_⟩
      exact hK _ N (relA_tc _ hrel)
  · have hin : ¬ inI m (S 3) := fun z => by rw [hb.mpr z] at h; cases h
    rw [q_tell, if_pos hin] at hK
    exact hK R N hrel)
set_option maxRecDepth 100000 in
set_option maxHeartbeats 4000000 in
theorem m_X8_tell (l : Launch) : ip_Met l yX8_tell cX8_tell 3 (some .int) (ip_rm 1) C_X8_tell := ip_met tb_X8_tell 400 (by decide +kernel) fl_X8_ok cn_X8_ok (ip_cs1 (ip_gsV (m_X8_isMan l) (ip_in [754, 756, 16, 39, 757] (by decide +kernel) (by decide +kernel)) rfl ⟨by decide +kernel, by decide +kernel, by decide +kernel⟩ ⟨rfl, rfl, Nat.le_of_ble_eq_true rfl, Nat.le_of_ble_eq_true rfl⟩) (ip_cs1 (ip_gsV (m_X8_begins l) (ip_in [927, 929, 30, 39, 930] (by decide +kernel) (by decide +kernel)) rfl ⟨by decide +kernel, by decide +kernel, by decide +kernel⟩ ⟨rfl, rfl, Nat.le_of_ble_eq_true rfl, Nat.le_of_ble_eq_true rfl⟩) (ip_cs0))) ck_X8_tell rfl p_X8_tell
def C_X8_hail : ip_C := fun vs hp K => ∃ tc S G R N, ∃ m : Int32, vs = [.ref 0, .int m] ∧ hp = hpM R N ∧ wfC S G ∧ relA tc S G R N ∧ ∀ R' N', relA (q_hail tc S m).2 S G R' N' → K (some (.int (q_hail tc S m).1)) (hpM R' N')
def cs_X8_hail : List ip_G := [(125, 2, 8, C_X8_isMan), (198, 2, 8, C_X8_begins)]
theorem p_X8_hail : ip_Pf fl_X8 cn_X8 cs_X8_hail (some .int) tb_X8_hail 2 C_X8_hail := ip_pf0 (by
  rintro _ _ K ⟨tc, S, G, R, N, m, rfl, rfl, hwf, hrel, hK⟩
  refine ⟨Nat.le_of_ble_eq_true rfl, ?_⟩
  obtain ⟨m5, m6, m7, -⟩ := id hrel.2.2.1
  have hR1 := hrel.2.1
  have w3 := hwf.1.2.2.1
  refine Exists.intro R ⟨N, m, S 3, rfl, rfl, m7, w3, fun b hb => ?_⟩
  refine ip_bn (fun h => ?_) (fun h => ?_)
  · have hin : inI m (S 3) := hb.mp h
    rw [q_hail, if_neg (not_not_intro hin)] at hK
    obtain ⟨i, hi, rfl, ei⟩ := ti_of hin.1
    have l1 : i < 4 := by have := hin.2; omega
    obtain ⟨k1, k2, k3⟩ := hwf.1.2.2.2 i l1
    obtain ⟨hv, e4, e5, e6⟩ := man_at hrel.2.2.1 l1
    rw [nt_n hi, ← hR1] at hK
    rw [← hR1] at hrel
    have g2 : ∀ {X Y : Prop}, (S (40 + i) ≠ 2 → X) → (S (40 + i) = 2 → Y) → (¬ N 4 (nI i).toNatClampNeg = 2 → X) ∧ (N 4 (nI i).toNatClampNeg = 2 → Y) := fun f g => by rw [e4]; exact pk_ne _ 2 f g
    refine And.intro hv ?_
    refine g2 (fun h => ?_) (fun h => ?_)
    · rw [if_neg h] at hK
      refine Exists.intro R ⟨N, 4, rfl, rfl, ?_⟩
      refine And.intro hv ?_
      refine g2 (fun h2 => ?_) (fun h2 => absurd h2 h)
      exact hK _ N (relA_tc _ hrel)
    · rw [if_pos h] at hK
      refine Exists.intro R ⟨N, 5, rfl, rfl, ?_⟩
      refine And.intro hv ?_
      refine g2 (fun h2 => absurd h h2) (fun h2 => ?_)
      exact hK _ N (relA_tc _ hrel)
  · have hin : ¬ inI m (S 3) := fun z => by rw [hb.mpr z] at h; cases h
    rw [q_hail, if_pos hin] at hK
    exact hK R N hrel)
set_option maxRecDepth 100000 in
set_option maxHeartbeats 4000000 in
theorem m_X8_hail (l : Launch) : ip_Met l yX8_hail cX8_hail 2 (some .int) (ip_rm 1) C_X8_hail := ip_met tb_X8_hail 400 (by decide +kernel) fl_X8_ok cn_X8_ok (ip_cs1 (ip_gsV (m_X8_isMan l) (ip_in [754, 756, 16, 39, 757] (by decide +kernel) (by decide +kernel)) rfl ⟨by decide +kernel, by decide +kernel, by decide +kernel⟩ ⟨rfl, rfl, Nat.le_of_ble_eq_true rfl, Nat.le_of_ble_eq_true rfl⟩) (ip_cs1 (ip_gsV (m_X8_begins l) (ip_in [927, 929, 30, 39, 930] (by decide +kernel) (by decide +kernel)) rfl ⟨by decide +kernel, by decide +kernel, by decide +kernel⟩ ⟨rfl, rfl, Nat.le_of_ble_eq_true rfl, Nat.le_of_ble_eq_true rfl⟩) (ip_cs0))) ck_X8_hail rfl p_X8_hail
def C_X8_as : ip_C := fun vs hp K => ∃ tc S G R N, ∃ m k : Int32, vs = [.ref 0, .int m, .int k] ∧ hp = hpM R N ∧ wfC S G ∧ relA tc S G R N ∧ ∀ R' N', relA tc (q_as S m k).2 G R' N' → K (some (.int (q_as S m k).1)) (hpM R' N')
def cs_X8_as : List ip_G := [(125, 2, 8, C_X8_isMan), (65, 3, 0, C_X8_within), (93, 2, 8, C_X8_fails)]
theorem p_X8_as : ip_Pf fl_X8 cn_X8 cs_X8_as (some .int) tb_X8_as 3 C_X8_as := ip_pf0 (by
  rintro _ _ K ⟨tc, S, G, R, N, m, k, rfl, rfl, hwf, hrel, hK⟩
  refine ⟨Nat.le_of_ble_eq_true rfl, ?_⟩
  obtain ⟨m5, m6, m7, -⟩ := id hrel.2.2.1
  have w3 := hwf.1.2.2.1
  have h0 := relA_f 0 hrel
  refine Exists.intro (va_up R 0 0) ⟨N, m, S 3, rfl, rfl, m7, w3, fun b hb => ?_⟩
  refine ip_bn (fun h => ?_) (fun h => ?_)
  · have hin : inI m (S 3) := hb.mp h
    rw [q_as, if_neg (not_not_intro hin)] at hK
    obtain ⟨i, hi, rfl, ei⟩ := ti_of hin.1
    have l1 : i < 4 := by have := hin.2; omega
    obtain ⟨k1, k2, k3⟩ := hwf.1.2.2.2 i l1
    obtain ⟨hv, e4, e5, e6⟩ := man_at hrel.2.2.1 l1
    rw [nt_n hi] at hK
    refine Exists.intro k ⟨0, 2, rfl, fun b2 hb2 => ?_⟩
    have hb2 : b2 = true ↔ inI k 3 := by
      have t0 : (0 : Int32).toInt = 0 := by decide
      have t2 : (2 : Int32).toInt = 2 := by decide
      rw [hb2, t0, t2]
      unfold inI
      omega
    have g2 : ∀ {X Y : Prop}, ((S (40 + i) : Int) < k.toInt → X) → (k.toInt ≤ S (40 + i) → Y) → (N 4 (nI i).toNatClampNeg < k → X) ∧ (¬ N 4 (nI i).toNatClampNeg < k → Y) := fun f g => by rw [e4]; exact bz_lt _ _ f g (ti_n (by omega)) rfl
    refine ip_bn (fun h2 => ?_) (fun h2 => ?_)
    · have hin2 : inI k 3 := hb2.mp h2
      rw [if_neg (not_not_intro hin2)] at hK
      refine And.intro hv ?_
      refine g2 (fun h3 => ?_) (fun h3 => ?_)
      · rw [if_neg (by omega)] at hK
        refine Exists.intro (va_up R 0 0) ⟨N, 2, rfl, rfl, ?_⟩
        exact hK (va_up R 0 (nI 2)) N (relA_f 2 hrel)
      · rw [if_pos h3] at hK
        exact hK _ N h0
    · have hin2 : ¬ inI k 3 := fun z => by rw [hb2.mpr z] at h2; cases h2
      rw [if_pos hin2] at hK
      exact hK _ N h0
  · have hin : ¬ inI m (S 3) := fun z => by rw [hb.mpr z] at h; cases h
    rw [q_as, if_pos hin] at hK
    exact hK _ N h0)
set_option maxRecDepth 100000 in
set_option maxHeartbeats 4000000 in
theorem m_X8_as (l : Launch) : ip_Met l yX8_as cX8_as 3 (some .int) (ip_rm 1) C_X8_as := ip_met tb_X8_as 400 (by decide +kernel) fl_X8_ok cn_X8_ok (ip_cs1 (ip_gsV (m_X8_isMan l) (ip_in [754, 756, 16, 39, 757] (by decide +kernel) (by decide +kernel)) rfl ⟨by decide +kernel, by decide +kernel, by decide +kernel⟩ ⟨rfl, rfl, Nat.le_of_ble_eq_true rfl, Nat.le_of_ble_eq_true rfl⟩) (ip_cs1 (ip_gsS (m_X8_within l) (ip_in [716, 717, 39, 718] (by decide +kernel) (by decide +kernel)) ⟨by decide +kernel, by decide +kernel, by decide +kernel⟩ ⟨rfl, rfl, Nat.le_of_ble_eq_true rfl, Nat.le_of_ble_eq_true rfl⟩) (ip_cs1 (ip_gsV (m_X8_fails l) (ip_in [726, 728, 10, 39, 729] (by decide +kernel) (by decide +kernel)) rfl ⟨by decide +kernel, by decide +kernel, by decide +kernel⟩ ⟨rfl, rfl, Nat.le_of_ble_eq_true rfl, Nat.le_of_ble_eq_true rfl⟩) (ip_cs0)))) ck_X8_as rfl p_X8_as
end
section
/-! ===== the reference: sheets ===== -/
theorem ln_ne9 : ∀ l : Fin 3, ¬ nI l.val = -9 := by decide +kernel
theorem sh_at {S : Nat → Nat} {G N : Nat → Nat → Int32} {k : Nat} (h : relH S G N) (hw : wfH S) (hk : k < 4) : vp_in (nI k) 4 ∧ (S (10 + k) = 0 ∧ N 1 (nI k).toNatClampNeg = -9 ∨ S (10 + k) = 1 ∧ N 1 (nI k).toNatClampNeg = nI (S (20 + k)) ∧ ¬ N 1 (nI k).toNatClampNeg = -9 ∧ N 2 (nI k).toNatClampNeg = nI (S (30 + k)) ∧ (∀ i, i < 60 → N 3 (60 * k + i) = G k i) ∧ S (20 + k) ≤ 2 ∧ S (30 + k) ≤ 60) := by
  rw [nI_clamp (n := k) (by omega)]
  obtain ⟨a, b⟩ := h k hk
  obtain ⟨w1, w2, w3⟩ := hw k hk
  refine ⟨pk_in k 4 hk, ?_⟩
  by_cases e : S (10 + k) = 0
  · exact .inl ⟨e, a e⟩
  · have e1 : S (10 + k) = 1 := by omega
    obtain ⟨c1, c2, c3⟩ := b e1
    exact .inr ⟨e1, c1, by rw [c1]; exact ln_ne9 ⟨_, by omega⟩, c2, c3, w2, w3⟩
def C_X8_against : ip_C := fun vs hp K => ∃ S G R N, ∃ (k : Nat) (w i n : Int32), k < 4 ∧ vs = [.ref 0, .int (nI k), .int w, .int i, .int n] ∧ hp = hpM R N ∧ wfH S ∧ relH S G N ∧ K (some (.int (nI (fo S k w.toInt i.toInt n.toInt)))) hp
def cs_X8_against : List ip_G := []
theorem p_X8_against : ip_Pf fl_X8 cn_X8 cs_X8_against (some .int) tb_X8_against 5 C_X8_against := ip_pf0 (by
  rintro _ _ K ⟨S, G, R, N, k, w, i, n, hk, rfl, rfl, hw, hrel, hK⟩
  refine ⟨Nat.le_of_ble_eq_true rfl, ?_⟩
  obtain ⟨hv, ⟨z0, e1⟩ | ⟨z1, e1, e9, e2, -, l2, l3⟩⟩ := sh_at hrel hw hk
  · rw [fo, if_pos z0] at hK
    refine And.intro hv (And.intro (fun _ => ?_) (fun z => absurd e1 z))
    exact And.intro hv (And.intro (fun z => absurd e1 z) (fun _ => hK))
  · rw [fo, if_neg (by omega)] at hK
    have g1 : ∀ {X Y : Prop}, ((S (20 + k) : Int) = w.toInt → X) → ((S (20 + k) : Int) ≠ w.toInt → Y) → (N 1 (nI k).toNatClampNeg = w → X) ∧ (¬ N 1 (nI k).toNatClampNeg = w → Y) := fun f g => by rw [e1]; exact bz_eq _ _ f g (ti_n (by omega)) rfl
    have g2 : ∀ {X Y : Prop}, ((S (30 + k) : Int) < i.toInt → X) → (i.toInt ≤ S (30 + k) → Y) → (N 2 (nI k).toNatClampNeg < i → X) ∧ (¬ N 2 (nI k).toNatClampNeg < i → Y) := fun f g => by rw [e2]; exact bz_lt _ _ f g (ti_n (by omega)) rfl
    have g3 : ∀ {X Y : Prop}, 0 ≤ i.toInt → i.toInt ≤ S (30 + k) → (n.toInt + i.toInt ≤ S (30 + k) → X) → ((S (30 + k) : Int) < n.toInt + i.toInt → Y) → (n ≤ N 2 (nI k).toNatClampNeg - i → X) ∧ (¬ n ≤ N 2 (nI k).toNatClampNeg - i → Y) := fun h1 h2 f g => by
      obtain ⟨j, hj, rfl, ej⟩ := ti_of h1
      rw [e2, pk_sub (by omega)]
      exact bz_le n.toInt ((S (30 + k) - j : Nat) : Int) (fun z => f (by omega)) (fun z => g (by omega)) rfl (ti_n (by omega))
    refine And.intro hv (And.intro (fun z => absurd z e9) (fun _ => ?_))
    refine And.intro hv ?_
    refine g1 (fun h => ?_) (fun h => ?_)
    · rw [if_neg (not_not_intro h)] at hK
      refine And.intro hv (And.intro (fun _ => ?_) (fun z => absurd z e9))
      refine bz_le 0 n.toInt (fun h2 => ?_) (fun h2 => ?_)
      · rw [if_neg (by omega)] at hK
        refine bz_lt i.toInt 0 (fun h3 => ?_) (fun h3 => ?_)
        · rw [if_neg (by omega)] at hK
          exact hK
        refine And.intro hv ?_
        refine g2 (fun h4 => ?_) (fun h4 => ?_)
        · rw [if_neg (by omega)] at hK
          exact hK
        refine And.intro hv ?_
        refine g3 h3 h4 (fun h5 => ?_) (fun h5 => ?_)
        · rw [if_pos (by omega)] at hK
          exact hK
        · rw [if_neg (by omega)] at hK
          exact hK
      · rw [if_pos h2] at hK
        exact hK
    · rw [if_pos h] at hK
      exact hK)
set_option maxRecDepth 100000 in
set_option maxHeartbeats 4000000 in
theorem m_X8_against (l : Launch) : ip_Met l yX8_against cX8_against 5 (some .int) (ip_rm 0) C_X8_against := ip_met tb_X8_against 400 (by decide +kernel) fl_X8_ok cn_X8_ok (ip_cs0) ck_X8_against rfl p_X8_against
theorem relH_lose {S : Nat → Nat} {G N : Nat → Nat → Int32} {k : Nat} (hk : k < 4) (h : relH S G N) : relH (va_up S (10 + k) 0) G (va_up N 1 (upd (N 1) (nI k).toNatClampNeg (-9))) := by
  rw [nI_clamp (n := k) (by omega)]
  intro j hj
  obtain ⟨a, b⟩ := h j hj
  rw [up_n (f := S) (20 + j) (by omega), up_n (f := S) (30 + j) (by omega)]
  by_cases e : j = k
  · subst e
    refine ⟨fun _ => by simp [va_up, upd], fun z => ?_⟩
    rw [va_up_self] at z
    cases z
  · rw [up_n (f := S) (10 + j) (by omega)]
    have e1 : va_up N 1 (upd (N 1) k (-9)) 1 j = N 1 j := by show upd (N 1) k (-9) j = _; exact pk_un e
    rw [e1]
    exact ⟨a, b⟩
def C_X8_lose : ip_C := fun vs hp K => ∃ tc S G R N, ∃ k : Int32, vs = [.ref 0, .int k] ∧ hp = hpM R N ∧ wfC S G ∧ relA tc S G R N ∧ ∀ R' N', relA tc (q_lose S k).2 G R' N' → K (some (.int (q_lose S k).1)) (hpM R' N')
def cs_X8_lose : List ip_G := [(82, 1, 0, C_X8_isSheet)]
theorem p_X8_lose : ip_Pf fl_X8 cn_X8 cs_X8_lose (some .int) tb_X8_lose 3 C_X8_lose := ip_pf0 (by
  rintro _ _ K ⟨tc, S, G, R, N, k, rfl, rfl, hwf, hrel, hK⟩
  refine ⟨Nat.le_of_ble_eq_true rfl, ?_⟩
  refine Exists.intro k ⟨rfl, fun b hb => ?_⟩
  refine ip_bn (fun h => ?_) (fun h => ?_)
  · have hin : inI k 4 := hb.mp h
    rw [q_lose, if_neg (not_not_intro hin)] at hK
    obtain ⟨i, hi, rfl, ei⟩ := ti_of hin.1
    have l1 : i < 4 := by have := hin.2; omega
    rw [nt_n hi] at hK
    have hr2 : relA tc (va_up S (10 + i) 0) G R (va_up N 1 (upd (N 1) (nI i).toNatClampNeg (-9))) := by
      obtain ⟨h0, h1, hm, hr, hh⟩ := hrel
      refine ⟨by rw [up_n (f := S) 0 (by omega)]; exact h0, h1, ?_, ?_, relH_lose l1 hh⟩
      · exact relM_S (S' := va_up S (10 + i) 0) hm (up_n 1 (by omega)) (up_n 2 (by omega)) (up_n 3 (by omega)) (fun j hj => up_n j (by omega))
      · obtain ⟨r1, r2⟩ := hr
        exact ⟨by rw [up_n (f := S) 4 (by omega)]; exact r1, r2⟩
    have hK' := hK _ _ hr2
    obtain ⟨hv, ⟨z0, e1⟩ | ⟨z1, e1, e9, e2, -, l2, l3⟩⟩ := sh_at hrel.2.2.2.2 hwf.2.1 l1
    · rw [z0] at hK'
      exact And.intro hv (And.intro (fun z => absurd e1 z) (fun _ => And.intro hv hK'))
    · rw [z1] at hK'
      exact And.intro hv (And.intro (fun _ => And.intro hv hK') (fun z => absurd z e9))
  · have hin : ¬ inI k 4 := fun z => by rw [hb.mpr z] at h; cases h
    rw [q_lose, if_pos hin] at hK
    exact hK R N hrel)
set_option maxRecDepth 100000 in
set_option maxHeartbeats 4000000 in
theorem m_X8_lose (l : Launch) : ip_Met l yX8_lose cX8_lose 3 (some .int) (ip_rm 2) C_X8_lose := ip_met tb_X8_lose 400 (by decide +kernel) fl_X8_ok cn_X8_ok (ip_cs1 (ip_gsS (m_X8_isSheet l) (ip_in [713, 714, 39, 715] (by decide +kernel) (by decide +kernel)) ⟨by decide +kernel, by decide +kernel, by decide +kernel⟩ ⟨rfl, rfl, Nat.le_of_ble_eq_true rfl, Nat.le_of_ble_eq_true rfl⟩) (ip_cs0)) ck_X8_lose rfl p_X8_lose
def C_X8_back : ip_C := fun vs hp K => ∃ tc S G R N, ∃ k : Int32, vs = [.ref 0, .int k] ∧ hp = hpM R N ∧ wfC S G ∧ relA tc S G R N ∧ ∀ R' N', relA tc (q_back S k).2 G R' N' → K (some (.int (q_back S k).1)) (hpM R' N')
def cs_X8_back : List ip_G := [(65, 3, 0, C_X8_within)]
theorem relA_r {tc : Int32} {S : Nat → Nat} {G : Nat → Nat → Int32} {R : Nat → Int32} {N : Nat → Nat → Int32} (x : Nat) (h : relA tc S G R N) : relA tc (va_up S 4 x) G (va_up R 24 (nI x)) N := by
  obtain ⟨h0, h1, hm, ⟨r1, r2⟩, hh⟩ := h
  refine ⟨h0, h1, ?_, ⟨rfl, r2⟩, relH_S hh (fun i h1 h2 => up_n i (by omega)) (fun _ _ => rfl) rfl rfl rfl⟩
  have := relM_S (S' := va_up S 4 x) hm rfl rfl rfl (fun i hi => up_n i (by omega))
  exact this
theorem p_X8_back : ip_Pf fl_X8 cn_X8 cs_X8_back (some .int) tb_X8_back 2 C_X8_back := ip_pf0 (by
  rintro _ _ K ⟨tc, S, G, R, N, k, rfl, rfl, hwf, hrel, hK⟩
  refine ⟨Nat.le_of_ble_eq_true rfl, ?_⟩
  have r24 : R 24 = nI (S 4) := hrel.2.2.2.1.1
  have w4 := hwf.2.2.1.1
  refine Exists.intro k ⟨0, R 24, rfl, fun b hb => ?_⟩
  have hb : b = true ↔ (0 ≤ k.toInt ∧ k.toInt ≤ S 4) := by
    have t0 : (0 : Int32).toInt = 0 := by decide
    rw [hb, t0, r24, ti_n (by omega)]
  refine ip_bn (fun h => ?_) (fun h => ?_)
  · have hin := hb.mp h
    rw [q_back, if_neg (not_not_intro hin)] at hK
    obtain ⟨i, hi, rfl, ei⟩ := ti_of hin.1
    rw [nt_n hi] at hK
    have e : R 24 - nI i = nI (S 4 - i) := by rw [r24]; exact pk_sub (by omega)
    have hK' := hK _ _ (relA_r _ hrel)
    rw [← e] at hK'
    exact hK'
  · have hin : ¬ (0 ≤ k.toInt ∧ k.toInt ≤ S 4) := fun z => by rw [hb.mpr z] at h; cases h
    rw [q_back, if_pos hin] at hK
    exact hK R N hrel)
set_option maxRecDepth 100000 in
set_option maxHeartbeats 4000000 in
theorem m_X8_back (l : Launch) : ip_Met l yX8_back cX8_back 2 (some .int) (ip_rm 1) C_X8_back := ip_met tb_X8_back 400 (by decide +kernel) fl_X8_ok cn_X8_ok (ip_cs1 (ip_gsS (m_X8_within l) (ip_in [716, 717, 39, 718] (by decide +kernel) (by decide +kernel)) ⟨by decide +kernel, by decide +kernel, by decide +kernel⟩ ⟨rfl, rfl, Nat.le_of_ble_eq_true rfl, Nat.le_of_ble_eq_true rfl⟩) (ip_cs0)) ck_X8_back rfl p_X8_back
def C_X8_reading : ip_C := fun vs hp K => ∃ tc S G R N, ∃ (p q : Int32) (b : Bool), vs = [.ref 0, .int p, .int q, .int (ip_bi b)] ∧ hp = hpM R N ∧ wfC S G ∧ relA tc S G R N ∧ ∀ R' N', relA tc (q_reading S G p q b).2.1 (q_reading S G p q b).2.2 R' N' → K (some (.int (q_reading S G p q b).1)) (hpM R' N')
def cs_X8_reading : List ip_G := [(131, 2, 8, C_X8_isParish), (137, 1, 0, C_X8_isQuestion)]
theorem p_X8_reading : ip_Pf fl_X8 cn_X8 cs_X8_reading (some .int) tb_X8_reading 4 C_X8_reading := ip_pf0 (by
  rintro _ _ K ⟨tc, S, G, R, N, p, q, bb, rfl, rfl, hwf, hrel, hK⟩
  refine ⟨Nat.le_of_ble_eq_true rfl, ?_⟩
  have r24 : R 24 = nI (S 4) := hrel.2.2.2.1.1
  have w4 := hwf.2.2.1.1
  refine Exists.intro R ⟨N, p, S 2, rfl, rfl, hrel.2.2.1.2.1, hwf.1.2.1, fun b hb => ?_⟩
  refine ip_bn (fun h => ?_) (fun h => ?_)
  · have hin : inI p (S 2) := hb.mp h
    rw [q_reading, if_neg (not_not_intro hin)] at hK
    refine Exists.intro q ⟨rfl, fun b2 hb2 => ?_⟩
    refine ip_bn (fun h2 => ?_) (fun h2 => ?_)
    · have hin2 : inI q 6 := hb2.mp h2
      rw [if_neg (not_not_intro hin2)] at hK
      have g8 : ∀ {X Y : Prop}, (S 4 ≠ 8 → X) → (S 4 = 8 → Y) → (¬ R 24 = 8 → X) ∧ (R 24 = 8 → Y) := fun f g => by rw [r24]; exact pk_ne _ 8 f g
      refine g8 (fun h8 => ?_) (fun h8 => ?_)
      · rw [if_neg h8] at hK
        have hv : vp_in (R 24) 8 := by rw [r24]; exact pk_in (S 4) 8 (by omega)
        have hc : (R 24).toNatClampNeg = S 4 := by rw [r24]; exact nI_clamp (by omega)
        have hn : vp_nar .boolean (ip_bi bb) = ip_bi bb := by cases bb <;> decide
        have hr2 : relA tc (va_up S 4 (S 4 + 1)) (va_up (va_up (va_up G 4 (upd (G 4) (S 4) p)) 5 (upd (G 5) (S 4) q)) 6 (upd (G 6) (S 4) (ip_bi bb))) (va_up R 24 (R 24 + 1)) (va_up (va_up (va_up N 14 (upd (N 14) (R 24).toNatClampNeg p)) 15 (upd (N 15) (R 24).toNatClampNeg q)) 16 (upd (N 16) (R 24).toNatClampNeg (vp_nar .boolean (ip_bi bb)))) := by
          rw [hc, hn, r24, nI_1]
          obtain ⟨h0, h1, hm, ⟨r1, r2, r3, r4⟩, hh⟩ := hrel
          rw [r2, r3, r4]
          refine ⟨h0, h1, ?_, ⟨rfl, rfl, rfl, rfl⟩, ?_⟩
          · have := relM_S (S' := va_up S 4 (S 4 + 1)) hm rfl rfl rfl (fun i hi => up_n i (by omega))
            exact this
          · exact relH_S hh (fun i h1 h2 => up_n i (by omega)) (fun k hk => by rw [up_n (f := va_up (va_up G 4 _) 5 _) k (by omega), up_n (f := va_up G 4 _) k (by omega), up_n (f := G) k (by omega)]) rfl rfl rfl
        have hK' := hK _ _ hr2
        have es : nI (S 4) = R 24 + 1 - 1 := by rw [r24, nI_1, nI_pred]
        simp only at hK'
        rw [es] at hK'
        exact And.intro hv (And.intro hv (And.intro hv hK'))
      · rw [if_pos h8] at hK
        exact hK R N hrel
    · have hin2 : ¬ inI q 6 := fun z => by rw [hb2.mpr z] at h2; cases h2
      rw [if_pos hin2] at hK
      exact hK R N hrel
  · have hin : ¬ inI p (S 2) := fun z => by rw [hb.mpr z] at h; cases h
    rw [q_reading, if_pos hin] at hK
    exact hK R N hrel)
set_option maxRecDepth 100000 in
set_option maxHeartbeats 4000000 in
theorem m_X8_reading (l : Launch) : ip_Met l yX8_reading cX8_reading 4 (some .int) (ip_rm 2) C_X8_reading := ip_met tb_X8_reading 400 (by decide +kernel) fl_X8_ok cn_X8_ok (ip_cs1 (ip_gsV (m_X8_isParish l) (ip_in [769, 771, 17, 39, 772] (by decide +kernel) (by decide +kernel)) rfl ⟨by decide +kernel, by decide +kernel, by decide +kernel⟩ ⟨rfl, rfl, Nat.le_of_ble_eq_true rfl, Nat.le_of_ble_eq_true rfl⟩) (ip_cs1 (ip_gsS (m_X8_isQuestion l) (ip_in [781, 782, 39, 783] (by decide +kernel) (by decide +kernel)) ⟨by decide +kernel, by decide +kernel, by decide +kernel⟩ ⟨rfl, rfl, Nat.le_of_ble_eq_true rfl, Nat.le_of_ble_eq_true rfl⟩) (ip_cs0))) ck_X8_reading rfl p_X8_reading
end
section
/-! ===== the reference: sheet, put, cell ===== -/
def zf (g : Nat → Int32) (k i : Nat) : Nat → Int32 := fun j => if 60 * k ≤ j ∧ j < 60 * k + i then 0 else g j
theorem zf_0 (g : Nat → Int32) (k : Nat) : zf g k 0 = g := by funext j; unfold zf; rw [if_neg (by omega)]
theorem zf_s (g : Nat → Int32) (k i : Nat) : upd (zf g k i) (60 * k + i) 0 = zf g k (i + 1) := by
  funext j
  unfold upd zf
  by_cases e : j = 60 * k + i
  · rw [if_pos e, if_pos (by omega)]
  · rw [if_neg e]
    by_cases e2 : 60 * k ≤ j ∧ j < 60 * k + i
    · rw [if_pos e2, if_pos (by omega)]
    · rw [if_neg e2, if_neg (by omega)]
theorem cel_i (k i : Nat) : (60 : Int32) * nI k + nI i = nI (60 * k + i) := by rw [show (60 : Int32) = nI 60 from rfl, pk_mul, nI_add]
def C_X8_sheet : ip_C := fun vs hp K => ∃ tc S G R N, ∃ k ln n : Int32, vs = [.ref 0, .int k, .int ln, .int n] ∧ hp = hpM R N ∧ wfC S G ∧ relA tc S G R N ∧ ∀ R' N', relA tc (q_sheet S G k ln n).2.1 (q_sheet S G k ln n).2.2 R' N' → K (some (.int (q_sheet S G k ln n).1)) (hpM R' N')
def cs_X8_sheet : List ip_G := [(82, 1, 0, C_X8_isSheet), (86, 1, 0, C_X8_isSort), (93, 2, 8, C_X8_fails)]
def I_X8_sheet (P : Prop) (R : Nat → Int32) (N : Nat → Nat → Int32) (k ln n : Nat) : Nat → Nat → ip_P := fun pc kk L st hp => pc = 57 ∧ P ∧ ∃ (i : Nat) (y : Int32) (F : Nat → Int32), i ≤ 60 ∧ kk = 60 - i ∧ L = [some (.ref 0), some (.int (nI k)), some (.int (nI ln)), some (.int (nI n)), some (.int y)] ∧ st = [] ∧ hp = hpM (va_up R 0 0) (va_up (va_up (va_up N 1 (upd (N 1) (nI k).toNatClampNeg (nI ln))) 2 (upd (N 2) (nI k).toNatClampNeg (nI n))) 3 F) ∧ y = nI i ∧ F = zf (N 3) k i
theorem relH_sheet {S : Nat → Nat} {G N : Nat → Nat → Int32} {k : Nat} (ln n : Nat) (hk : k < 4) (h : relH S G N) : relH (va_up (va_up (va_up (va_up S 0 0) (10 + k) 1) (20 + k) ln) (30 + k) n) (va_up G k (fa_fill (fun _ => 0) (G k) 60)) (va_up (va_up (va_up N 1 (upd (N 1) k (nI ln))) 2 (upd (N 2) k (nI n))) 3 (zf (N 3) k 60)) := by
  intro j hj
  obtain ⟨a, b⟩ := h j hj
  have e1 : va_up (va_up (va_up N 1 (upd (N 1) k (nI ln))) 2 (upd (N 2) k (nI n))) 3 (zf (N 3) k 60) 1 = upd (N 1) k (nI ln) := rfl
  have e2 : va_up (va_up (va_up N 1 (upd (N 1) k (nI ln))) 2 (upd (N 2) k (nI n))) 3 (zf (N 3) k 60) 2 = upd (N 2) k (nI n) := rfl
  have e3 : va_up (va_up (va_up N 1 (upd (N 1) k (nI ln))) 2 (upd (N 2) k (nI n))) 3 (zf (N 3) k 60) 3 = zf (N 3) k 60 := rfl
  rw [e1, e2, e3]
  by_cases e : j = k
  · subst e
    have s1 : va_up (va_up (va_up (va_up S 0 0) (10 + j) 1) (20 + j) ln) (30 + j) n (10 + j) = 1 := by rw [up_n _ (by omega), up_n _ (by omega), va_up_self]
    have s2 : va_up (va_up (va_up (va_up S 0 0) (10 + j) 1) (20 + j) ln) (30 + j) n (20 + j) = ln := by rw [up_n _ (by omega), va_up_self]
    have s3 : va_up (va_up (va_up (va_up S 0 0) (10 + j) 1) (20 + j) ln) (30 + j) n (30 + j) = n := by rw [va_up_self]
    rw [s1, s2, s3, va_up_self]
    refine ⟨fun z => (by cases z), fun _ => ⟨pk_us, pk_us, fun i hi => ?_⟩⟩
    rw [fa_fill_in hi]
    unfold zf
    rw [if_pos (by omega)]
  · have s1 : va_up (va_up (va_up (va_up S 0 0) (10 + k) 1) (20 + k) ln) (30 + k) n (10 + j) = S (10 + j) := by rw [up_n _ (by omega), up_n _ (by omega), up_n _ (by omega), up_n _ (by omega)]
    have s2 : va_up (va_up (va_up (va_up S 0 0) (10 + k) 1) (20 + k) ln) (30 + k) n (20 + j) = S (20 + j) := by rw [up_n _ (by omega), up_n _ (by omega), up_n _ (by omega), up_n _ (by omega)]
    have s3 : va_up (va_up (va_up (va_up S 0 0) (10 + k) 1) (20 + k) ln) (30 + k) n (30 + j) = S (30 + j) := by rw [up_n _ (by omega), up_n _ (by omega), up_n _ (by omega), up_n _ (by omega)]
    rw [s1, s2, s3, pk_un e, pk_un e, up_n (f := G) j e]
    refine ⟨a, fun z => ⟨(b z).1, (b z).2.1, fun i hi => ?_⟩⟩
    rw [← (b z).2.2 i hi]
    unfold zf
    rw [if_neg (by omega)]
theorem relA_sheet {tc : Int32} {S : Nat → Nat} {G : Nat → Nat → Int32} {R : Nat → Int32} {N : Nat → Nat → Int32} {k : Nat} (ln n : Nat) (hk : k < 4) (h : relA tc S G R N) : relA tc (va_up (va_up (va_up (va_up S 0 0) (10 + k) 1) (20 + k) ln) (30 + k) n) (va_up G k (fa_fill (fun _ => 0) (G k) 60)) (va_up R 0 0) (va_up (va_up (va_up N 1 (upd (N 1) (nI k).toNatClampNeg (nI ln))) 2 (upd (N 2) (nI k).toNatClampNeg (nI n))) 3 (zf (N 3) k 60)) := by
  rw [nI_clamp (n := k) (by omega)]
  have hs : ∀ i, i < 10 ∨ 40 ≤ i → va_up (va_up (va_up (va_up S 0 0) (10 + k) 1) (20 + k) ln) (30 + k) n i = va_up S 0 0 i := fun i hi => by rw [up_n _ (by omega), up_n _ (by omega), up_n _ (by omega)]
  obtain ⟨h0, h1, hm, hr, hh⟩ := h
  refine ⟨by rw [hs 0 (by omega)]; rfl, h1, ?_, ?_, relH_sheet ln n hk hh⟩
  · exact relM_S hm (by rw [hs 1 (by omega)]; rfl) (by rw [hs 2 (by omega)]; rfl) (by rw [hs 3 (by omega)]; rfl) (fun i hi => by rw [hs i (by omega), up_n _ (by omega)])
  · obtain ⟨r1, r2, r3, r4⟩ := hr
    exact ⟨by rw [hs 4 (by omega)]; exact r1, by rw [up_n 4 (by omega)]; exact r2, by rw [up_n 5 (by omega)]; exact r3, by rw [up_n 6 (by omega)]; exact r4⟩
theorem p_X8_sheet : ip_Pf fl_X8 cn_X8 cs_X8_sheet (some .int) tb_X8_sheet 5 C_X8_sheet := by
  rintro _ _ K ⟨tc, S, G, R, N, k, ln, n, rfl, rfl, hwf, hrel, hK⟩
  have h0 := relA_f 0 hrel
  refine ⟨Nat.le_of_ble_eq_true rfl, I_X8_sheet (inI k 4 ∧ inI ln 3 ∧ 0 ≤ n.toInt ∧ n.toInt ≤ 60) R N (nt k) (nt ln) (nt n), ?_, ?_⟩
  · refine Exists.intro k ⟨rfl, fun b hb => ?_⟩
    refine ip_bn (fun h => ?_) (fun h => ?_)
    · have hin : inI k 4 := hb.mp h
      rw [q_sheet, if_neg (not_not_intro hin)] at hK
      refine Exists.intro ln ⟨rfl, fun b2 hb2 => ?_⟩
      refine ip_bt (fun h2 => ?_) (fun h2 => ?_)
      · have hin2 : ¬ inI ln 3 := fun z => by rw [hb2.mpr z] at h2; cases h2
        rw [if_pos (.inl hin2)] at hK
        exact hK _ N h0
      have hin2 : inI ln 3 := hb2.mp h2
      refine bz_le n.toInt 60 (fun h3 => ?_) (fun h3 => ?_)
      · rw [if_neg (by rintro (z | z); exact z hin2; omega)] at hK
        refine bz_le 0 n.toInt (fun h4 => ?_) (fun h4 => ?_)
        · obtain ⟨i, hi, rfl, ei⟩ := ti_of hin.1
          obtain ⟨j, hj, rfl, ej⟩ := ti_of hin2.1
          obtain ⟨q, hq, rfl, eq⟩ := ti_of h4
          have hv : vp_in (nI i) 4 := pk_in i 4 (by have := hin.2; omega)
          have hP : inI (nI i) 4 ∧ inI (nI j) 3 ∧ 0 ≤ (nI q).toInt ∧ (nI q).toInt ≤ 60 := ⟨hin, hin2, h4, h3⟩
          rw [nt_n hi, nt_n hj, nt_n hq]
          refine And.intro hv (And.intro hv ?_)
          exact Exists.intro 60 ⟨trivial, rfl, hP, 0, _, N 3, by omega, rfl, rfl, rfl, rfl, rfl, by rw [zf_0]⟩
        · rw [if_pos h4] at hK
          refine Exists.intro (va_up R 0 0) ⟨N, 4, rfl, rfl, ?_⟩
          exact hK (va_up R 0 (nI 4)) N (relA_f 4 hrel)
      · rw [if_pos (.inr (by omega))] at hK
        exact hK _ N h0
    · have hin : ¬ inI k 4 := fun z => by rw [hb.mpr z] at h; cases h
      rw [q_sheet, if_pos hin] at hK
      exact hK _ N h0
  · rintro pc kk L st hp ⟨rfl, ⟨hin, hin2, h4, h3⟩, i, y, F, hi, rfl, rfl, rfl, rfl, rfl, rfl⟩
    have hP : inI k 4 ∧ inI ln 3 ∧ 0 ≤ n.toInt ∧ n.toInt ≤ 60 := ⟨hin, hin2, h4, h3⟩
    obtain ⟨l1, -⟩ := inI_nt hin
    rw [q_sheet, if_neg (not_not_intro hin), if_neg (by rintro (z | z); exact z hin2; omega), if_neg (by omega)] at hK
    generalize nt k = a at l1 hK
    refine pk_le 60 i (fun h => ?_) (fun h => ?_)
    · obtain rfl : i = 60 := by omega
      exact hK _ _ (relA_sheet _ _ l1 hrel)
    · have hc := cel_i a i
      have hv : vp_in ((60 : Int32) * nI a + nI i) 240 := by rw [hc]; exact pk_in (60 * a + i) 240 (by omega)
      have hz : upd (zf (N 3) a i) ((60 : Int32) * nI a + nI i).toNatClampNeg 0 = zf (N 3) a (i + 1) := by rw [hc, nI_clamp (by omega), zf_s]
      refine And.intro hv ?_
      exact Exists.intro (60 - (i + 1)) ⟨by show _ < _; omega, rfl, hP, i + 1, _, _, by omega, rfl, rfl, rfl, rfl, nI_1 i, hz⟩
set_option maxRecDepth 100000 in
set_option maxHeartbeats 4000000 in
theorem m_X8_sheet (l : Launch) : ip_Met l yX8_sheet cX8_sheet 5 (some .int) (ip_rm 2) C_X8_sheet := ip_met tb_X8_sheet 400 (by decide +kernel) fl_X8_ok cn_X8_ok (ip_cs1 (ip_gsS (m_X8_isSheet l) (ip_in [713, 714, 39, 715] (by decide +kernel) (by decide +kernel)) ⟨by decide +kernel, by decide +kernel, by decide +kernel⟩ ⟨rfl, rfl, Nat.le_of_ble_eq_true rfl, Nat.le_of_ble_eq_true rfl⟩) (ip_cs1 (ip_gsS (m_X8_isSort l) (ip_in [719, 720, 39, 721] (by decide +kernel) (by decide +kernel)) ⟨by decide +kernel, by decide +kernel, by decide +kernel⟩ ⟨rfl, rfl, Nat.le_of_ble_eq_true rfl, Nat.le_of_ble_eq_true rfl⟩) (ip_cs1 (ip_gsV (m_X8_fails l) (ip_in [726, 728, 10, 39, 729] (by decide +kernel) (by decide +kernel)) rfl ⟨by decide +kernel, by decide +kernel, by decide +kernel⟩ ⟨rfl, rfl, Nat.le_of_ble_eq_true rfl, Nat.le_of_ble_eq_true rfl⟩) (ip_cs0)))) ck_X8_sheet rfl p_X8_sheet
theorem nx1 (L : Nat) (h : L ≤ 60) : (nI L - 1).toInt = (L : Int) - 1 := pk_sub_toInt (a := L) (b := 1) (by omega) (by omega)
theorem relH_put {S : Nat → Nat} {G N : Nat → Nat → Int32} {k i : Nat} (v : Int32) (hk : k < 4) (hi : i < 60) (h : relH S G N) : relH S (va_up G k (upd (G k) i v)) (va_up N 3 (upd (N 3) (60 * k + i) v)) := by
  intro j hj
  obtain ⟨a, b⟩ := h j hj
  refine ⟨a, fun z => ⟨(b z).1, (b z).2.1, fun x hx => ?_⟩⟩
  have e3 : va_up N 3 (upd (N 3) (60 * k + i) v) 3 = upd (N 3) (60 * k + i) v := rfl
  rw [e3]
  by_cases e : j = k
  · subst e
    rw [va_up_self]
    by_cases e2 : x = i
    · subst e2; rw [pk_us, pk_us]
    · rw [pk_un e2, pk_un (by omega), (b z).2.2 x hx]
  · rw [up_n (f := G) j e, pk_un (by omega), (b z).2.2 x hx]
def C_X8_put : ip_C := fun vs hp K => ∃ tc S G R N, ∃ k i v : Int32, vs = [.ref 0, .int k, .int i, .int v] ∧ hp = hpM R N ∧ wfC S G ∧ relA tc S G R N ∧ ∀ R' N', relA tc (q_put S G k i v).2.1 (q_put S G k i v).2.2 R' N' → K (some (.int (q_put S G k i v).1)) (hpM R' N')
def cs_X8_put : List ip_G := [(82, 1, 0, C_X8_isSheet), (93, 2, 8, C_X8_fails), (65, 3, 0, C_X8_within)]
theorem p_X8_put : ip_Pf fl_X8 cn_X8 cs_X8_put (some .int) tb_X8_put 4 C_X8_put := ip_pf0 (by
  rintro _ _ K ⟨tc, S, G, R, N, k, i, v, rfl, rfl, hwf, hrel, hK⟩
  refine ⟨Nat.le_of_ble_eq_true rfl, ?_⟩
  have h0 := relA_f 0 hrel
  refine Exists.intro k ⟨rfl, fun b hb => ?_⟩
  refine ip_bn (fun h => ?_) (fun h => ?_)
  · have hin : inI k 4 := hb.mp h
    rw [q_put, if_neg (not_not_intro hin)] at hK
    obtain ⟨a, ha, rfl, ea⟩ := ti_of hin.1
    have l1 : a < 4 := by have := hin.2; omega
    rw [nt_n ha] at hK
    obtain ⟨hv, ⟨z0, e1⟩ | ⟨z1, e1, e9, e2, -, l2, l3⟩⟩ := sh_at hrel.2.2.2.2 hwf.2.1 l1
    · rw [show fo S a (S (20 + a)) i.toInt 1 = 1 by rw [fo, if_pos z0], if_pos (by decide)] at hK
      refine And.intro hv (And.intro (fun z => absurd e1 z) (fun _ => ?_))
      refine Exists.intro (va_up R 0 0) ⟨N, 1, rfl, rfl, ?_⟩
      exact hK (va_up R 0 (nI 1)) N (relA_f 1 hrel)
    · refine And.intro hv (And.intro (fun _ => ?_) (fun z => absurd z e9))
      refine And.intro hv ?_
      have hx : (N 2 (nI a).toNatClampNeg - 1).toInt = (S (30 + a) : Int) - 1 := by rw [e2]; exact nx1 _ l3
      refine Exists.intro i ⟨0, N 2 (nI a).toNatClampNeg - 1, rfl, fun b2 hb2 => ?_⟩
      have hb2 : b2 = true ↔ inI i (S (30 + a)) := by
        have t0 : (0 : Int32).toInt = 0 := by decide
        rw [hb2, t0, hx]
        unfold inI
        omega
      refine ip_bn (fun h2 => ?_) (fun h2 => ?_)
      · have hin2 := hb2.mp h2
        have hf : fo S a (S (20 + a)) i.toInt 1 = 0 := by rw [fo, if_neg (by omega), if_neg (by simp), if_neg (by omega), if_pos (by have := hin2.1; have := hin2.2; omega)]
        rw [hf, if_neg (by simp)] at hK
        obtain ⟨j, hj, rfl, ej⟩ := ti_of hin2.1
        have l4 : j < 60 := by have := hin2.2; omega
        rw [nt_n hj] at hK
        have hc := cel_i a j
        have hv2 : vp_in ((60 : Int32) * nI a + nI j) 240 := by rw [hc]; exact pk_in (60 * a + j) 240 (by omega)
        have hK' : ∀ x, cut (S (20 + a)) v = x → K (some (.int 1)) (hpM (va_up R 0 0) (va_up N 3 (upd (N 3) ((60 : Int32) * nI a + nI j).toNatClampNeg x))) := fun x ex => by
          rw [hc, nI_clamp (by omega)]
          refine hK _ _ ?_
          rw [ex]
          obtain ⟨a0, a1, a2, a3, a4⟩ := h0
          refine ⟨a0, a1, a2, ?_, relH_put x l1 l4 a4⟩
          obtain ⟨r1, r2, r3, r4⟩ := a3
          exact ⟨r1, r2.trans (up_n (f := G) (k := a) 4 (by omega)).symm, r3.trans (up_n (f := G) (k := a) 5 (by omega)).symm, r4.trans (up_n (f := G) (k := a) 6 (by omega)).symm⟩
        have g0 : ∀ {X Y : Prop}, (S (20 + a) ≠ 0 → X) → (S (20 + a) = 0 → Y) → (¬ N 1 (nI a).toNatClampNeg = 0 → X) ∧ (N 1 (nI a).toNatClampNeg = 0 → Y) := fun f g => by rw [e1]; exact pk_ne _ 0 f g
        have g1 : ∀ {X Y : Prop}, (S (20 + a) ≠ 1 → X) → (S (20 + a) = 1 → Y) → (¬ N 1 (nI a).toNatClampNeg = 1 → X) ∧ (N 1 (nI a).toNatClampNeg = 1 → Y) := fun f g => by rw [e1]; exact pk_ne _ 1 f g
        refine And.intro hv ?_
        refine g0 (fun h5 => ?_) (fun h5 => ?_)
        · refine And.intro hv ?_
          refine g1 (fun h6 => ?_) (fun h6 => ?_)
          · exact And.intro hv2 (hK' v (by rw [cut, if_neg h5, if_neg h6]))
          · exact And.intro hv2 (hK' v.toInt16.toInt32 (by rw [cut, if_neg h5, if_pos h6]))
        · exact And.intro hv2 (hK' v.toInt8.toInt32 (by rw [cut, if_pos h5]))
      · have hin2 : ¬ inI i (S (30 + a)) := fun z => by rw [hb2.mpr z] at h2; cases h2
        have hf : fo S a (S (20 + a)) i.toInt 1 = 3 := by rw [fo, if_neg (by omega), if_neg (by simp), if_neg (by omega), if_neg (fun z => hin2 ⟨z.1, by omega⟩)]
        rw [hf, if_pos (by decide)] at hK
        refine Exists.intro (va_up R 0 0) ⟨N, 3, rfl, rfl, ?_⟩
        exact hK (va_up R 0 (nI 3)) N (relA_f 3 hrel)
  · have hin : ¬ inI k 4 := fun z => by rw [hb.mpr z] at h; cases h
    rw [q_put, if_pos hin] at hK
    exact hK _ N h0)
set_option maxRecDepth 100000 in
set_option maxHeartbeats 4000000 in
theorem m_X8_put (l : Launch) : ip_Met l yX8_put cX8_put 4 (some .int) (ip_rm 2) C_X8_put := ip_met tb_X8_put 400 (by decide +kernel) fl_X8_ok cn_X8_ok (ip_cs1 (ip_gsS (m_X8_isSheet l) (ip_in [713, 714, 39, 715] (by decide +kernel) (by decide +kernel)) ⟨by decide +kernel, by decide +kernel, by decide +kernel⟩ ⟨rfl, rfl, Nat.le_of_ble_eq_true rfl, Nat.le_of_ble_eq_true rfl⟩) (ip_cs1 (ip_gsV (m_X8_fails l) (ip_in [726, 728, 10, 39, 729] (by decide +kernel) (by decide +kernel)) rfl ⟨by decide +kernel, by decide +kernel, by decide +kernel⟩ ⟨rfl, rfl, Nat.le_of_ble_eq_true rfl, Nat.le_of_ble_eq_true rfl⟩) (ip_cs1 (ip_gsS (m_X8_within l) (ip_in [716, 717, 39, 718] (by decide +kernel) (by decide +kernel)) ⟨by decide +kernel, by decide +kernel, by decide +kernel⟩ ⟨rfl, rfl, Nat.le_of_ble_eq_true rfl, Nat.le_of_ble_eq_true rfl⟩) (ip_cs0)))) ck_X8_put rfl p_X8_put
def C_X8_cell : ip_C := fun vs hp K => ∃ tc S G R N, ∃ k i ln : Int32, vs = [.ref 0, .int k, .int i, .int ln] ∧ hp = hpM R N ∧ wfC S G ∧ relA tc S G R N ∧ ∀ R' N', relA tc (q_cell S G k i ln).2 G R' N' → K (some (.long (q_cell S G k i ln).1)) (hpM R' N')
def cs_X8_cell : List ip_G := [(82, 1, 0, C_X8_isSheet), (86, 1, 0, C_X8_isSort), (178, 2, 8, C_X8_lost), (65, 3, 0, C_X8_within)]
theorem p_X8_cell : ip_Pf fl_X8 cn_X8 cs_X8_cell (some .long) tb_X8_cell 4 C_X8_cell := ip_pf0 (by
  rintro _ _ K ⟨tc, S, G, R, N, k, i, ln, rfl, rfl, hwf, hrel, hK⟩
  refine ⟨Nat.le_of_ble_eq_true rfl, ?_⟩
  have h0 := relA_f 0 hrel
  refine Exists.intro k ⟨rfl, fun b hb => ?_⟩
  refine ip_bt (fun h => ?_) (fun h => ?_)
  · have hin : ¬ inI k 4 := fun z => by rw [hb.mpr z] at h; cases h
    rw [q_cell, if_pos (.inl hin)] at hK
    exact hK _ N h0
  have hin : inI k 4 := hb.mp h
  refine Exists.intro ln ⟨rfl, fun b2 hb2 => ?_⟩
  refine ip_bn (fun h2 => ?_) (fun h2 => ?_)
  · have hin2 : inI ln 3 := hb2.mp h2
    rw [q_cell, if_neg (by rintro (z | z); exact z hin; exact z hin2)] at hK
    obtain ⟨a, ha, rfl, ea⟩ := ti_of hin.1
    have l1 : a < 4 := by have := hin.2; omega
    rw [nt_n ha] at hK
    obtain ⟨hv, ⟨z0, e1⟩ | ⟨z1, e1, e9, e2, e3, l2, l3⟩⟩ := sh_at hrel.2.2.2.2 hwf.2.1 l1
    · rw [show fo S a ln.toInt i.toInt 1 = 1 by rw [fo, if_pos z0], if_pos (by decide)] at hK
      refine And.intro hv (And.intro (fun _ => ?_) (fun z => absurd e1 z))
      refine And.intro hv (And.intro (fun z => absurd e1 z) (fun _ => ?_))
      refine Exists.intro (va_up R 0 0) ⟨N, 1, rfl, rfl, ?_⟩
      exact hK (va_up R 0 (nI 1)) N (relA_f 1 hrel)
    · refine And.intro hv (And.intro (fun z => absurd z e9) (fun _ => ?_))
      have g1 : ∀ {X Y : Prop}, ((S (20 + a) : Int) = ln.toInt → X) → ((S (20 + a) : Int) ≠ ln.toInt → Y) → (N 1 (nI a).toNatClampNeg = ln → X) ∧ (¬ N 1 (nI a).toNatClampNeg = ln → Y) := fun f g => by rw [e1]; exact bz_eq _ _ f g (ti_n (by omega)) rfl
      refine And.intro hv ?_
      refine g1 (fun h3 => ?_) (fun h3 => ?_)
      · refine And.intro hv (And.intro (fun _ => ?_) (fun z => absurd z e9))
        refine And.intro hv ?_
        have hx : (N 2 (nI a).toNatClampNeg - 1).toInt = (S (30 + a) : Int) - 1 := by rw [e2]; exact nx1 _ l3
        refine Exists.intro i ⟨0, N 2 (nI a).toNatClampNeg - 1, rfl, fun b2 hb2 => ?_⟩
        have hb2 : b2 = true ↔ inI i (S (30 + a)) := by
          have t0 : (0 : Int32).toInt = 0 := by decide
          rw [hb2, t0, hx]
          unfold inI
          omega
        refine ip_bn (fun h2 => ?_) (fun h2 => ?_)
        · have hin2 := hb2.mp h2
          have hf : fo S a ln.toInt i.toInt 1 = 0 := by rw [fo, if_neg (by omega), if_neg (not_not_intro h3), if_neg (by omega), if_pos (by have := hin2.1; have := hin2.2; omega)]
          rw [hf, if_neg (by simp)] at hK
          obtain ⟨j, hj, rfl, ej⟩ := ti_of hin2.1
          have l4 : j < 60 := by have := hin2.2; omega
          have hc := cel_i a j
          have hv2 : vp_in ((60 : Int32) * nI a + nI j) 240 := by rw [hc]; exact pk_in (60 * a + j) 240 (by omega)
          have hq : vat S G a (nI j).toInt = N 3 ((60 : Int32) * nI a + nI j).toNatClampNeg := by
            rw [hc, nI_clamp (by omega), e3 j l4, vat, if_pos hin2, ej]
            rfl
          rw [hq] at hK
          exact And.intro hv2 (hK _ N h0)
        · have hin2 : ¬ inI i (S (30 + a)) := fun z => by rw [hb2.mpr z] at h2; cases h2
          have hf : fo S a ln.toInt i.toInt 1 = 3 := by rw [fo, if_neg (by omega), if_neg (not_not_intro h3), if_neg (by omega), if_neg (fun z => hin2 ⟨z.1, by omega⟩)]
          rw [hf, if_pos (by decide)] at hK
          refine Exists.intro (va_up R 0 0) ⟨N, 3, rfl, rfl, ?_⟩
          exact hK (va_up R 0 (nI 3)) N (relA_f 3 hrel)
      · have hf : fo S a ln.toInt i.toInt 1 = 2 := by rw [fo, if_neg (by omega), if_pos h3]
        rw [hf, if_pos (by decide)] at hK
        refine Exists.intro (va_up R 0 0) ⟨N, 2, rfl, rfl, ?_⟩
        exact hK (va_up R 0 (nI 2)) N (relA_f 2 hrel)
  · have hin2 : ¬ inI ln 3 := fun z => by rw [hb2.mpr z] at h2; cases h2
    rw [q_cell, if_pos (.inr hin2)] at hK
    exact hK _ N h0)
set_option maxRecDepth 100000 in
set_option maxHeartbeats 4000000 in
theorem m_X8_cell (l : Launch) : ip_Met l yX8_cell cX8_cell 4 (some .long) (ip_rm 2) C_X8_cell := ip_met tb_X8_cell 400 (by decide +kernel) fl_X8_ok cn_X8_ok (ip_cs1 (ip_gsS (m_X8_isSheet l) (ip_in [713, 714, 39, 715] (by decide +kernel) (by decide +kernel)) ⟨by decide +kernel, by decide +kernel, by decide +kernel⟩ ⟨rfl, rfl, Nat.le_of_ble_eq_true rfl, Nat.le_of_ble_eq_true rfl⟩) (ip_cs1 (ip_gsS (m_X8_isSort l) (ip_in [719, 720, 39, 721] (by decide +kernel) (by decide +kernel)) ⟨by decide +kernel, by decide +kernel, by decide +kernel⟩ ⟨rfl, rfl, Nat.le_of_ble_eq_true rfl, Nat.le_of_ble_eq_true rfl⟩) (ip_cs1 (ip_gsV (m_X8_lost l) (ip_in [855, 857, 27, 39, 858] (by decide +kernel) (by decide +kernel)) rfl ⟨by decide +kernel, by decide +kernel, by decide +kernel⟩ ⟨rfl, rfl, Nat.le_of_ble_eq_true rfl, Nat.le_of_ble_eq_true rfl⟩) (ip_cs1 (ip_gsS (m_X8_within l) (ip_in [716, 717, 39, 718] (by decide +kernel) (by decide +kernel)) ⟨by decide +kernel, by decide +kernel, by decide +kernel⟩ ⟨rfl, rfl, Nat.le_of_ble_eq_true rfl, Nat.le_of_ble_eq_true rfl⟩) (ip_cs0))))) ck_X8_cell rfl p_X8_cell
end
section
/-! ===== copy: the reference ===== -/
def okC (S : Nat → Nat) (k o : Nat) (i j n : Int) : Prop := 0 ≤ n ∧ 0 ≤ i ∧ 0 ≤ j ∧ i + n ≤ S (30 + k) ∧ j + n ≤ S (30 + o)
def q_copy (S : Nat → Nat) (G : Nat → Nat → Int32) (k i o j n : Int32) : Int32 × Nat × (Nat → Nat → Int32) := if ¬ inI k 4 ∨ ¬ inI o 4 then (-1, 0, G) else if S (10 + nt k) = 0 ∨ S (10 + nt o) = 0 then (-11, 1, G) else if S (20 + nt k) ≠ S (20 + nt o) then (-12, 2, G) else if ¬ (0 ≤ n.toInt ∧ 0 ≤ i.toInt ∧ 0 ≤ j.toInt ∧ i.toInt + n.toInt ≤ S (30 + nt k) ∧ j.toInt + n.toInt ≤ S (30 + nt o)) then (-13, 3, G) else (n, 0, va_up G (nt o) (va_cpy (G (nt k)) (G (nt o)) (nt i) (nt j) (nt n)))
def cpf (g : Nat → Int32) (a b lo hi : Nat) : Nat → Int32 := fun x => if b + lo ≤ x ∧ x < b + hi then g (a + (x - b)) else g x
theorem cpf_0 (g : Nat → Int32) (a b lo : Nat) : cpf g a b lo lo = g := by funext x; unfold cpf; rw [if_neg (by omega)]
theorem cpf_up (g : Nat → Int32) (a b lo hi : Nat) (h : lo ≤ hi) : upd (cpf g a b lo hi) (b + hi) (g (a + hi)) = cpf g a b lo (hi + 1) := by
  funext x
  unfold upd cpf
  by_cases e : x = b + hi
  · rw [if_pos e, if_pos (by omega), e, show b + hi - b = hi by omega]
  · rw [if_neg e]
    by_cases e2 : b + lo ≤ x ∧ x < b + hi
    · rw [if_pos e2, if_pos (by omega)]
    · rw [if_neg e2, if_neg (by omega)]
theorem cpf_dn (g : Nat → Int32) (a b lo hi : Nat) (h : lo < hi) : upd (cpf g a b (lo + 1) hi) (b + lo) (g (a + lo)) = cpf g a b lo hi := by
  funext x
  unfold upd cpf
  by_cases e : x = b + lo
  · rw [if_pos e, if_pos (by omega), e, show b + lo - b = lo by omega]
  · rw [if_neg e]
    by_cases e2 : b + (lo + 1) ≤ x ∧ x < b + hi
    · rw [if_pos e2, if_pos (by omega)]
    · rw [if_neg e2, if_neg (by omega)]
theorem cpf_out (g : Nat → Int32) {a b lo hi x : Nat} (h : x < b + lo ∨ b + hi ≤ x) : cpf g a b lo hi x = g x := by unfold cpf; rw [if_neg (by omega)]
theorem relH_copy {S : Nat → Nat} {G N : Nat → Nat → Int32} {k o i j n : Nat} (hk : k < 4) (ho : o < 4) (z1 : S (10 + k) = 1) (hi : i + n ≤ 60) (hj : j + n ≤ 60) (h : relH S G N) : relH S (va_up G o (va_cpy (G k) (G o) i j n)) (va_up N 3 (cpf (N 3) (60 * k + i) (60 * o + j) 0 n)) := by
  intro c hc
  obtain ⟨a, b⟩ := h c hc
  have e3 : va_up N 3 (cpf (N 3) (60 * k + i) (60 * o + j) 0 n) 3 = cpf (N 3) (60 * k + i) (60 * o + j) 0 n := rfl
  refine ⟨a, fun z => ⟨(b z).1, (b z).2.1, fun x hx => ?_⟩⟩
  rw [e3]
  by_cases e : c = o
  · subst e
    rw [va_up_self]
    by_cases e2 : j ≤ x ∧ x < j + n
    · rw [pk_cpy_in e2.1 e2.2]
      unfold cpf
      rw [if_pos (by omega), show 60 * k + i + (60 * c + x - (60 * c + j)) = 60 * k + (i + (x - j)) by omega]
      exact ((h k hk).2 z1).2.2 _ (by omega)
    · rw [pk_cpy_out (by omega), cpf_out _ (by omega)]
      exact (b z).2.2 x hx
  · rw [up_n (f := G) c e, cpf_out _ (by omega)]
    exact (b z).2.2 x hx
def C_X8_copy : ip_C := fun vs hp K => ∃ tc S G R N, ∃ k i o j n : Int32, vs = [.ref 0, .int k, .int i, .int o, .int j, .int n] ∧ hp = hpM R N ∧ wfC S G ∧ relA tc S G R N ∧ ∀ R' N', relA tc (va_up S 0 (q_copy S G k i o j n).2.1) (q_copy S G k i o j n).2.2 R' N' → K (some (.int (q_copy S G k i o j n).1)) (hpM R' N')
def cs_X8_copy : List ip_G := [(82, 1, 0, C_X8_isSheet), (93, 2, 8, C_X8_fails)]
def cpl (n q : Nat) (b : Bool) : Nat := if b then n - q else 0
def cph (n q : Nat) (b : Bool) : Nat := if b then n else q
def I_X8_copy (P : Prop) (R : Nat → Int32) (N : Nat → Nat → Int32) (k i o j n : Nat) (ah : Bool) : Nat → Nat → ip_P := fun pc kk L st hp => pc = 166 ∧ P ∧ ∃ (q : Nat) (y : Int32) (l6 l9 : Option Value) (F : Nat → Int32), q ≤ n ∧ kk = n - q ∧ L = [some (.ref 0), some (.int (nI k)), some (.int (nI i)), some (.int (nI o)), some (.int (nI j)), some (.int (nI n)), l6, some (.int (ip_bi ah)), some (.int y), l9] ∧ st = [] ∧ hp = hpM (va_up R 0 0) (va_up N 3 F) ∧ y = nI q ∧ F = cpf (N 3) (60 * k + i) (60 * o + j) (cpl n q ah) (cph n q ah)
theorem p_X8_copy : ip_Pf fl_X8 cn_X8 cs_X8_copy (some .int) tb_X8_copy 10 C_X8_copy := by
  rintro _ _ K ⟨tc, S, G, R, N, k, i, o, j, n, rfl, rfl, hwf, hrel, hK⟩
  have h0 := relA_f 0 hrel
  refine ⟨Nat.le_of_ble_eq_true rfl, I_X8_copy (inI k 4 ∧ inI o 4 ∧ S (10 + nt k) = 1 ∧ S (10 + nt o) = 1 ∧ S (20 + nt k) = S (20 + nt o) ∧ 0 ≤ n.toInt ∧ 0 ≤ i.toInt ∧ 0 ≤ j.toInt ∧ i.toInt + n.toInt ≤ S (30 + nt k) ∧ j.toInt + n.toInt ≤ S (30 + nt o) ∧ S (30 + nt k) ≤ 60 ∧ S (30 + nt o) ≤ 60) R N (nt k) (nt i) (nt o) (nt j) (nt n) (decide (i.toInt < j.toInt)), ?_, ?_⟩
  · refine Exists.intro k ⟨rfl, fun b hb => ?_⟩
    refine ip_bt (fun h => ?_) (fun h => ?_)
    · have hin : ¬ inI k 4 := fun z => by rw [hb.mpr z] at h; cases h
      rw [q_copy, if_pos (.inl hin)] at hK
      exact hK _ N h0
    have hin : inI k 4 := hb.mp h
    refine Exists.intro o ⟨rfl, fun b2 hb2 => ?_⟩
    refine ip_bn (fun h2 => ?_) (fun h2 => ?_)
    · have hin2 : inI o 4 := hb2.mp h2
      rw [q_copy, if_neg (by rintro (z | z); exact z hin; exact z hin2)] at hK
      clear hb hb2 h h2
      obtain ⟨a, ha, rfl, ea⟩ := ti_of hin.1
      obtain ⟨c, hc, rfl, ec⟩ := ti_of hin2.1
      have l1 : a < 4 := by have := hin.2; omega
      have l2 : c < 4 := by have := hin2.2; omega
      rw [nt_n ha, nt_n hc] at hK ⊢
      have kf : ∀ (f : Nat) (x : Int32), (∀ R' N', relA tc (va_up S 0 f) G R' N' → K (some (.int x)) (hpM R' N')) → -10 - nI f = x → ∃ R1 N1, ∃ f1 : Int32, [Value.ref 0, Value.int (nI f)] = [Value.ref 0, .int f1] ∧ hpM (va_up R 0 0) N = hpM R1 N1 ∧ K (some (.int (-10 - f1))) (hpM (va_up R1 0 f1) N1) := fun f x hk e => ⟨va_up R 0 0, N, nI f, rfl, rfl, by rw [e]; exact hk (va_up (va_up R 0 0) 0 (nI f)) N (by have := relA_f f h0; rw [show va_up (va_up S 0 0) 0 f = va_up S 0 f from by funext z; simp only [va_up]; split <;> rfl] at this; exact this)⟩
      obtain ⟨hv, hka⟩ := sh_at hrel.2.2.2.2 hwf.2.1 l1
      obtain ⟨hv2, hkc⟩ := sh_at hrel.2.2.2.2 hwf.2.1 l2
      rcases hka with ⟨z0, e1⟩ | ⟨z1, e1, e9, e2, e3, l3, l4⟩
      · rw [if_pos (.inl z0)] at hK
        refine And.intro hv (And.intro (fun _ => ?_) (fun z => absurd e1 z))
        obtain ⟨R1, r⟩ := kf 1 (-11) hK (by decide)
        exact Exists.intro R1 r
      refine And.intro hv (And.intro (fun z => absurd z e9) (fun _ => ?_))
      rcases hkc with ⟨y0, f1⟩ | ⟨y1, f1, f9, f2, f3, l5, l6⟩
      · rw [if_pos (.inr y0)] at hK
        refine And.intro hv2 (And.intro (fun z => absurd f1 z) (fun _ => ?_))
        obtain ⟨R1, r⟩ := kf 1 (-11) hK (by decide)
        exact Exists.intro R1 r
      refine And.intro hv2 (And.intro (fun _ => ?_) (fun z => absurd z f9))
      rw [if_neg (by omega)] at hK
      have g1 : ∀ {X Y : Prop}, (S (20 + a) = S (20 + c) → X) → (S (20 + a) ≠ S (20 + c) → Y) → (N 1 (nI a).toNatClampNeg = N 1 (nI c).toNatClampNeg → X) ∧ (¬ N 1 (nI a).toNatClampNeg = N 1 (nI c).toNatClampNeg → Y) := fun f g => by rw [e1, f1]; exact pk_eq _ _ f g
      refine And.intro hv (And.intro hv2 ?_)
      refine g1 (fun h => ?_) (fun h => ?_)
      · rw [if_neg (not_not_intro h)] at hK
        have bad : ¬ (0 ≤ n.toInt ∧ 0 ≤ i.toInt ∧ 0 ≤ j.toInt ∧ i.toInt + n.toInt ≤ S (30 + a) ∧ j.toInt + n.toInt ≤ S (30 + c)) → ∃ R1 N1, ∃ f1 : Int32, [Value.ref 0, Value.int (nI 3)] = [Value.ref 0, .int f1] ∧ hpM (va_up R 0 0) N = hpM R1 N1 ∧ K (some (.int (-10 - f1))) (hpM (va_up R1 0 f1) N1) := fun z => by
          rw [if_pos z] at hK
          exact kf 3 (-13) hK (by decide)
        have g2 : ∀ {X Y : Prop}, ((S (30 + a) : Int) < i.toInt → X) → (i.toInt ≤ S (30 + a) → Y) → (N 2 (nI a).toNatClampNeg < i → X) ∧ (¬ N 2 (nI a).toNatClampNeg < i → Y) := fun f g => by rw [e2]; exact bz_lt _ _ f g (ti_n (by omega)) rfl
        have g3 : ∀ {X Y : Prop}, ((S (30 + c) : Int) < j.toInt → X) → (j.toInt ≤ S (30 + c) → Y) → (N 2 (nI c).toNatClampNeg < j → X) ∧ (¬ N 2 (nI c).toNatClampNeg < j → Y) := fun f g => by rw [f2]; exact bz_lt _ _ f g (ti_n (by omega)) rfl
        have g4 : ∀ {X Y : Prop}, 0 ≤ i.toInt → i.toInt ≤ S (30 + a) → ((S (30 + a) : Int) < i.toInt + n.toInt → X) → (i.toInt + n.toInt ≤ S (30 + a) → Y) → (N 2 (nI a).toNatClampNeg - i < n → X) ∧ (¬ N 2 (nI a).toNatClampNeg - i < n → Y) := fun h1 h2 f g => by
          obtain ⟨x, hx, rfl, ex⟩ := ti_of h1
          rw [e2, pk_sub (by omega)]
          exact bz_lt ((S (30 + a) - x : Nat) : Int) n.toInt (fun z => f (by omega)) (fun z => g (by omega)) (ti_n (by omega)) rfl
        have g5 : ∀ {X Y : Prop}, 0 ≤ j.toInt → j.toInt ≤ S (30 + c) → (j.toInt + n.toInt ≤ S (30 + c) → X) → ((S (30 + c) : Int) < j.toInt + n.toInt → Y) → (n ≤ N 2 (nI c).toNatClampNeg - j → X) ∧ (¬ n ≤ N 2 (nI c).toNatClampNeg - j → Y) := fun h1 h2 f g => by
          obtain ⟨x, hx, rfl, ex⟩ := ti_of h1
          rw [f2, pk_sub (by omega)]
          exact bz_le n.toInt ((S (30 + c) - x : Nat) : Int) (fun z => f (by omega)) (fun z => g (by omega)) rfl (ti_n (by omega))
        have stop : ∀ {X : Prop}, ¬ (0 ≤ n.toInt ∧ 0 ≤ i.toInt ∧ 0 ≤ j.toInt ∧ i.toInt + n.toInt ≤ S (30 + a) ∧ j.toInt + n.toInt ≤ S (30 + c)) → ((0 : Int32) = 0 → ∃ R1 N1, ∃ f1 : Int32, [Value.ref 0, Value.int (nI 3)] = [Value.ref 0, .int f1] ∧ hpM (va_up R 0 0) N = hpM R1 N1 ∧ K (some (.int (-10 - f1))) (hpM (va_up R1 0 f1) N1)) ∧ (¬ (0 : Int32) = 0 → X) := fun z => ⟨fun _ => bad z, fun w => absurd rfl w⟩
        refine bz_lt i.toInt 0 (fun h3 => ?_) (fun h3 => ?_)
        · refine And.intro (fun _ => ?_) (fun w => absurd rfl w)
          obtain ⟨R1, r⟩ := bad (by omega)
          exact Exists.intro R1 r
        refine bz_lt j.toInt 0 (fun h4 => ?_) (fun h4 => ?_)
        · refine And.intro (fun _ => ?_) (fun w => absurd rfl w)
          obtain ⟨R1, r⟩ := bad (by omega)
          exact Exists.intro R1 r
        refine bz_lt n.toInt 0 (fun h5 => ?_) (fun h5 => ?_)
        · refine And.intro (fun _ => ?_) (fun w => absurd rfl w)
          obtain ⟨R1, r⟩ := bad (by omega)
          exact Exists.intro R1 r
        refine And.intro hv ?_
        refine g2 (fun h6 => ?_) (fun h6 => ?_)
        · refine And.intro (fun _ => ?_) (fun w => absurd rfl w)
          obtain ⟨R1, r⟩ := bad (by omega)
          exact Exists.intro R1 r
        refine And.intro hv2 ?_
        refine g3 (fun h7 => ?_) (fun h7 => ?_)
        · refine And.intro (fun _ => ?_) (fun w => absurd rfl w)
          obtain ⟨R1, r⟩ := bad (by omega)
          exact Exists.intro R1 r
        refine And.intro (fun w => absurd w (by decide)) (fun _ => ?_)
        refine And.intro hv ?_
        refine g4 h3 h6 (fun h8 => ?_) (fun h8 => ?_)
        · obtain ⟨R1, r⟩ := bad (by omega)
          exact Exists.intro R1 r
        refine And.intro hv2 ?_
        refine g5 h4 h7 (fun h9 => ?_) (fun h9 => ?_)
        · have hP : inI (nI a) 4 ∧ inI (nI c) 4 ∧ S (10 + a) = 1 ∧ S (10 + c) = 1 ∧ S (20 + a) = S (20 + c) ∧ 0 ≤ n.toInt ∧ 0 ≤ i.toInt ∧ 0 ≤ j.toInt ∧ i.toInt + n.toInt ≤ S (30 + a) ∧ j.toInt + n.toInt ≤ S (30 + c) ∧ S (30 + a) ≤ 60 ∧ S (30 + c) ≤ 60 := ⟨hin, hin2, z1, y1, h, h5, h3, h4, h8, h9, l4, l6⟩
          obtain ⟨i', hi', rfl, ei⟩ := ti_of h3
          obtain ⟨j', hj', rfl, ej⟩ := ti_of h4
          obtain ⟨n', hn', rfl, en⟩ := ti_of h5
          have hs : ∀ b : Bool, cpf (N 3) (60 * a + i') (60 * c + j') (cpl n' 0 b) (cph n' 0 b) = N 3 := fun b => by cases b <;> exact cpf_0 _ _ _ _
          rw [nt_n hi', nt_n hj', nt_n hn']
          refine bz_le (nI j').toInt (nI i').toInt (fun h10 => ?_) (fun h10 => ?_)
          · have hd : decide ((nI i').toInt < (nI j').toInt) = false := decide_eq_false (by omega)
            rw [hd]
            exact Exists.intro n' ⟨trivial, rfl, hP, 0, _, _, _, N 3, by omega, rfl, rfl, rfl, rfl, rfl, (hs _).symm⟩
          · have hd : decide ((nI i').toInt < (nI j').toInt) = true := decide_eq_true h10
            rw [hd]
            exact Exists.intro n' ⟨trivial, rfl, hP, 0, _, _, _, N 3, by omega, rfl, rfl, rfl, rfl, rfl, (hs _).symm⟩
        · obtain ⟨R1, r⟩ := bad (by omega)
          exact Exists.intro R1 r
      · rw [if_pos h] at hK
        obtain ⟨R1, r⟩ := kf 2 (-12) hK (by decide)
        exact Exists.intro R1 r
    · have hin2 : ¬ inI o 4 := fun z => by rw [hb2.mpr z] at h2; cases h2
      rw [q_copy, if_pos (.inr hin2)] at hK
      exact hK _ N h0
  · rintro pc kk L st hp ⟨rfl, hP, q, y, l6, l9, F, hq, rfl, rfl, rfl, rfl, rfl, rfl⟩
    obtain ⟨hin, hin2, z1, y1, hl, h5, h3, h4, h8, h9, l4, l6'⟩ := id hP
    rw [q_copy, if_neg (by rintro (z | z); exact z hin; exact z hin2), if_neg (by omega), if_neg (not_not_intro hl), if_neg (not_not_intro ⟨h5, h3, h4, h8, h9⟩)] at hK
    obtain ⟨a, ha, rfl, ea⟩ := ti_of hin.1
    obtain ⟨c, hc, rfl, ec⟩ := ti_of hin2.1
    obtain ⟨i, hi, rfl, ei⟩ := ti_of h3
    obtain ⟨j, hj, rfl, ej⟩ := ti_of h4
    obtain ⟨n, hn, rfl, en⟩ := ti_of h5
    have l1 : a < 4 := by have := hin.2; omega
    have l2 : c < 4 := by have := hin2.2; omega
    rw [nt_n ha, nt_n hc, nt_n hi, nt_n hj, nt_n hn] at hK ⊢
    rw [nt_n ha, nt_n hc] at hP
    rw [nt_n hn] at hq
    rw [nt_n ha] at z1 h8 l4
    rw [nt_n hc] at y1 h9 l6'
    rw [ei, en] at h8
    rw [ej, en] at h9
    have b1 : i + n ≤ 60 := by omega
    have b2 : j + n ≤ 60 := by omega
    refine pk_le n q (fun h => ?_) (fun h => ?_)
    · obtain rfl : q = n := by omega
      have hF : cpf (N 3) (60 * a + i) (60 * c + j) (cpl q q (decide ((nI i).toInt < (nI j).toInt))) (cph q q (decide ((nI i).toInt < (nI j).toInt))) = cpf (N 3) (60 * a + i) (60 * c + j) 0 q := by
        unfold cpl cph
        split
        · rw [Nat.sub_self]
        · rfl
      rw [hF]
      refine hK (va_up R 0 0) (va_up N 3 (cpf (N 3) (60 * a + i) (60 * c + j) 0 q)) ?_
      obtain ⟨a0, a1, a2, ⟨r1, r2, r3, r4⟩, a4⟩ := h0
      have z1' : va_up S 0 0 (10 + a) = 1 := by rw [up_n _ (by omega)]; exact z1
      exact ⟨a0, a1, a2, ⟨r1, r2.trans (up_n (f := G) (k := c) 4 (by omega)).symm, r3.trans (up_n (f := G) (k := c) 5 (by omega)).symm, r4.trans (up_n (f := G) (k := c) 6 (by omega)).symm⟩, relH_copy l1 l2 z1' b1 b2 a4⟩
    have st : ∀ (x : Int32) (t lo hi lo' hi' : Nat), x = nI t → t < n → (60 * a + i + t < 60 * c + j + lo ∨ 60 * c + j + hi ≤ 60 * a + i + t) → upd (cpf (N 3) (60 * a + i) (60 * c + j) lo hi) (60 * c + j + t) (N 3 (60 * a + i + t)) = cpf (N 3) (60 * a + i) (60 * c + j) lo' hi' → vp_in ((60 : Int32) * nI a + nI i + x) 240 ∧ vp_in ((60 : Int32) * nI c + nI j + x) 240 ∧ upd (cpf (N 3) (60 * a + i) (60 * c + j) lo hi) ((60 : Int32) * nI c + nI j + x).toNatClampNeg (cpf (N 3) (60 * a + i) (60 * c + j) lo hi ((60 : Int32) * nI a + nI i + x).toNatClampNeg) = cpf (N 3) (60 * a + i) (60 * c + j) lo' hi' := fun x t lo hi lo' hi' ex ht ho hu => by
      subst ex
      rw [cel_i, cel_i, nI_add, nI_add, nI_clamp (by omega), nI_clamp (by omega), cpf_out _ ho]
      exact ⟨pk_in (60 * a + i + t) 240 (by omega), pk_in (60 * c + j + t) 240 (by omega), hu⟩
    cases hd : decide ((nI i).toInt < (nI j).toInt) with
    | false =>
      have hij : ¬ (nI i).toInt < (nI j).toInt := of_decide_eq_false hd
      rw [ei, ej] at hij
      obtain ⟨s1, s2, s3⟩ := st (nI q) q 0 q 0 (q + 1) rfl h (by omega) (cpf_up _ _ _ _ _ (by omega))
      refine And.intro (fun _ => ?_) (fun w => absurd rfl w)
      refine And.intro s1 (And.intro s2 ?_)
      exact Exists.intro (n - (q + 1)) ⟨by show _ < _; omega, rfl, hP, q + 1, _, _, _, _, by omega, rfl, rfl, rfl, rfl, nI_1 q, s3⟩
    | true =>
      have hij : (nI i).toInt < (nI j).toInt := of_decide_eq_true hd
      rw [ei, ej] at hij
      have ex : nI n - 1 - nI q = nI (n - 1 - q) := by
        have e1 : nI n - 1 = nI (n - 1) := pk_sub (a := n) (b := 1) (by omega)
        rw [e1, pk_sub (by omega)]
      obtain ⟨s1, s2, s3⟩ := st (nI n - 1 - nI q) (n - 1 - q) (n - q) n (n - (q + 1)) n ex (by omega) (by omega) (by
        have := cpf_dn (N 3) (60 * a + i) (60 * c + j) (n - (q + 1)) n (by omega)
        rw [show n - (q + 1) + 1 = n - q by omega] at this
        rw [show n - 1 - q = n - (q + 1) by omega]
        exact this)
      refine And.intro (fun w => absurd w (by decide)) (fun _ => ?_)
      refine And.intro s1 (And.intro s2 ?_)
      exact Exists.intro (n - (q + 1)) ⟨by show _ < _; omega, rfl, hP, q + 1, _, _, _, _, by omega, rfl, rfl, rfl, rfl, nI_1 q, s3⟩
set_option maxRecDepth 100000 in
set_option maxHeartbeats 4000000 in
theorem m_X8_copy (l : Launch) : ip_Met l yX8_copy cX8_copy 10 (some .int) (ip_rm 2) C_X8_copy := ip_met tb_X8_copy 400 (by decide +kernel) fl_X8_ok cn_X8_ok (ip_cs1 (ip_gsS (m_X8_isSheet l) (ip_in [713, 714, 39, 715] (by decide +kernel) (by decide +kernel)) ⟨by decide +kernel, by decide +kernel, by decide +kernel⟩ ⟨rfl, rfl, Nat.le_of_ble_eq_true rfl, Nat.le_of_ble_eq_true rfl⟩) (ip_cs1 (ip_gsV (m_X8_fails l) (ip_in [726, 728, 10, 39, 729] (by decide +kernel) (by decide +kernel)) rfl ⟨by decide +kernel, by decide +kernel, by decide +kernel⟩ ⟨rfl, rfl, Nat.le_of_ble_eq_true rfl, Nat.le_of_ble_eq_true rfl⟩) (ip_cs0))) ck_X8_copy rfl p_X8_copy
end
section
/-! ===== copy: the class ===== -/
def C_X7_copy : ip_C := fun vs hp K => ∃ tc S G, ∃ k i o j n : Int32, vs = [.ref 0, .int k, .int i, .int o, .int j, .int n] ∧ hp = hpC tc S G ∧ wfC S G ∧ K (some (.int (q_copy S G k i o j n).1)) (hpC tc (va_up S 0 (q_copy S G k i o j n).2.1) (q_copy S G k i o j n).2.2)
def cs_X7_copy : List ip_G := [(50, 2, 7, C_X7_sheetOf), (62, 2, 7, C_X7_faulty), (246, 3, 5, C_X5_hasCells), (253, 5, 0, C_arraycopy)]
theorem set_f (tc : Int32) (S : Nat → Nat) (G : Nat → Nat → Int32) (f : Nat) : List.set (hpC tc S G) 0 (.inr (6, [Value.ref 1, Value.ref 10, Value.ref 16, Value.ref 20, Value.ref 23, Value.int tc, Value.int (nI (S 0))].set 6 (Value.int (nI f)))) = hpC tc (va_up S 0 f) G := rfl
theorem set_f0 (tc : Int32) (S : Nat → Nat) (G : Nat → Nat → Int32) : List.set (hpC tc S G) 0 (.inr (6, [Value.ref 1, Value.ref 10, Value.ref 16, Value.ref 20, Value.ref 23, Value.int tc, Value.int (nI (S 0))].set 6 (Value.int 0))) = hpC tc (va_up S 0 0) G := rfl
theorem nt_cl {x : Int32} (h : 0 ≤ x.toInt) : x.toNatClampNeg = nt x := by
  obtain ⟨j, hj, rfl, e⟩ := ti_of h
  rw [nt_n hj, nI_clamp hj]
set_option maxHeartbeats 40000000 in
theorem p_X7_copy : ip_Pf fl_X7 cn_X7 cs_X7_copy (some .int) tb_X7_copy 8 C_X7_copy := ip_pf0 (by
  rintro _ _ K ⟨tc, S, G, k, i, o, j, n, rfl, rfl, hwf, hK⟩
  refine ⟨Nat.le_of_ble_eq_true rfl, ?_⟩
  refine Exists.intro tc ⟨va_up S 0 0, G, k, rfl, rfl, fun hn => ?_, fun a ha e => ?_⟩
  · rw [q_copy, if_pos (.inl hn)] at hK
    refine Exists.intro tc ⟨va_up S 0 0, G, o, rfl, rfl, fun hn2 => ?_, fun c hc e => ?_⟩
    · exact hK
    · exact hK
  subst e
  have hin := inI_n ha (n := 4) (by omega)
  refine Exists.intro tc ⟨va_up S 0 0, G, o, rfl, rfl, fun hn2 => ?_, fun c hc e => ?_⟩
  · rw [q_copy, if_pos (.inr hn2)] at hK
    exact hK
  subst e
  have hin2 := inI_n hc (n := 4) (by omega)
  rw [q_copy, if_neg (by rintro (z | z); exact z hin; exact z hin2), nt_n (by omega), nt_n (by omega)] at hK
  have hwH : wfH (va_up S 0 0) := fun x hx => by
    rw [up_n (f := S) (10 + x) (by omega), up_n (f := S) (20 + x) (by omega), up_n (f := S) (30 + x) (by omega)]
    exact hwf.2.1 x hx
  have hS : ∀ x, x ≠ 0 → va_up S 0 0 x = S x := fun x hx => up_n x hx
  obtain ⟨w1, w2, w3⟩ := hwf.2.1 a ha
  obtain ⟨v1, v2, v3⟩ := hwf.2.1 c hc
  have eS : ∀ f, va_up (va_up S 0 0) 0 f = va_up S 0 f := fun f => by funext z; simp only [va_up]; split <;> rfl
  have b0 : ∀ {X Y : Prop}, (S (10 + a) = 0 → X) → (S (10 + a) ≠ 0 → Y) → (nI (va_up S 0 0 (10 + a)) = 0 → X) ∧ (¬ nI (va_up S 0 0 (10 + a)) = 0 → Y) := fun f g => by rw [hS _ (by omega)]; exact pk_eq _ 0 f g
  have b1 : ∀ {X Y : Prop}, (S (10 + c) ≠ 0 → X) → (S (10 + c) = 0 → Y) → (¬ nI (va_up S 0 0 (10 + c)) = 0 → X) ∧ (nI (va_up S 0 0 (10 + c)) = 0 → Y) := fun f g => by rw [hS _ (by omega)]; exact pk_ne _ 0 f g
  have b2 : ∀ {X Y : Prop}, (S (20 + a) = S (20 + c) → X) → (S (20 + a) ≠ S (20 + c) → Y) → (nI (va_up S 0 0 (20 + a)) = nI (va_up S 0 0 (20 + c)) → X) ∧ (¬ nI (va_up S 0 0 (20 + a)) = nI (va_up S 0 0 (20 + c)) → Y) := fun f g => by rw [hS _ (by omega), hS _ (by omega)]; exact pk_eq _ _ f g
  have k1 : S (10 + a) = 0 ∨ S (10 + c) = 0 → K (some (.int (-10 - nI 1))) (hpC tc (va_up (va_up S 0 0) 0 1) G) := fun z => by rw [if_pos z] at hK; rw [eS]; exact hK
  have k2 : ¬ (S (10 + a) = 0 ∨ S (10 + c) = 0) → S (20 + a) ≠ S (20 + c) → K (some (.int (-10 - nI 2))) (hpC tc (va_up (va_up S 0 0) 0 2) G) := fun z z2 => by rw [if_neg z, if_pos z2] at hK; rw [eS]; exact hK
  have k3 : ¬ (S (10 + a) = 0 ∨ S (10 + c) = 0) → S (20 + a) = S (20 + c) → ¬ (0 ≤ n.toInt ∧ 0 ≤ i.toInt ∧ 0 ≤ j.toInt ∧ i.toInt + n.toInt ≤ S (30 + a) ∧ j.toInt + n.toInt ≤ S (30 + c)) → K (some (.int (-10 - nI 3))) (hpC tc (va_up (va_up S 0 0) 0 3) G) := fun z z2 z3 => by rw [if_neg z, if_neg (not_not_intro z2), if_pos z3] at hK; rw [eS]; exact hK
  have k4 : ¬ (S (10 + a) = 0 ∨ S (10 + c) = 0) → S (20 + a) = S (20 + c) → (0 ≤ n.toInt ∧ 0 ≤ i.toInt ∧ 0 ≤ j.toInt ∧ i.toInt + n.toInt ≤ S (30 + a) ∧ j.toInt + n.toInt ≤ S (30 + c)) → K (some (.int n)) (hpC tc (va_up S 0 0) (va_up G c (va_cpy (G a) (G c) i.toNatClampNeg j.toNatClampNeg n.toNatClampNeg))) := fun z z2 z3 => by
    rw [if_neg z, if_neg (not_not_intro z2), if_neg (not_not_intro z3)] at hK
    rw [nt_cl z3.1, nt_cl z3.2.1, nt_cl z3.2.2.1]
    exact hK
  have hb1 : ∀ b : Bool, (b = true ↔ 0 ≤ n.toInt ∧ 0 ≤ i.toInt ∧ i.toInt + n.toInt ≤ ((va_up S 0 0 (30 + a) : Nat) : Int)) → (b = true ↔ 0 ≤ n.toInt ∧ 0 ≤ i.toInt ∧ i.toInt + n.toInt ≤ S (30 + a)) := fun b h => by rw [hS _ (by omega)] at h; exact h
  have hb2 : ∀ b : Bool, (b = true ↔ 0 ≤ n.toInt ∧ 0 ≤ j.toInt ∧ j.toInt + n.toInt ≤ ((va_up S 0 0 (30 + c) : Nat) : Int)) → (b = true ↔ 0 ≤ n.toInt ∧ 0 ≤ j.toInt ∧ j.toInt + n.toInt ≤ S (30 + c)) := fun b h => by rw [hS _ (by omega)] at h; exact h
  clear hK eS hS hwf hin hin2
  rw [set_f0 tc S G]
  generalize va_up S 0 0 = T at hwH b0 b1 b2 k1 k2 k3 k4 hb1 hb2 ⊢
  rcases four ha with rfl | rfl | rfl | rfl
  all_goals
    rcases four hc with rfl | rfl | rfl | rfl
    all_goals
      refine b0 (fun z => ?_) (fun z => ?_)
      · exact Exists.intro tc ⟨T, G, 1, rfl, rfl, k1 (.inl z)⟩
      refine b1 (fun z2 => ?_) (fun z2 => ?_)
      · have z12 := not_or.mpr ⟨z, z2⟩
        refine b2 (fun z3 => ?_) (fun z3 => ?_)
        · refine Exists.intro tc ⟨T, G, _, i, n, ha, rfl, rfl, hwH, fun b hb => ?_⟩
          have hb := hb1 b hb
          refine ip_bt (fun h => ?_) (fun h => ?_)
          · have hz : ¬ b = true := fun q => by rw [q] at h; cases h
            rw [hb] at hz
            exact Exists.intro tc ⟨T, G, 3, rfl, rfl, k3 z12 z3 (fun q => hz ⟨q.1, q.2.1, q.2.2.2.1⟩)⟩
          · have hz := hb.mp h
            refine Exists.intro tc ⟨T, G, _, j, n, hc, rfl, rfl, hwH, fun b2 hbb => ?_⟩
            have hbb := hb2 b2 hbb
            refine ip_bn (fun h2 => ?_) (fun h2 => ?_)
            · have hy := hbb.mp h2
              refine Exists.intro _ ⟨_, _, _, i, j, n, _, _, rfl, rfl, rfl, hz.2.1, hy.2.1, hy.1, ?_, ?_, ?_⟩
              · have := hz.2.2; omega
              · have := hy.2.2; omega
              · exact k4 z12 z3 ⟨hy.1, hz.2.1, hy.2.1, hz.2.2, hy.2.2⟩
            · have hy : ¬ b2 = true := fun q => by rw [q] at h2; cases h2
              rw [hbb] at hy
              exact Exists.intro tc ⟨T, G, 3, rfl, rfl, k3 z12 z3 (fun q => hy ⟨q.1, q.2.2.1, q.2.2.2.2⟩)⟩
        · exact Exists.intro tc ⟨T, G, 2, rfl, rfl, k2 z12 z3⟩
      · exact Exists.intro tc ⟨T, G, 1, rfl, rfl, k1 (.inr z2)⟩)
set_option maxRecDepth 100000 in
set_option maxHeartbeats 4000000 in
theorem m_X7_copy (l : Launch) : ip_Met l yX7_copy cX7_copy 8 (some .int) (ip_rm 1) C_X7_copy := ip_met tb_X7_copy 400 (by decide +kernel) fl_X7_ok cn_X7_ok (ip_cs1 (ip_gsV (m_X7_sheetOf l) (ip_in [230, 232, 0, 32, 233] (by decide +kernel) (by decide +kernel)) rfl ⟨by decide +kernel, by decide +kernel, by decide +kernel⟩ ⟨rfl, rfl, Nat.le_of_ble_eq_true rfl, Nat.le_of_ble_eq_true rfl⟩) (ip_cs1 (ip_gsV (m_X7_faulty l) (ip_in [245, 247, 1, 32, 248] (by decide +kernel) (by decide +kernel)) rfl ⟨by decide +kernel, by decide +kernel, by decide +kernel⟩ ⟨rfl, rfl, Nat.le_of_ble_eq_true rfl, Nat.le_of_ble_eq_true rfl⟩) (ip_cs1 (ip_gsV (m_X5_hasCells l) (ip_in [576, 242, 243, 38, 244] (by decide +kernel) (by decide +kernel)) rfl ⟨by decide +kernel, by decide +kernel, by decide +kernel⟩ ⟨rfl, rfl, Nat.le_of_ble_eq_true rfl, Nat.le_of_ble_eq_true rfl⟩) (ip_cs1 (ip_gsCopy (ip_in [577, 414, 413, 43] (by decide +kernel) (by decide +kernel)) ⟨Nat.le_of_ble_eq_true rfl, Nat.le_of_ble_eq_true rfl⟩) (ip_cs0))))) ck_X7_copy rfl p_X7_copy
end
section
/-! ===== the reference: what may be so ===== -/
theorem lst_ct {f : Nat → Bool} : ∀ n, fb_ct f n = 0 ↔ lst f n = none
  | 0 => by simp [lst, fb_ct]
  | n + 1 => by
    have ih := lst_ct (f := f) n
    rw [fb_ct_succ]
    simp only [lst]
    cases hl : lst f n with
    | none =>
      rw [ih.mpr hl]
      cases f n <;> simp
    | some a =>
      have : fb_ct f n ≠ 0 := fun z => by rw [ih.mp z] at hl; cases hl
      simp only [reduceCtorEq, iff_false]
      omega
theorem up_bk {α : Type} (f : Nat → α) (k : Nat) (x : α) : va_up (va_up f k x) k (f k) = f := by
  funext j
  simp only [va_up]
  split
  · next h => rw [h]
  · rfl
theorem upd_bk (f : Nat → Int32) (k : Nat) (x : Int32) : upd (upd f k x) k (f k) = f := by
  funext j
  simp only [upd]
  split
  · next h => rw [h]
  · rfl
theorem fqB_lt {f : Nat → Bool} : ∀ {n b : Nat}, fqB f n = some b → b < n
  | n + 1, b, h => by
    rw [fqB] at h
    generalize (f n && (match fqB f n with
      | none => true
      | some b => decide (pc6 n < pc6 b))) = c at h
    cases c
    · have := fqB_lt (show fqB f n = some b from h); omega
    · cases h; omega
theorem ct_64 (f : Nat → Bool) {s : Nat} (h : s ≤ 64) : fb_ct f s ≤ 64 := Nat.le_trans (fb_ct_le f s) h
theorem add_bi (a : Nat) (b : Bool) : nI a + ip_bi b = nI (a + (if b then 1 else 0)) := by
  cases b
  · show nI a + nI 0 = _; rw [nI_add]; rfl
  · show nI a + nI 1 = _; rw [nI_add]; rfl
end
section
/-! ===== truths ===== -/
def C_X8_truths : ip_C := fun vs hp K => ∃ tc S G R N, ∃ w : Int32, vs = [.ref 0, .int w] ∧ hp = hpM R N ∧ wfC S G ∧ relA tc S G R N ∧ K (some (.int (r_truths S G w))) hp
def cs_X8_truths : List ip_G := [(65, 3, 0, C_X8_within), (191, 1, 8, C_X8_areSo)]
def I_X8_truths (P : Prop) (R : Nat → Int32) (N : Nat → Nat → Int32) (w : Int32) (f : Nat → Bool) : Nat → Nat → ip_P := fun pc k L st hp => pc = 50 ∧ P ∧ ∃ (s : Nat) (x y z u v : Int32), s ≤ 64 ∧ k = 64 - s ∧ L = [some (.ref 0), some (.int w), some (.int (R 5)), some (.int x), some (.int y), some (.int z), some (.int u)] ∧ st = [] ∧ hp = hpM (va_up R 5 v) N ∧ x = nI (fb_ct f s) ∧ y = ob (lst f s) ∧ z = (if w.toInt < 10 then 0 else nI (fb_ct (fun s => f s && s.testBit (w.toInt.toNat - 10)) s)) ∧ u = nI s
theorem p_X8_truths : ip_Pf fl_X8 cn_X8 cs_X8_truths (some .int) tb_X8_truths 7 C_X8_truths := by
  rintro _ _ K ⟨tc, S, G, R, N, w, rfl, rfl, hwf, hrel, hK⟩
  obtain ⟨m5, m6, m7, -⟩ := id hrel.2.2.1
  have w5 := hwf.2.2.2.2.1
  have w3 := hwf.1.2.2.1
  refine ⟨Nat.le_of_ble_eq_true rfl, I_X8_truths ((w.toInt = 0 ∨ w.toInt = 1 ∨ (10 ≤ w.toInt ∧ w.toInt ≤ 15)) ∧ S 2 ≠ 0) R N w (fun s => allSo (va_up S 1 s) G), ?_, ?_⟩
  · have b7 : ∀ {X Y : Prop}, (S 3 ≠ 0 → X) → (S 3 = 0 → Y) → (¬ R 7 = 0 → X) ∧ (R 7 = 0 → Y) := fun f g => by rw [m7]; exact pk_ne (S 3) 0 f g
    have kbad : ¬ (w.toInt = 0 ∨ w.toInt = 1 ∨ (10 ≤ w.toInt ∧ w.toInt ≤ 15)) → K (some (.int (-2))) (hpM R N) := fun z => by rw [r_truths, if_pos z] at hK; exact hK
    have kst : (w.toInt = 0 ∨ w.toInt = 1 ∨ (10 ≤ w.toInt ∧ w.toInt ≤ 15)) → S 3 = 0 → K (some (.int (-3))) (hpM R N) := fun z z2 => by rw [r_truths, if_neg (not_not_intro z), if_pos (w5.mpr z2)] at hK; exact hK
    have hu : va_up R 5 (R 5) = R := up_same R 5
    refine Exists.intro w ⟨0, 1, rfl, fun b hb => ?_⟩
    have t0 : (0 : Int32).toInt = 0 := by decide
    have t1 : (1 : Int32).toInt = 1 := by decide
    have t2 : (10 : Int32).toInt = 10 := by decide
    have t3 : (15 : Int32).toInt = 15 := by decide
    rw [t0, t1] at hb
    have hz : ∀ {X : Prop}, X → (if w.toInt < 10 then (0 : Int32) else nI (fb_ct (fun s => allSo (va_up S 1 s) G && s.testBit (w.toInt.toNat - 10)) 0)) = 0 := fun _ => by split <;> rfl
    have go : (w.toInt = 0 ∨ w.toInt = 1 ∨ (10 ≤ w.toInt ∧ w.toInt ≤ 15)) → S 3 ≠ 0 → ∃ k, ip_lt k none ∧ I_X8_truths ((w.toInt = 0 ∨ w.toInt = 1 ∨ (10 ≤ w.toInt ∧ w.toInt ≤ 15)) ∧ S 2 ≠ 0) R N w (fun s => allSo (va_up S 1 s) G) 50 k [some (.ref 0), some (.int w), some (.int (R 5)), some (.int 0), some (.int (-9)), some (.int 0), some (.int 0)] [] (hpM R N) := fun z z2 => ⟨64, trivial, rfl, ⟨z, fun q => z2 (w5.mp q)⟩, 0, 0, -9, 0, 0, R 5, by omega, rfl, rfl, rfl, by rw [hu], rfl, rfl, (hz trivial).symm, rfl⟩
    refine ip_bn (fun h => ?_) (fun h => ?_)
    · have h' := hb.mp h
      refine b7 (fun h2 => ?_) (fun h2 => ?_)
      · obtain ⟨k, r⟩ := go (by omega) h2
        exact Exists.intro k r
      · exact kst (by omega) h2
    · have h' : ¬ (0 ≤ w.toInt ∧ w.toInt ≤ 1) := fun z => by rw [hb.mpr z] at h; cases h
      refine Exists.intro w ⟨10, 15, rfl, fun b2 hb2 => ?_⟩
      rw [t2, t3] at hb2
      refine ip_bn (fun h3 => ?_) (fun h3 => ?_)
      · have h3 := hb2.mp h3
        refine b7 (fun h2 => ?_) (fun h2 => ?_)
        · obtain ⟨k, r⟩ := go (by omega) h2
          exact Exists.intro k r
        · exact kst (by omega) h2
      · have h4 : ¬ (10 ≤ w.toInt ∧ w.toInt ≤ 15) := fun z => by rw [hb2.mpr z] at h3; cases h3
        exact kbad (by omega)
  · rintro pc k L st hp ⟨rfl, ⟨hw, hs2⟩, s, x, y, z, u, v, hs, rfl, rfl, rfl, rfl, rfl, rfl, rfl, rfl⟩
    rw [r_truths, if_neg (not_not_intro hw), if_neg hs2] at hK
    refine pk_lt 63 s (fun h => ?_) (fun h => ?_)
    · obtain rfl : s = 64 := by omega
      have hu : va_up (va_up R 5 v) 5 (R 5) = R := up_bk R 5 v
      have hK' : ∀ r, (if w.toInt = 0 then nI (fb_ct (fun s => allSo (va_up S 1 s) G) 64) else if w.toInt = 1 then ob (lst (fun s => allSo (va_up S 1 s) G) 64) else nI (fb_ct (fun s => allSo (va_up S 1 s) G && s.testBit (w.toInt.toNat - 10)) 64)) = r → K (some (.int r)) (hpM (va_up (va_up R 5 v) 5 (R 5)) N) := fun r e => by rw [hu, ← e]; exact hK
      refine bz_ne w.toInt 0 (fun h2 => ?_) (fun h2 => ?_)
      · refine bz_ne w.toInt 1 (fun h3 => ?_) (fun h3 => ?_)
        · exact hK' _ (by rw [if_neg h2, if_neg h3, if_neg (by omega)])
        · exact hK' _ (by rw [if_neg h2, if_pos h3])
      · exact hK' _ (by rw [if_pos h2])
    generalize hf : (fun s => allSo (va_up S 1 s) G) = f at hK ⊢
    have hfs : allSo (va_up S 1 s) G = f s := by rw [← hf]
    have hct := ct_64 f hs
    have hP : (w.toInt = 0 ∨ w.toInt = 1 ∨ (10 ≤ w.toInt ∧ w.toInt ≤ 15)) ∧ S 2 ≠ 0 := ⟨hw, hs2⟩
    have h9 : nI s + 1 = nI (s + 1) := nI_1 s
    have hn : ∀ (x y z u : Int32), x = nI (fb_ct f (s + 1)) → y = ob (lst f (s + 1)) → z = (if w.toInt < 10 then 0 else nI (fb_ct (fun s => f s && s.testBit (w.toInt.toNat - 10)) (s + 1))) → u = nI (s + 1) → ∃ k, ip_lt k (some (64 - s)) ∧ I_X8_truths ((w.toInt = 0 ∨ w.toInt = 1 ∨ (10 ≤ w.toInt ∧ w.toInt ≤ 15)) ∧ S 2 ≠ 0) R N w f 50 k [some (.ref 0), some (.int w), some (.int (R 5)), some (.int x), some (.int y), some (.int z), some (.int u)] [] (hpM (va_up R 5 (nI s)) N) := fun x y z u hx hy hz hu => ⟨64 - (s + 1), by show _ < _; omega, rfl, hP, s + 1, x, y, z, u, nI s, by omega, rfl, rfl, rfl, rfl, hx, hy, hz, hu⟩
    have x0 : f s = false → nI (fb_ct f s) = nI (fb_ct f (s + 1)) := fun h => by rw [fb_ct_succ, h]; simp
    have x1 : f s = true → nI (fb_ct f s) + 1 = nI (fb_ct f (s + 1)) := fun h => by rw [fb_ct_succ, h, nI_1]; simp
    have y0 : f s = false → ob (lst f s) = ob (lst f (s + 1)) := fun h => by
      simp only [lst]
      cases lst f s with
      | none => rw [h]; rfl
      | some a => rfl
    have y1 : fb_ct f s = 0 → f s = true → nI s = ob (lst f (s + 1)) := fun h h2 => by
      simp only [lst]
      rw [(lst_ct s).mp h, h2]
      rfl
    have y2 : fb_ct f s ≠ 0 → ob (lst f s) = ob (lst f (s + 1)) := fun h => by
      simp only [lst]
      cases e : lst f s with
      | none => exact absurd ((lst_ct s).mpr e) h
      | some a => rfl
    have z0 : f s = false → (if w.toInt < 10 then (0 : Int32) else nI (fb_ct (fun s => f s && s.testBit (w.toInt.toNat - 10)) s)) = (if w.toInt < 10 then 0 else nI (fb_ct (fun s => f s && s.testBit (w.toInt.toNat - 10)) (s + 1))) := fun h => by rw [fb_ct_succ, h]; simp
    have z1 : w.toInt < 10 → (if w.toInt < 10 then (0 : Int32) else nI (fb_ct (fun s => f s && s.testBit (w.toInt.toNat - 10)) s)) + 0 = (if w.toInt < 10 then 0 else nI (fb_ct (fun s => f s && s.testBit (w.toInt.toNat - 10)) (s + 1))) := fun h => by rw [if_pos h, if_pos h]; rfl
    have z2 : 10 ≤ w.toInt → f s = true → (if w.toInt < 10 then (0 : Int32) else nI (fb_ct (fun s => f s && s.testBit (w.toInt.toNat - 10)) s)) + ((nI s >>> ((w - 10) &&& 31)) &&& 1) = (if w.toInt < 10 then 0 else nI (fb_ct (fun s => f s && s.testBit (w.toInt.toNat - 10)) (s + 1))) := fun h h2 => by
      obtain ⟨j, hj, rfl, ej⟩ := ti_of (show 0 ≤ w.toInt by omega)
      rw [if_neg (by omega), if_neg (by omega), ej, show ((j : Int)).toNat - 10 = j - 10 by omega, show nI j - 10 = nI (j - 10) from pk_sub (a := j) (b := 10) (by omega)]
      have hb := bt_bi ⟨s, by omega⟩ ⟨j - 10, by omega⟩
      simp only at hb
      rw [hb, add_bi, fb_ct_succ, h2]
      simp
    clear hK
    refine Exists.intro (va_up R 5 (nI s)) ⟨N, va_up S 1 s, G, rfl, rfl, wfM_tr hwf.1 (by omega), wfR_up hwf.2.2.1 (by decide), relM_t s hrel.2.2.1, hrel.2.2.2.1, ?_⟩
    rw [hfs]
    refine ip_bt (fun h3 => ?_) (fun h3 => ?_)
    · exact hn _ _ _ _ (x0 h3) (y0 h3) (z0 h3) h9
    refine pk_ne (fb_ct f s) 0 (fun h4 => ?_) (fun h4 => ?_)
    · refine bz_le 10 w.toInt (fun h5 => ?_) (fun h5 => ?_)
      · exact hn _ _ _ _ (x1 h3) (y2 h4) (z2 h5 h3) h9
      · exact hn _ _ _ _ (x1 h3) (y2 h4) (z1 h5) h9
    · refine bz_le 10 w.toInt (fun h5 => ?_) (fun h5 => ?_)
      · exact hn _ _ _ _ (x1 h3) (y1 h4 h3) (z2 h5 h3) h9
      · exact hn _ _ _ _ (x1 h3) (y1 h4 h3) (z1 h5) h9
set_option maxRecDepth 100000 in
set_option maxHeartbeats 4000000 in
theorem m_X8_truths (l : Launch) : ip_Met l yX8_truths cX8_truths 7 (some .int) (ip_rm 4) C_X8_truths := ip_met tb_X8_truths 400 (by decide +kernel) fl_X8_ok cn_X8_ok (ip_cs1 (ip_gsS (m_X8_within l) (ip_in [716, 717, 39, 718] (by decide +kernel) (by decide +kernel)) ⟨by decide +kernel, by decide +kernel, by decide +kernel⟩ ⟨rfl, rfl, Nat.le_of_ble_eq_true rfl, Nat.le_of_ble_eq_true rfl⟩) (ip_cs1 (ip_gsV (m_X8_areSo l) (ip_in [883, 885, 29, 39, 886] (by decide +kernel) (by decide +kernel)) rfl ⟨by decide +kernel, by decide +kernel, by decide +kernel⟩ ⟨rfl, rfl, Nat.le_of_ble_eq_true rfl, Nat.le_of_ble_eq_true rfl⟩) (ip_cs0))) ck_X8_truths rfl p_X8_truths
end
section
/-! ===== stood ===== -/
def C_X8_stood : ip_C := fun vs hp K => ∃ tc S G R N, ∃ m : Int32, vs = [.ref 0, .int m] ∧ hp = hpM R N ∧ wfC S G ∧ relA tc S G R N ∧ K (some (.int (r_stood S G m))) hp
def cs_X8_stood : List ip_G := [(125, 2, 8, C_X8_isMan), (191, 1, 8, C_X8_areSo)]
def I_X8_stood (P : Prop) (R : Nat → Int32) (N : Nat → Nat → Int32) (m n : Nat) (f : Nat → Bool) : Nat → Nat → ip_P := fun pc k L st hp => pc = 22 ∧ P ∧ ∃ (s : Nat) (x y : Int32) (F : Nat → Int32), s ≤ n ∧ k = n - s ∧ L = [some (.ref 0), some (.int (nI m)), some (.int (N 5 (nI m).toNatClampNeg)), some (.int x), some (.int y)] ∧ st = [] ∧ hp = hpM R (va_up N 5 F) ∧ x = nI (bs s f) ∧ y = nI s ∧ ∀ x, upd F (nI m).toNatClampNeg x = upd (N 5) (nI m).toNatClampNeg x
theorem p_X8_stood : ip_Pf fl_X8 cn_X8 cs_X8_stood (some .int) tb_X8_stood 5 C_X8_stood := by
  rintro _ _ K ⟨tc, S, G, R, N, m, rfl, rfl, hwf, hrel, hK⟩
  obtain ⟨m5, m6, m7, -⟩ := id hrel.2.2.1
  have w3 := hwf.1.2.2.1
  have w2 := hwf.1.2.1
  refine ⟨Nat.le_of_ble_eq_true rfl, I_X8_stood (inI m (S 3)) R N (nt m) (S 2) (fun s => allSo (va_up S (50 + nt m) s) G), ?_, ?_⟩
  · refine Exists.intro R ⟨N, m, S 3, rfl, rfl, m7, w3, fun b hb => ?_⟩
    refine ip_bn (fun h => ?_) (fun h => ?_)
    · have hin : inI m (S 3) := hb.mp h
      obtain ⟨i, hi, rfl, ei⟩ := ti_of hin.1
      have l1 : i < 4 := by have := hin.2; omega
      rw [nt_n hi]
      refine And.intro (pk_in i 4 l1) ?_
      exact Exists.intro (S 2 - 0) ⟨trivial, rfl, hin, 0, _, _, N 5, by omega, rfl, rfl, rfl, congrArg (hpM R) (up_same N 5).symm, rfl, rfl, fun _ => rfl⟩
    · have hin : ¬ inI m (S 3) := fun z => by rw [hb.mpr z] at h; cases h
      rw [r_stood, if_pos hin] at hK
      exact hK
  · rintro pc k L st hp ⟨rfl, hin, s, x, y, F, hs, rfl, rfl, rfl, rfl, rfl, rfl, hF⟩
    rw [r_stood, if_neg (not_not_intro hin)] at hK
    have l1 : nt m < 4 := by have := (inI_nt hin).1; omega
    have hin0 := hin
    generalize nt m = m' at hK hF l1 ⊢
    have hv : vp_in (nI m') 4 := pk_in m' 4 l1
    generalize hf : (fun s => allSo (va_up S (50 + m') s) G) = f at hK ⊢
    have hfs : allSo (va_up S (50 + m') s) G = f s := by rw [← hf]
    have b6 : ∀ {X Y : Prop}, (S 2 ≤ s → X) → (s < S 2 → Y) → (R 6 ≤ nI s → X) ∧ (¬ R 6 ≤ nI s → Y) := fun f g => by rw [m6]; exact pk_le (S 2) s f g
    refine b6 (fun h => ?_) (fun h => ?_)
    · obtain rfl : s = S 2 := by omega
      have e : va_up (va_up N 5 F) 5 (upd F (nI m').toNatClampNeg (N 5 (nI m').toNatClampNeg)) = N := by rw [hF, fa_upd_same rfl]; exact up_bk N 5 F
      have hK' : K (some (.int (nI (bs (S 2) f)))) (hpM R (va_up (va_up N 5 F) 5 (upd F (nI m').toNatClampNeg (N 5 (nI m').toNatClampNeg)))) := by rw [e]; exact hK
      exact And.intro hv hK'
    have hr2 : relM (va_up S (50 + m') s) R (va_up N 5 (upd F (nI m').toNatClampNeg (nI s))) 0 := by rw [hF]; exact relM_p s l1 hrel.2.2.1
    have hrr : relR (va_up S (50 + m') s) G R (va_up N 5 (upd F (nI m').toNatClampNeg (nI s))) := ⟨by rw [up_n (f := S) 4 (by omega)]; exact hrel.2.2.2.1.1, hrel.2.2.2.1.2⟩
    have h9 : nI s + 1 = nI (s + 1) := nI_1 s
    have hn : ∀ (x y : Int32), x = nI (bs (s + 1) f) → y = nI (s + 1) → ∃ k, ip_lt k (some (S 2 - s)) ∧ I_X8_stood (inI m (S 3)) R N m' (S 2) f 22 k [some (.ref 0), some (.int (nI m')), some (.int (N 5 (nI m').toNatClampNeg)), some (.int x), some (.int y)] [] (hpM R (va_up N 5 (upd F (nI m').toNatClampNeg (nI s)))) := fun x y hx hy => ⟨S 2 - (s + 1), by show _ < _; omega, rfl, hin0, s + 1, x, y, _, by omega, rfl, rfl, rfl, rfl, hx, hy, fun x => by rw [fa_upd_twice]; exact hF x⟩
    have hb := bs_lt f s
    have e0 : f s = false → nI (bs s f) ||| 0 = nI (bs (s + 1) f) := fun h => by rw [show (0 : Int32) = nI 0 from rfl, fa_or, Nat.or_zero]; simp [bs, h]
    have e1 : f s = true → nI (bs s f) ||| ((1 : Int32) <<< (nI s &&& 31)) = nI (bs (s + 1) f) := fun h => by rw [or_bit hb (by omega)]; simp [bs, h]
    clear hK
    refine And.intro hv ?_
    refine Exists.intro R ⟨va_up N 5 (upd F (nI m').toNatClampNeg (nI s)), va_up S (50 + m') s, G, rfl, rfl, wfM_pl hwf.1 l1 (by omega), wfR_up hwf.2.2.1 (by omega), hr2, hrr, ?_⟩
    rw [hfs]
    refine ip_bt (fun h3 => ?_) (fun h3 => ?_)
    · exact hn _ _ (e0 h3) h9
    · exact hn _ _ (e1 h3) h9
set_option maxRecDepth 100000 in
set_option maxHeartbeats 4000000 in
theorem m_X8_stood (l : Launch) : ip_Met l yX8_stood cX8_stood 5 (some .int) (ip_rm 4) C_X8_stood := ip_met tb_X8_stood 400 (by decide +kernel) fl_X8_ok cn_X8_ok (ip_cs1 (ip_gsV (m_X8_isMan l) (ip_in [754, 756, 16, 39, 757] (by decide +kernel) (by decide +kernel)) rfl ⟨by decide +kernel, by decide +kernel, by decide +kernel⟩ ⟨rfl, rfl, Nat.le_of_ble_eq_true rfl, Nat.le_of_ble_eq_true rfl⟩) (ip_cs1 (ip_gsV (m_X8_areSo l) (ip_in [883, 885, 29, 39, 886] (by decide +kernel) (by decide +kernel)) rfl ⟨by decide +kernel, by decide +kernel, by decide +kernel⟩ ⟨rfl, rfl, Nat.le_of_ble_eq_true rfl, Nat.le_of_ble_eq_true rfl⟩) (ip_cs0))) ck_X8_stood rfl p_X8_stood
/-! ===== kinds ===== -/
def C_X8_kinds : ip_C := fun vs hp K => ∃ tc S G R N, ∃ m : Int32, vs = [.ref 0, .int m] ∧ hp = hpM R N ∧ wfC S G ∧ relA tc S G R N ∧ K (some (.int (r_kinds S G m))) hp
def cs_X8_kinds : List ip_G := [(125, 2, 8, C_X8_isMan), (191, 1, 8, C_X8_areSo)]
def I_X8_kinds (P : Prop) (R : Nat → Int32) (N : Nat → Nat → Int32) (m n : Nat) (f : Nat → Bool) : Nat → Nat → ip_P := fun pc k L st hp => pc = 22 ∧ P ∧ ∃ (s : Nat) (x y : Int32) (F : Nat → Int32), s ≤ n ∧ k = n - s ∧ L = [some (.ref 0), some (.int (nI m)), some (.int (N 4 (nI m).toNatClampNeg)), some (.int x), some (.int y)] ∧ st = [] ∧ hp = hpM R (va_up N 4 F) ∧ x = nI (bs s f) ∧ y = nI s ∧ ∀ x, upd F (nI m).toNatClampNeg x = upd (N 4) (nI m).toNatClampNeg x
theorem p_X8_kinds : ip_Pf fl_X8 cn_X8 cs_X8_kinds (some .int) tb_X8_kinds 5 C_X8_kinds := by
  rintro _ _ K ⟨tc, S, G, R, N, m, rfl, rfl, hwf, hrel, hK⟩
  obtain ⟨m5, m6, m7, -⟩ := id hrel.2.2.1
  have w3 := hwf.1.2.2.1
  have w2 := hwf.1.2.1
  refine ⟨Nat.le_of_ble_eq_true rfl, I_X8_kinds (inI m (S 3)) R N (nt m) (3) (fun s => allSo (va_up S (40 + nt m) s) G), ?_, ?_⟩
  · refine Exists.intro R ⟨N, m, S 3, rfl, rfl, m7, w3, fun b hb => ?_⟩
    refine ip_bn (fun h => ?_) (fun h => ?_)
    · have hin : inI m (S 3) := hb.mp h
      obtain ⟨i, hi, rfl, ei⟩ := ti_of hin.1
      have l1 : i < 4 := by have := hin.2; omega
      rw [nt_n hi]
      refine And.intro (pk_in i 4 l1) ?_
      exact Exists.intro (3 - 0) ⟨trivial, rfl, hin, 0, _, _, N 4, by omega, rfl, rfl, rfl, congrArg (hpM R) (up_same N 4).symm, rfl, rfl, fun _ => rfl⟩
    · have hin : ¬ inI m (S 3) := fun z => by rw [hb.mpr z] at h; cases h
      rw [r_kinds, if_pos hin] at hK
      exact hK
  · rintro pc k L st hp ⟨rfl, hin, s, x, y, F, hs, rfl, rfl, rfl, rfl, rfl, rfl, hF⟩
    rw [r_kinds, if_neg (not_not_intro hin)] at hK
    have l1 : nt m < 4 := by have := (inI_nt hin).1; omega
    have hin0 := hin
    generalize nt m = m' at hK hF l1 ⊢
    have hv : vp_in (nI m') 4 := pk_in m' 4 l1
    generalize hf : (fun s => allSo (va_up S (40 + m') s) G) = f at hK ⊢
    have hfs : allSo (va_up S (40 + m') s) G = f s := by rw [← hf]
    have b6 : ∀ {X Y : Prop}, (3 ≤ s → X) → (s < 3 → Y) → (nI 3 ≤ nI s → X) ∧ (¬ nI 3 ≤ nI s → Y) := fun f g => by exact pk_le (3) s f g
    refine b6 (fun h => ?_) (fun h => ?_)
    · obtain rfl : s = 3 := by omega
      have e : va_up (va_up N 4 F) 4 (upd F (nI m').toNatClampNeg (N 4 (nI m').toNatClampNeg)) = N := by rw [hF, fa_upd_same rfl]; exact up_bk N 4 F
      have hK' : K (some (.int (nI (bs (3) f)))) (hpM R (va_up (va_up N 4 F) 4 (upd F (nI m').toNatClampNeg (N 4 (nI m').toNatClampNeg)))) := by rw [e]; exact hK
      exact And.intro hv hK'
    have hr2 : relM (va_up S (40 + m') s) R (va_up N 4 (upd F (nI m').toNatClampNeg (nI s))) 0 := by rw [hF]; exact relM_k s l1 hrel.2.2.1
    have hrr : relR (va_up S (40 + m') s) G R (va_up N 4 (upd F (nI m').toNatClampNeg (nI s))) := ⟨by rw [up_n (f := S) 4 (by omega)]; exact hrel.2.2.2.1.1, hrel.2.2.2.1.2⟩
    have h9 : nI s + 1 = nI (s + 1) := nI_1 s
    have hn : ∀ (x y : Int32), x = nI (bs (s + 1) f) → y = nI (s + 1) → ∃ k, ip_lt k (some (3 - s)) ∧ I_X8_kinds (inI m (S 3)) R N m' (3) f 22 k [some (.ref 0), some (.int (nI m')), some (.int (N 4 (nI m').toNatClampNeg)), some (.int x), some (.int y)] [] (hpM R (va_up N 4 (upd F (nI m').toNatClampNeg (nI s)))) := fun x y hx hy => ⟨3 - (s + 1), by show _ < _; omega, rfl, hin0, s + 1, x, y, _, by omega, rfl, rfl, rfl, rfl, hx, hy, fun x => by rw [fa_upd_twice]; exact hF x⟩
    have hb := bs_lt f s
    have e0 : f s = false → nI (bs s f) ||| 0 = nI (bs (s + 1) f) := fun h => by rw [show (0 : Int32) = nI 0 from rfl, fa_or, Nat.or_zero]; simp [bs, h]
    have e1 : f s = true → nI (bs s f) ||| ((1 : Int32) <<< (nI s &&& 31)) = nI (bs (s + 1) f) := fun h => by rw [or_bit hb (by omega)]; simp [bs, h]
    clear hK
    refine And.intro hv ?_
    refine Exists.intro R ⟨va_up N 4 (upd F (nI m').toNatClampNeg (nI s)), va_up S (40 + m') s, G, rfl, rfl, wfM_kd hwf.1 l1 (by omega), wfR_up hwf.2.2.1 (by omega), hr2, hrr, ?_⟩
    rw [hfs]
    refine ip_bt (fun h3 => ?_) (fun h3 => ?_)
    · exact hn _ _ (e0 h3) h9
    · exact hn _ _ (e1 h3) h9
set_option maxRecDepth 100000 in
set_option maxHeartbeats 4000000 in
theorem m_X8_kinds (l : Launch) : ip_Met l yX8_kinds cX8_kinds 5 (some .int) (ip_rm 4) C_X8_kinds := ip_met tb_X8_kinds 400 (by decide +kernel) fl_X8_ok cn_X8_ok (ip_cs1 (ip_gsV (m_X8_isMan l) (ip_in [754, 756, 16, 39, 757] (by decide +kernel) (by decide +kernel)) rfl ⟨by decide +kernel, by decide +kernel, by decide +kernel⟩ ⟨rfl, rfl, Nat.le_of_ble_eq_true rfl, Nat.le_of_ble_eq_true rfl⟩) (ip_cs1 (ip_gsV (m_X8_areSo l) (ip_in [883, 885, 29, 39, 886] (by decide +kernel) (by decide +kernel)) rfl ⟨by decide +kernel, by decide +kernel, by decide +kernel⟩ ⟨rfl, rfl, Nat.le_of_ble_eq_true rfl, Nat.le_of_ble_eq_true rfl⟩) (ip_cs0))) ck_X8_kinds rfl p_X8_kinds
end
section
/-! ===== knew, shares, worth ===== -/
theorem fq_f {f : Nat → Bool} {s : Nat} (h : f s = false) : fqB f (s + 1) = fqB f s := by
  simp only [fqB, h, Bool.false_and]; rfl
theorem fq_n {f : Nat → Bool} {s : Nat} (h : f s = true) (h2 : fqB f s = none) : fqB f (s + 1) = some s := by
  simp only [fqB, h, h2]; rfl
theorem fq_s {f : Nat → Bool} {s b : Nat} (h : f s = true) (h2 : fqB f s = some b) (h3 : pc6 s < pc6 b) : fqB f (s + 1) = some s := by
  simp only [fqB, h, h2, decide_eq_true h3]; rfl
theorem fq_k {f : Nat → Bool} {s b : Nat} (h2 : fqB f s = some b) (h3 : pc6 b ≤ pc6 s) : fqB f (s + 1) = fqB f s := by
  simp only [fqB, h2, decide_eq_false (Nat.not_lt.mpr h3), Bool.and_false]; rfl
theorem ne9_64 : ∀ b : Fin 64, ¬ nI b.val = -9 := by decide +kernel
def C_X8_knew : ip_C := fun vs hp K => ∃ tc S G R N, ∃ m w : Int32, vs = [.ref 0, .int m, .int w] ∧ hp = hpM R N ∧ wfC S G ∧ relA tc S G R N ∧ K (some (.int (r_knew S G m w))) hp
def cs_X8_knew : List ip_G := [(125, 2, 8, C_X8_isMan), (65, 3, 0, C_X8_within), (191, 1, 8, C_X8_areSo), (169, 1, 0, C_X8_size)]
def I_X8_knew (P : Prop) (R : Nat → Int32) (N : Nat → Nat → Int32) (m : Nat) (w : Int32) (f : Nat → Bool) : Nat → Nat → ip_P := fun pc k L st hp => pc = 39 ∧ P ∧ ∃ (s : Nat) (x y z : Int32) (F : Nat → Int32), s ≤ 64 ∧ k = 64 - s ∧ L = [some (.ref 0), some (.int (nI m)), some (.int w), some (.int (N 6 (nI m).toNatClampNeg)), some (.int x), some (.int y), some (.int z)] ∧ st = [] ∧ hp = hpM R (va_up N 6 F) ∧ x = nI (fb_ct f s) ∧ y = ob (fqB f s) ∧ z = nI s ∧ ∀ x, upd F (nI m).toNatClampNeg x = upd (N 6) (nI m).toNatClampNeg x
theorem p_X8_knew : ip_Pf fl_X8 cn_X8 cs_X8_knew (some .int) tb_X8_knew 7 C_X8_knew := by
  rintro _ _ K ⟨tc, S, G, R, N, m, w, rfl, rfl, hwf, hrel, hK⟩
  obtain ⟨m5, m6, m7, -⟩ := id hrel.2.2.1
  have w3 := hwf.1.2.2.1
  refine ⟨Nat.le_of_ble_eq_true rfl, I_X8_knew (inI m (S 3) ∧ (w.toInt = 0 ∨ w.toInt = 1)) R N (nt m) w (fun s => allSo (va_up S (60 + nt m) s) G), ?_, ?_⟩
  · refine Exists.intro R ⟨N, m, S 3, rfl, rfl, m7, w3, fun b hb => ?_⟩
    refine ip_bn (fun h => ?_) (fun h => ?_)
    · have hin : inI m (S 3) := hb.mp h
      refine Exists.intro w ⟨0, 1, rfl, fun b2 hb2 => ?_⟩
      have t0 : (0 : Int32).toInt = 0 := by decide
      have t1 : (1 : Int32).toInt = 1 := by decide
      rw [t0, t1] at hb2
      refine ip_bn (fun h2 => ?_) (fun h2 => ?_)
      · have h2 := hb2.mp h2
        obtain ⟨i, hi, rfl, ei⟩ := ti_of hin.1
        have l1 : i < 4 := by have := hin.2; omega
        rw [nt_n hi]
        refine And.intro (pk_in i 4 l1) ?_
        exact Exists.intro (64 - 0) ⟨trivial, rfl, ⟨hin, by omega⟩, 0, _, _, _, N 6, by omega, rfl, rfl, rfl, congrArg (hpM R) (up_same N 6).symm, rfl, rfl, rfl, fun _ => rfl⟩
      · have h2 : ¬ (0 ≤ w.toInt ∧ w.toInt ≤ 1) := fun z => by rw [hb2.mpr z] at h2; cases h2
        rw [r_knew, if_neg (not_not_intro hin), if_neg (by omega), if_neg (by omega)] at hK
        exact hK
    · have hin : ¬ inI m (S 3) := fun z => by rw [hb.mpr z] at h; cases h
      rw [r_knew, if_pos hin] at hK
      exact hK
  · rintro pc k L st hp ⟨rfl, ⟨hin, hw⟩, s, x, y, z, F, hs, rfl, rfl, rfl, rfl, rfl, rfl, rfl, hF⟩
    rw [r_knew, if_neg (not_not_intro hin)] at hK
    have l1 : nt m < 4 := by have := (inI_nt hin).1; omega
    have hP : inI m (S 3) ∧ (w.toInt = 0 ∨ w.toInt = 1) := ⟨hin, hw⟩
    generalize nt m = m' at hK hF l1 ⊢
    have hv : vp_in (nI m') 4 := pk_in m' 4 l1
    generalize hf : (fun s => allSo (va_up S (60 + m') s) G) = f at hK ⊢
    have hfs : allSo (va_up S (60 + m') s) G = f s := by rw [← hf]
    refine pk_lt 63 s (fun h => ?_) (fun h => ?_)
    · obtain rfl : s = 64 := by omega
      have e : va_up (va_up N 6 F) 6 (upd F (nI m').toNatClampNeg (N 6 (nI m').toNatClampNeg)) = N := by rw [hF, fa_upd_same rfl]; exact up_bk N 6 F
      have hK' : ∀ r, (if w.toInt = 0 then nI (fb_ct f 64) else if w.toInt = 1 then ob (fqB f 64) else -2) = r → K (some (.int r)) (hpM R (va_up (va_up N 6 F) 6 (upd F (nI m').toNatClampNeg (N 6 (nI m').toNatClampNeg)))) := fun r er => by rw [e, ← er]; exact hK
      refine And.intro hv ?_
      refine bz_ne w.toInt 0 (fun h2 => ?_) (fun h2 => ?_)
      · exact hK' _ (by rw [if_neg h2, if_pos (by omega)])
      · exact hK' _ (by rw [if_pos h2])
    have hr2 : relM (va_up S (60 + m') s) R (va_up N 6 (upd F (nI m').toNatClampNeg (nI s))) 0 := by rw [hF]; exact relM_l s l1 hrel.2.2.1
    have hrr : relR (va_up S (60 + m') s) G R (va_up N 6 (upd F (nI m').toNatClampNeg (nI s))) := ⟨by rw [up_n (f := S) 4 (by omega)]; exact hrel.2.2.2.1.1, hrel.2.2.2.1.2⟩
    have h9 : nI s + 1 = nI (s + 1) := nI_1 s
    have hn : ∀ (x y z : Int32), x = nI (fb_ct f (s + 1)) → y = ob (fqB f (s + 1)) → z = nI (s + 1) → ∃ k, ip_lt k (some (64 - s)) ∧ I_X8_knew (inI m (S 3) ∧ (w.toInt = 0 ∨ w.toInt = 1)) R N m' w f 39 k [some (.ref 0), some (.int (nI m')), some (.int w), some (.int (N 6 (nI m').toNatClampNeg)), some (.int x), some (.int y), some (.int z)] [] (hpM R (va_up N 6 (upd F (nI m').toNatClampNeg (nI s)))) := fun x y z hx hy hz => ⟨64 - (s + 1), by show _ < _; omega, rfl, hP, s + 1, x, y, z, _, by omega, rfl, rfl, rfl, rfl, hx, hy, hz, fun x => by rw [fa_upd_twice]; exact hF x⟩
    have x0 : f s = false → nI (fb_ct f s) = nI (fb_ct f (s + 1)) := fun h => by rw [fb_ct_succ, h]; simp
    have x1 : f s = true → nI (fb_ct f s) + 1 = nI (fb_ct f (s + 1)) := fun h => by rw [fb_ct_succ, h, nI_1]; simp
    clear hK
    refine And.intro hv ?_
    refine Exists.intro R ⟨va_up N 6 (upd F (nI m').toNatClampNeg (nI s)), va_up S (60 + m') s, G, rfl, rfl, wfM_li hwf.1 l1 (by omega), wfR_up hwf.2.2.1 (by omega), hr2, hrr, ?_⟩
    rw [hfs]
    refine ip_bt (fun h3 => ?_) (fun h3 => ?_)
    · exact hn _ _ _ (x0 h3) (by rw [fq_f h3]) h9
    cases hq : fqB f s with
    | none =>
      refine And.intro (fun _ => ?_) (fun z => absurd rfl z)
      exact hn _ _ _ (x1 h3) (by rw [fq_n h3 hq]; rfl) h9
    | some b =>
      have hb := fqB_lt hq
      have l2 := pc6_le b
      have l3 := pc6_le s
      refine And.intro (fun z => absurd z (ne9_64 ⟨b, by omega⟩)) (fun _ => ?_)
      refine Exists.intro s ⟨by omega, rfl, ?_⟩
      refine Exists.intro b ⟨by omega, rfl, ?_⟩
      refine pk_le (pc6 b) (pc6 s) (fun h5 => ?_) (fun h5 => ?_)
      · exact hn _ _ _ (x1 h3) (by rw [fq_k hq h5, hq]) h9
      · exact hn _ _ _ (x1 h3) (by rw [fq_s h3 hq h5]; rfl) h9
set_option maxRecDepth 100000 in
set_option maxHeartbeats 4000000 in
theorem m_X8_knew (l : Launch) : ip_Met l yX8_knew cX8_knew 7 (some .int) (ip_rm 4) C_X8_knew := ip_met tb_X8_knew 400 (by decide +kernel) fl_X8_ok cn_X8_ok (ip_cs1 (ip_gsV (m_X8_isMan l) (ip_in [754, 756, 16, 39, 757] (by decide +kernel) (by decide +kernel)) rfl ⟨by decide +kernel, by decide +kernel, by decide +kernel⟩ ⟨rfl, rfl, Nat.le_of_ble_eq_true rfl, Nat.le_of_ble_eq_true rfl⟩) (ip_cs1 (ip_gsS (m_X8_within l) (ip_in [716, 717, 39, 718] (by decide +kernel) (by decide +kernel)) ⟨by decide +kernel, by decide +kernel, by decide +kernel⟩ ⟨rfl, rfl, Nat.le_of_ble_eq_true rfl, Nat.le_of_ble_eq_true rfl⟩) (ip_cs1 (ip_gsV (m_X8_areSo l) (ip_in [883, 885, 29, 39, 886] (by decide +kernel) (by decide +kernel)) rfl ⟨by decide +kernel, by decide +kernel, by decide +kernel⟩ ⟨rfl, rfl, Nat.le_of_ble_eq_true rfl, Nat.le_of_ble_eq_true rfl⟩) (ip_cs1 (ip_gsS (m_X8_size l) (ip_in [835, 836, 39, 837] (by decide +kernel) (by decide +kernel)) ⟨by decide +kernel, by decide +kernel, by decide +kernel⟩ ⟨rfl, rfl, Nat.le_of_ble_eq_true rfl, Nat.le_of_ble_eq_true rfl⟩) (ip_cs0))))) ck_X8_knew rfl p_X8_knew
def C_X8_inLeastTerms : ip_C := fun vs hp K => ∃ u d w : Nat, u ≤ d ∧ 0 < d ∧ d < 2 ^ 62 ∧ w < 2 ∧ vs = [.long (lN u), .long (lN d), .int (nI w)] ∧ K (some (.long (lN (lst2 u d w)))) hp
def cs_X8_inLeastTerms : List ip_G := []
def I_X8_inLeastTerms (u d w : Nat) (hp0 : ip_H) : Nat → Nat → ip_P := fun pc k L st hp => pc = 6 ∧ ∃ (h l : Nat) (l9 l10 : Option Value), k = l ∧ h < 2 ^ 62 ∧ l < 2 ^ 62 ∧ L = [some (.long (lN u)), none, some (.long (lN d)), none, some (.int (nI w)), some (.long (lN h)), none, some (.long (lN l)), none, l9, l10] ∧ st = [] ∧ hp = hp0 ∧ Nat.gcd h l = Nat.gcd u d
theorem p_X8_inLeastTerms : ip_Pf fl_X8 cn_X8 cs_X8_inLeastTerms (some .long) tb_X8_inLeastTerms 11 C_X8_inLeastTerms := by
  rintro _ hp0 K ⟨u, d, w, hud, hd, hb, hw, rfl, hK⟩
  refine ⟨Nat.le_of_ble_eq_true rfl, I_X8_inLeastTerms u d w hp0, ?_, ?_⟩
  · exact Exists.intro d ⟨trivial, rfl, u, d, none, none, rfl, by omega, hb, rfl, rfl, rfl, rfl⟩
  · rintro pc k L st hp ⟨rfl, h, l, l9, l10, rfl, hh, hl, rfl, rfl, rfl, hg⟩
    have hg0 : 0 < Nat.gcd u d := Nat.gcd_pos_of_pos_right u hd
    have hgl : Nat.gcd u d ≤ d := Nat.gcd_le_right u hd
    refine And.intro (fun h2 => ?_) (fun h2 => ?_)
    · have h2 := (lg_cmp_eq _ _).mp h2
      have hz : k = 0 := (pk_lEQ (a := k) (b := 0) (by omega) (by omega)).mp h2
      subst hz
      rw [Nat.gcd_zero_right] at hg
      subst hg
      have hne : ¬ lN (Nat.gcd u d) = Int64.ofNat 0 := fun z => by
        have := (pk_lEQ (a := Nat.gcd u d) (b := 0) (by omega) (by omega)).mp z
        omega
      refine pk_ne w 0 (fun h => ?_) (fun h => ?_)
      · refine And.intro hne ?_
        rw [pk_lDiv (by omega) hg0 (by omega)]
        rw [lst2, if_neg h] at hK
        exact hK
      · refine And.intro hne ?_
        rw [pk_lDiv (by omega) hg0 (by omega)]
        rw [lst2, if_pos h] at hK
        exact hK
    · have hz : k ≠ 0 := fun z => h2 ((lg_cmp_eq _ _).mpr (by rw [z]; rfl))
      refine And.intro (fun z => hz ((pk_lEQ (a := k) (b := 0) (by omega) (by omega)).mp z)) ?_
      have hr : lN h - lN h / lN k * lN k = lN (h % k) := pk_lRem (by omega) (by omega) (by omega)
      rw [hr]
      have hm : h % k < k := Nat.mod_lt _ (by omega)
      refine Exists.intro (h % k) ⟨hm, rfl, k, h % k, _, _, rfl, hl, by omega, rfl, rfl, rfl, ?_⟩
      rw [← hg, Nat.gcd_comm k, ← Nat.gcd_rec, Nat.gcd_comm]
set_option maxRecDepth 100000 in
set_option maxHeartbeats 4000000 in
theorem m_X8_inLeastTerms (l : Launch) : ip_Met l yX8_inLeastTerms cX8_inLeastTerms 11 (some .long) (ip_rm 0) C_X8_inLeastTerms := ip_met tb_X8_inLeastTerms 400 (by decide +kernel) fl_X8_ok cn_X8_ok (ip_cs0) ck_X8_inLeastTerms rfl p_X8_inLeastTerms
theorem ct_rev (f : Nat → Bool) : ∀ n, fb_ct (fun i => f (n - 1 - i)) n = fb_ct f n
  | 0 => rfl
  | n + 1 => by
    rw [show n + 1 = 1 + n by omega, fb_ct_split, show 1 + n = n + 1 by omega, fb_ct_succ f n, ← ct_rev f n]
    have e : fb_ct (fun k => f (n + 1 - 1 - (1 + k))) n = fb_ct (fun i => f (n - 1 - i)) n := fb_ct_cong (fun k hk => by rw [show n + 1 - 1 - (1 + k) = n - 1 - k by omega])
    rw [e, fb_ct_succ]
    simp [fb_ct]
    omega
theorem odd_rev {S : Nat → Nat} (p q : Nat) : fb_ct (fun sl => heldS S (prS S sl p) q) (2 ^ S 3) = oddC S p q := by
  unfold oddC
  rw [← ct_rev]
  refine fb_ct_cong (fun a ha => ?_)
  unfold heldS
  refine held_cong (fun m hm => ⟨rfl, rfl, ?_⟩)
  unfold prS
  congr 1
  rw [show 2 ^ S 3 - 1 - a = 2 ^ S 3 - (a + 1) by omega, Nat.testBit_two_pow_sub_succ ha]
  simp [hm]
theorem relM_sl {S : Nat → Nat} {R : Nat → Int32} {N : Nat → Nat → Int32} {sl : Nat} (i : Nat) (h : relM S R N sl) : relM S (va_up R 11 (nI i)) N i := by
  obtain ⟨m5, m6, m7, m11, mm⟩ := h
  exact ⟨m5, m6, m7, rfl, mm⟩
def C_X8_odds : ip_C := fun vs hp K => ∃ S R N, ∃ p q w : Int32, vs = [.ref 0, .int p, .int q, .int w] ∧ hp = hpM R N ∧ wfM S ∧ relM S R N 0 ∧ K (some (.long (r_odds S p q w))) hp
def cs_X8_odds : List ip_G := [(131, 2, 8, C_X8_isParish), (137, 1, 0, C_X8_isQuestion), (65, 3, 0, C_X8_within), (147, 3, 8, C_X8_isHeld), (184, 3, 0, C_X8_inLeastTerms)]
def I_X8_odds (P : Prop) (R : Nat → Int32) (N : Nat → Nat → Int32) (S : Nat → Nat) (p q w : Nat) : Nat → Nat → ip_P := fun pc k L st hp => pc = 34 ∧ P ∧ ∃ (t : Nat) (x y v : Int32), t ≤ 2 ^ S 3 ∧ k = 2 ^ S 3 - t ∧ L = [some (.ref 0), some (.int (nI p)), some (.int (nI q)), some (.int (nI w)), some (.int x), some (.int y)] ∧ st = [] ∧ hp = hpM (va_up R 11 v) N ∧ x = nI (fb_ct (fun sl => heldS S (prS S sl p) q) t) ∧ y = nI t
theorem p_X8_odds : ip_Pf fl_X8 cn_X8 cs_X8_odds (some .long) tb_X8_odds 6 C_X8_odds := by
  rintro _ _ K ⟨S, R, N, p, q, w, rfl, rfl, hwf, hrel, hK⟩
  obtain ⟨m5, m6, m7, m11, -⟩ := id hrel
  have w2 := hwf.2.1
  have w3 := hwf.2.2.1
  have hpow : 2 ^ S 3 ≤ 16 := Nat.pow_le_pow_right (n := 2) (by omega) w3
  have hpow0 : 0 < 2 ^ S 3 := Nat.pow_pos (by decide)
  refine ⟨Nat.le_of_ble_eq_true rfl, I_X8_odds (inI p (S 2) ∧ inI q 6 ∧ inI w 2) R N S (nt p) (nt q) (nt w), ?_, ?_⟩
  · have lost : ¬ inI p (S 2) ∨ ¬ inI q 6 ∨ ¬ inI w 2 → K (some (.long (-9223372036854775808))) (hpM R N) := fun h => by rw [r_odds, if_pos h] at hK; exact hK
    clear hK
    refine Exists.intro R ⟨N, p, S 2, rfl, rfl, m6, w2, fun b hb => ?_⟩
    refine ip_bt (fun h => ?_) (fun h => ?_)
    · exact lost (Or.inl (fun z => by rw [hb.mpr z] at h; cases h))
    have hin1 : inI p (S 2) := hb.mp h
    refine Exists.intro q ⟨rfl, fun b2 hb2 => ?_⟩
    refine ip_bt (fun h2 => ?_) (fun h2 => ?_)
    · exact lost (Or.inr (Or.inl (fun z => by rw [hb2.mpr z] at h2; cases h2)))
    have hin2 : inI q 6 := hb2.mp h2
    refine Exists.intro w ⟨0, 1, rfl, fun b3 hb3 => ?_⟩
    have hb3 : b3 = true ↔ inI w 2 := by
      have t0 : (0 : Int32).toInt = 0 := by decide
      have t1 : (1 : Int32).toInt = 1 := by decide
      rw [hb3, t0, t1]
      unfold inI
      omega
    refine ip_bn (fun h3 => ?_) (fun h3 => ?_)
    rotate_left
    · exact lost (Or.inr (Or.inr (fun z => by rw [hb3.mpr z] at h3; cases h3)))
    have hin3 : inI w 2 := hb3.mp h3
    have hpre : inI p (S 2) ∧ inI q 6 ∧ inI w 2 := ⟨hin1, hin2, hin3⟩
    clear hb hb2 hb3 lost
    obtain ⟨i, hi, rfl, ei⟩ := ti_of hin1.1
    obtain ⟨j, hj, rfl, ej⟩ := ti_of hin2.1
    obtain ⟨l, hl, rfl, el⟩ := ti_of hin3.1
    rw [nt_n hi, nt_n hj, nt_n hl]
    exact Exists.intro _ ⟨trivial, rfl, hpre, 0, _, _, R 11, by omega, rfl, rfl, rfl, congrArg (fun R => hpM R N) (up_same R 11).symm, rfl, rfl⟩
  · rintro pc k L st hp ⟨rfl, hpre, t, x, y, v, ht, rfl, rfl, rfl, rfl, rfl, rfl⟩
    obtain ⟨hin1, hin2, hin3⟩ := id hpre
    rw [r_odds, if_neg (fun z => z.elim (fun y => y hin1) (fun z => z.elim (fun y => y hin2) (fun y => y hin3)))] at hK
    have l1 := (inI_nt hin1).1
    have l2 := (inI_nt hin2).1
    have l3 := (inI_nt hin3).1
    have hP := hpre
    generalize nt p = p' at hK l1 ⊢
    generalize nt q = q' at hK l2 ⊢
    generalize nt w = w' at hK l3 ⊢
    have hs := sh1 ⟨S 3, by omega⟩
    simp only at hs
    have b6 : ∀ {X Y : Prop}, (2 ^ S 3 ≤ t → X) → (t < 2 ^ S 3 → Y) → ((1 : Int32) <<< (R 7 &&& 31) ≤ nI t → X) ∧ (¬ (1 : Int32) <<< (R 7 &&& 31) ≤ nI t → Y) := fun f g => by rw [m7, hs]; exact pk_le (2 ^ S 3) t f g
    refine b6 (fun h => ?_) (fun h => ?_)
    · obtain rfl : t = 2 ^ S 3 := by omega
      have hc : oddC S p' q' ≤ 2 ^ S 3 := fb_ct_le _ _
      have e : va_up (va_up R 11 v) 11 0 = R := by
        have := up_bk R 11 v
        rw [m11] at this
        exact this
      have e2 : (nI (fb_ct (fun sl => heldS S (prS S sl p') q') (2 ^ S 3))).toInt64 = lN (oddC S p' q') := by rw [odd_rev, nI_l (Nat.lt_of_le_of_lt hc (by omega))]
      have e3 : Int64.ofNat 1 <<< ((R 7).toInt64 &&& 63) = lN (2 ^ S 3) := by
        rw [m7]
        have := wb_shl 1 (show S 3 < 64 by omega)
        rw [Nat.one_mul] at this
        exact this
      refine Exists.intro (oddC S p' q') ⟨2 ^ S 3, w', hc, hpow0, by omega, l3, (by show [Value.long (nI (fb_ct (fun sl => heldS S (prS S sl p') q') (2 ^ S 3))).toInt64, Value.long (Int64.ofNat 1 <<< ((R 7).toInt64 &&& 63)), Value.int (nI w')] = _; rw [e2, e3]), ?_⟩
      have hK' : K (some (.long (lN (lst2 (oddC S p' q') (2 ^ S 3) w')))) (hpM (va_up (va_up R 11 v) 11 0) N) := by rw [e]; exact hK
      exact hK'
    · refine Exists.intro (va_up R 11 (nI t)) ⟨N, S, p', q', t, by omega, l2, by omega, rfl, rfl, hwf, relM_sl t hrel, ?_⟩
      refine ip_bt (fun h3 => ?_) (fun h3 => ?_)
      · have e0 : nI (fb_ct (fun sl => heldS S (prS S sl p') q') t) + 0 = nI (fb_ct (fun sl => heldS S (prS S sl p') q') (t + 1)) := by rw [show (0 : Int32) = nI 0 from rfl, nI_add, fb_ct_succ, h3]; simp
        exact Exists.intro (2 ^ S 3 - (t + 1)) ⟨by show _ < _; omega, rfl, hP, t + 1, _, _, nI t, by omega, rfl, rfl, rfl, rfl, e0, nI_1 t⟩
      · exact Exists.intro (2 ^ S 3 - (t + 1)) ⟨by show _ < _; omega, rfl, hP, t + 1, _, _, nI t, by omega, rfl, rfl, rfl, rfl, by rw [fb_ct_succ, h3, nI_1]; simp, nI_1 t⟩
set_option maxRecDepth 100000 in
set_option maxHeartbeats 4000000 in
theorem m_X8_odds (l : Launch) : ip_Met l yX8_odds cX8_odds 6 (some .long) (ip_rm 3) C_X8_odds := ip_met tb_X8_odds 400 (by decide +kernel) fl_X8_ok cn_X8_ok (ip_cs1 (ip_gsV (m_X8_isParish l) (ip_in [769, 771, 17, 39, 772] (by decide +kernel) (by decide +kernel)) rfl ⟨by decide +kernel, by decide +kernel, by decide +kernel⟩ ⟨rfl, rfl, Nat.le_of_ble_eq_true rfl, Nat.le_of_ble_eq_true rfl⟩) (ip_cs1 (ip_gsS (m_X8_isQuestion l) (ip_in [781, 782, 39, 783] (by decide +kernel) (by decide +kernel)) ⟨by decide +kernel, by decide +kernel, by decide +kernel⟩ ⟨rfl, rfl, Nat.le_of_ble_eq_true rfl, Nat.le_of_ble_eq_true rfl⟩) (ip_cs1 (ip_gsS (m_X8_within l) (ip_in [716, 717, 39, 718] (by decide +kernel) (by decide +kernel)) ⟨by decide +kernel, by decide +kernel, by decide +kernel⟩ ⟨rfl, rfl, Nat.le_of_ble_eq_true rfl, Nat.le_of_ble_eq_true rfl⟩) (ip_cs1 (ip_gsV (m_X8_isHeld l) (ip_in [796, 798, 20, 39, 799] (by decide +kernel) (by decide +kernel)) rfl ⟨by decide +kernel, by decide +kernel, by decide +kernel⟩ ⟨rfl, rfl, Nat.le_of_ble_eq_true rfl, Nat.le_of_ble_eq_true rfl⟩) (ip_cs1 (ip_gsS (m_X8_inLeastTerms l) (ip_in [860, 861, 39, 862] (by decide +kernel) (by decide +kernel)) ⟨by decide +kernel, by decide +kernel, by decide +kernel⟩ ⟨rfl, rfl, Nat.le_of_ble_eq_true rfl, Nat.le_of_ble_eq_true rfl⟩) (ip_cs0)))))) ck_X8_odds rfl p_X8_odds
def C_X8_allDangers : ip_C := fun vs hp K => ∃ S R N, ∃ sl : Nat, sl < 16 ∧ vs = [.ref 0] ∧ hp = hpM R N ∧ wfM S ∧ relM S R N sl ∧ K (some (.int (nI (dw S sl)))) hp
def cs_X8_allDangers : List ip_G := [(150, 2, 8, C_X8_dangersOf), (169, 1, 0, C_X8_size)]
def I_X8_allDangers (R : Nat → Int32) (N : Nat → Nat → Int32) (S : Nat → Nat) (sl : Nat) : Nat → Nat → ip_P := fun pc k L st hp => pc = 4 ∧ ∃ (p : Nat) (x y : Int32), p ≤ S 2 ∧ k = S 2 - p ∧ L = [some (.ref 0), some (.int x), some (.int y)] ∧ st = [] ∧ hp = hpM R N ∧ x = nI (fb_sm (fun p => pc6 (dgs S (fun m => S (50 + m) == p && !sl.testBit m))) p) ∧ y = nI p
theorem p_X8_allDangers : ip_Pf fl_X8 cn_X8 cs_X8_allDangers (some .int) tb_X8_allDangers 3 C_X8_allDangers := by
  rintro _ _ K ⟨S, R, N, sl, hsl, rfl, rfl, hwf, hrel, hK⟩
  obtain ⟨m5, m6, m7, m11, -⟩ := id hrel
  have w2 := hwf.2.1
  refine ⟨Nat.le_of_ble_eq_true rfl, I_X8_allDangers R N S sl, ?_, ?_⟩
  · exact Exists.intro _ ⟨trivial, rfl, 0, _, _, by omega, rfl, rfl, rfl, rfl, rfl, rfl⟩
  · rintro pc k L st hp ⟨rfl, p, x, y, hp0, rfl, rfl, rfl, rfl, rfl, rfl⟩
    have b6 : ∀ {X Y : Prop}, (S 2 ≤ p → X) → (p < S 2 → Y) → (R 6 ≤ nI p → X) ∧ (¬ R 6 ≤ nI p → Y) := fun f g => by rw [m6]; exact pk_le (S 2) p f g
    refine b6 (fun h => ?_) (fun h => ?_)
    · obtain rfl : p = S 2 := by omega
      exact hK
    · refine Exists.intro R ⟨N, S, p, sl, by omega, hsl, rfl, rfl, hwf, hrel, ?_⟩
      refine Exists.intro (dgpM S sl p) ⟨dgs_lt S _, rfl, ?_⟩
      exact Exists.intro (S 2 - (p + 1)) ⟨by show _ < _; omega, rfl, p + 1, _, _, by omega, rfl, rfl, rfl, rfl, by rw [nI_add]; rfl, nI_1 p⟩
set_option maxRecDepth 100000 in
set_option maxHeartbeats 4000000 in
theorem m_X8_allDangers (l : Launch) : ip_Met l yX8_allDangers cX8_allDangers 3 (some .int) (ip_rm 4) C_X8_allDangers := ip_met tb_X8_allDangers 400 (by decide +kernel) fl_X8_ok cn_X8_ok (ip_cs1 (ip_gsV (m_X8_dangersOf l) (ip_in [804, 806, 21, 39, 807] (by decide +kernel) (by decide +kernel)) rfl ⟨by decide +kernel, by decide +kernel, by decide +kernel⟩ ⟨rfl, rfl, Nat.le_of_ble_eq_true rfl, Nat.le_of_ble_eq_true rfl⟩) (ip_cs1 (ip_gsS (m_X8_size l) (ip_in [835, 836, 39, 837] (by decide +kernel) (by decide +kernel)) ⟨by decide +kernel, by decide +kernel, by decide +kernel⟩ ⟨rfl, rfl, Nat.le_of_ble_eq_true rfl, Nat.le_of_ble_eq_true rfl⟩) (ip_cs0))) ck_X8_allDangers rfl p_X8_allDangers
theorem w100 (a b : Int32) : a - b + 100 = 100 + a - b := by
  rw [Int32.add_comm (a - b) 100, Int32.sub_eq_add_neg, Int32.sub_eq_add_neg, Int32.add_assoc]
def C_X8_worth : ip_C := fun vs hp K => ∃ S R N, ∃ m : Int32, vs = [.ref 0, .int m] ∧ hp = hpM R N ∧ wfM S ∧ relM S R N 0 ∧ K (some (.int (r_worth S m))) hp
def cs_X8_worth : List ip_G := [(125, 2, 8, C_X8_isMan), (188, 1, 8, C_X8_allDangers)]
theorem p_X8_worth : ip_Pf fl_X8 cn_X8 cs_X8_worth (some .int) tb_X8_worth 4 C_X8_worth := ip_pf0 (by
  rintro _ _ K ⟨S, R, N, m, rfl, rfl, hwf, hrel, hK⟩
  refine ⟨Nat.le_of_ble_eq_true rfl, ?_⟩
  obtain ⟨m5, m6, m7, m11, -⟩ := id hrel
  have w3 := hwf.2.2.1
  refine Exists.intro R ⟨N, m, S 3, rfl, rfl, m7, w3, fun b hb => ?_⟩
  refine ip_bn (fun h => ?_) (fun h => ?_)
  · have hin : inI m (S 3) := hb.mp h
    rw [r_worth, if_neg (not_not_intro hin)] at hK
    obtain ⟨i, hi, rfl, ei⟩ := ti_of hin.1
    have l1 : i < 4 := by have := hin.2; omega
    rw [nt_n hi, ← w100] at hK
    have hs := sh1 ⟨i, by omega⟩
    simp only at hs
    have h16 : 2 ^ i < 16 := Nat.pow_lt_pow_right (a := 2) (by decide) l1
    refine Exists.intro S ⟨R, N, 0, by decide, rfl, rfl, hwf, hrel, ?_⟩
    have hr2 : relM S (va_up R 11 ((1 : Int32) <<< (nI i &&& 31))) N (2 ^ i) := by rw [hs]; exact relM_sl _ hrel
    refine Exists.intro S ⟨va_up R 11 ((1 : Int32) <<< (nI i &&& 31)), N, 2 ^ i, h16, rfl, rfl, hwf, hr2, ?_⟩
    have e : va_up (va_up R 11 ((1 : Int32) <<< (nI i &&& 31))) 11 0 = R := by
      have := up_bk R 11 ((1 : Int32) <<< (nI i &&& 31))
      rw [m11] at this
      exact this
    have hK' : K (some (.int (nI (dw S (2 ^ i)) - nI (dw S 0) + 100))) (hpM (va_up (va_up R 11 ((1 : Int32) <<< (nI i &&& 31))) 11 0) N) := by rw [e]; exact hK
    exact hK'
  · have hin : ¬ inI m (S 3) := fun z => by rw [hb.mpr z] at h; cases h
    rw [r_worth, if_pos hin] at hK
    exact hK)
set_option maxRecDepth 100000 in
set_option maxHeartbeats 4000000 in
theorem m_X8_worth (l : Launch) : ip_Met l yX8_worth cX8_worth 4 (some .int) (ip_rm 5) C_X8_worth := ip_met tb_X8_worth 400 (by decide +kernel) fl_X8_ok cn_X8_ok (ip_cs1 (ip_gsV (m_X8_isMan l) (ip_in [754, 756, 16, 39, 757] (by decide +kernel) (by decide +kernel)) rfl ⟨by decide +kernel, by decide +kernel, by decide +kernel⟩ ⟨rfl, rfl, Nat.le_of_ble_eq_true rfl, Nat.le_of_ble_eq_true rfl⟩) (ip_cs1 (ip_gsV (m_X8_allDangers l) (ip_in [867, 869, 28, 39, 870] (by decide +kernel) (by decide +kernel)) rfl ⟨by decide +kernel, by decide +kernel, by decide +kernel⟩ ⟨rfl, rfl, Nat.le_of_ble_eq_true rfl, Nat.le_of_ble_eq_true rfl⟩) (ip_cs0))) ck_X8_worth rfl p_X8_worth
end
section
/-! ===== the reference: storms that are told ===== -/
def lsR (S : Nat → Nat) (G : Nat → Nat → Int32) (k : Nat) (ln i n : Int32) : Int32 × Nat := if fo S k ln.toInt i.toInt (2 * n.toInt) ≠ 0 then (-10 - nI (fo S k ln.toInt i.toInt (2 * n.toInt)), fo S k ln.toInt i.toInt (2 * n.toInt)) else if S 2 = 0 then (-3, 0) else (pairR S G k (nt i) (nt n), 0)
def layT (S : Nat → Nat) (G : Nat → Nat → Int32) (R : Nat → Int32) (N : Nat → Nat → Int32) (k a n : Nat) : Prop := R 17 = nI n ∧ n ≤ 20 ∧ ∀ t, t < n → N 8 t = G k (a + 2 * t) ∧ N 9 t = G k (a + 2 * t + 1)
theorem lay_ok {S : Nat → Nat} {G : Nat → Nat → Int32} {R : Nat → Int32} {N : Nat → Nat → Int32} {k a n : Nat} (w2 : S 2 ≤ 6) (h : layT S G R N k a n) (hs : stormOk S G k a n) (S' : Nat → Nat) : wfT' S' R N n ∧ ∀ t, t < n → pN (N 8) t = spP G k a t ∧ stM S' N t = stP S' G k a t := by
  obtain ⟨h1, h2, h3⟩ := h
  obtain ⟨-, -, -, -, hp⟩ := hs
  have key : ∀ t, t < n → pN (N 8) t = nt (G k (a + 2 * t)) ∧ pN (N 9) t = nt (G k (a + 2 * t + 1)) := fun t ht => by
    unfold pN
    rw [(h3 t ht).1, (h3 t ht).2]
    exact ⟨rfl, rfl⟩
  refine ⟨⟨h1, h2, fun t ht => ?_⟩, fun t ht => ⟨(key t ht).1, ?_⟩⟩
  · obtain ⟨q1, q2⟩ := hp t ht
    obtain ⟨k1, k2⟩ := key t ht
    obtain ⟨l1, m1⟩ := inI_nt q1
    obtain ⟨l2, m2⟩ := inI_nt q2
    rw [k1, k2, (h3 t ht).1, (h3 t ht).2]
    exact ⟨m1, by omega, m2, l2⟩
  · unfold stM stP
    rw [(key t ht).1, (key t ht).2]
theorem uu0 (S : Nat → Nat) (x y : Nat) : va_up (va_up S 0 x) 0 y = va_up S 0 y := bx_uu S 0 x y
theorem relM_0 {S : Nat → Nat} {R : Nat → Int32} {N : Nat → Nat → Int32} {sl x : Nat} (h : relM (va_up S 0 x) R N sl) : relM S R N sl := relM_S h rfl rfl rfl (fun i hi => (up0 S x (by omega)).symm)
def C_X8_layStorm : ip_C := fun vs hp K => ∃ tc S G R N, ∃ (k : Nat) (ln i n : Int32), k < 4 ∧ 0 ≤ n.toInt ∧ n.toInt ≤ 20 ∧ vs = [.ref 0, .int (nI k), .int ln, .int i, .int n] ∧ hp = hpM R N ∧ wfC S G ∧ relA tc (va_up S 0 0) G R N ∧
  ((lsR S G k ln i n).1 ≠ 0 → ∀ R' N', relA tc (va_up S 0 (lsR S G k ln i n).2) G R' N' → K (some (.int (lsR S G k ln i n).1)) (hpM R' N')) ∧
  (lsR S G k ln i n = (0, 0) → stormOk S G k (nt i) (nt n) → ∀ R' N', relA tc (va_up S 0 0) G R' N' → layT S G R' N' k (nt i) (nt n) → K (some (.int 0)) (hpM R' N'))
def tc_X8_layStorm : List ip_I := (0, .aload_n 0, 1, false, 0, 0) :: (1, .iload_n 1, 1, false, 0, 0) :: (2, .iload_n 2, 1, false, 0, 0) :: (3, .iload_n 3, 1, false, 0, 0) :: (4, .iconst 2, 1, false, 2, 0) :: (5, .iload 4, 2, false, 0, 0) :: (7, .imul, 1, false, 0, 0) :: (8, .invokevirtual 89, 3, false, 0, 0) :: (11, .istore 5, 2, false, 0, 0) :: (13, .iload 5, 2, false, 0, 0) :: (15, .ifCond .eq 10, 3, false, 0, 25) :: (18, .aload_n 0, 1, false, 0, 0) :: (19, .iload 5, 2, false, 0, 0) :: (21, .invokevirtual 93, 3, false, 0, 0) :: (24, .ireturn, 1, false, 0, 0) :: (25, .aload_n 0, 1, false, 0, 0) :: (26, .getfield 69, 3, false, 0, 0) :: (29, .ifCond .ne 6, 3, false, 0, 35) :: (32, .bipush (-3), 2, false, (-3), 0) :: (34, .ireturn, 1, false, 0, 0) :: (35, .bipush 60, 2, false, 60, 0) :: (37, .iload_n 1, 1, false, 0, 0) :: (38, .imul, 1, false, 0, 0) :: (39, .iload_n 3, 1, false, 0, 0) :: (40, .iadd, 1, false, 0, 0) :: (41, .istore 6, 2, false, 0, 0) :: (43, .iconst 0, 1, false, 0, 0) :: (44, .istore 7, 2, false, 0, 0) :: (46, .iload 7, 2, true, 0, 0) :: (48, .iload 4, 2, false, 0, 0) :: (50, .if_icmp .ge 93, 3, false, 0, 143) :: (53, .aload_n 0, 1, false, 0, 0) :: (54, .aload_n 0, 1, false, 0, 0) :: (55, .getfield 16, 3, false, 0, 0) :: (58, .iload 6, 2, false, 0, 0) :: (60, .iconst 2, 1, false, 2, 0) :: (61, .iload 7, 2, false, 0, 0) :: (63, .imul, 1, false, 0, 0) :: (64, .iadd, 1, false, 0, 0) :: (65, .iaload, 1, false, 0, 0) :: (66, .invokevirtual 131, 3, false, 0, 0) :: (69, .ifCond .ne 5, 3, false, 0, 74) :: (72, .iconst (-1), 1, false, (-1), 0) :: (73, .ireturn, 1, false, 0, 0) :: (74, .aload_n 0, 1, false, 0, 0) :: (75, .getfield 16, 3, false, 0, 0) :: (78, .iload 6, 2, false, 0, 0) :: (80, .iconst 2, 1, false, 2, 0) :: (81, .iload 7, 2, false, 0, 0) :: (83, .imul, 1, false, 0, 0) :: (84, .iadd, 1, false, 0, 0) :: (85, .iconst 1, 1, false, 1, 0) :: (86, .iadd, 1, false, 0, 0) :: (87, .iaload, 1, false, 0, 0) :: (88, .invokestatic 137, 3, false, 0, 0) :: (91, .ifCond .ne 6, 3, false, 0, 97) :: (94, .bipush (-2), 2, false, (-2), 0) :: (96, .ireturn, 1, false, 0, 0) :: (97, .aload_n 0, 1, true, 0, 0) :: (98, .getfield 31, 3, false, 0, 0) :: (101, .iload 7, 2, false, 0, 0) :: (103, .aload_n 0, 1, false, 0, 0) :: (104, .getfield 16, 3, false, 0, 0) :: (107, .iload 6, 2, false, 0, 0) :: (109, .iconst 2, 1, false, 2, 0) :: (110, .iload 7, 2, false, 0, 0) :: (112, .imul, 1, false, 0, 0) :: (113, .iadd, 1, false, 0, 0) :: (114, .iaload, 1, false, 0, 0) :: (115, .iastore, 1, false, 0, 0) :: (116, .aload_n 0, 1, false, 0, 0) :: (117, .getfield 34, 3, false, 0, 0) :: (120, .iload 7, 2, false, 0, 0) :: (122, .aload_n 0, 1, false, 0, 0) :: (123, .getfield 16, 3, false, 0, 0) :: (126, .iload 6, 2, false, 0, 0) :: (128, .iconst 2, 1, false, 2, 0) :: (129, .iload 7, 2, false, 0, 0) :: (131, .imul, 1, false, 0, 0) :: (132, .iadd, 1, false, 0, 0) :: (133, .iconst 1, 1, false, 1, 0) :: (134, .iadd, 1, false, 0, 0) :: (135, .iaload, 1, false, 0, 0) :: (136, .iastore, 1, false, 0, 0) :: (137, .iinc 7 1, 3, false, 1, 0) :: (140, .goto (-94), 3, false, 0, 46) :: (143, .aload_n 0, 1, false, 0, 0) :: (144, .iload 4, 2, false, 0, 0) :: (146, .putfield 153, 3, false, 0, 0) :: (149, .iconst 0, 1, false, 0, 0) :: (150, .ireturn, 1, false, 0, 0) :: []
set_option maxRecDepth 100000 in
theorem cj_X8_layStorm : ip_chk cX8_layStorm tc_X8_layStorm = true := by decide +kernel
def cs_X8_layStorm : List ip_G := [(89, 5, 8, C_X8_against), (93, 2, 8, C_X8_fails), (131, 2, 8, C_X8_isParish), (137, 1, 0, C_X8_isQuestion)]
def I_X8_layStorm (P : Prop) (R : Nat → Int32) (N : Nat → Nat → Int32) (S : Nat → Nat) (G : Nat → Nat → Int32) (k a n : Nat) (ln : Int32) : Nat → Nat → ip_P := fun pc kk L st hp => P ∧ ∃ (t : Nat) (x y l5 : Int32) (f g : Nat → Int32), t ≤ n ∧ L = [some (.ref 0), some (.int (nI k)), some (.int ln), some (.int (nI a)), some (.int (nI n)), some (.int l5), some (.int x), some (.int y)] ∧ st = [] ∧ hp = hpM R (va_up (va_up N 8 f) 9 g) ∧ x = nI (60 * k + a) ∧ y = nI t ∧ (∀ i, i < t → f i = G k (a + 2 * i) ∧ g i = G k (a + 2 * i + 1)) ∧ (∀ i, i < t → okp S G k a i = true ∧ okq G k a i = true) ∧ ((pc = 46 ∧ kk = 2 * (n - t) + 1) ∨ (pc = 97 ∧ kk = 2 * (n - t) ∧ t < n ∧ okp S G k a t = true ∧ okq G k a t = true))
theorem p_X8_layStorm : ip_Pf fl_X8 cn_X8 cs_X8_layStorm (some .int) tc_X8_layStorm 8 C_X8_layStorm := by
  rintro _ _ K ⟨tc, S, G, R, N, k, ln, i, n, hk, hn0, hn20, rfl, rfl, hwf, hrel, hK1, hK0⟩
  obtain ⟨m5, m6, m7, -⟩ := id hrel.2.2.1
  have w2 := hwf.1.2.1
  have w3 := hwf.1.2.2.1
  have w5 := hwf.2.2.2.2.1
  have e2 := t2n hn0 hn20
  refine ⟨Nat.le_of_ble_eq_true rfl, I_X8_layStorm (fo S k ln.toInt i.toInt (2 * n.toInt) = 0 ∧ S 2 ≠ 0) R N S G k (nt i) (nt n) ln, ?_, ?_⟩
  · have ef : fo (va_up S 0 0) k ln.toInt i.toInt (2 * n).toInt = fo S k ln.toInt i.toInt (2 * n.toInt) := by rw [fo_0, e2]
    have hf4 := fo_le S k ln.toInt i.toInt (2 * n.toInt)
    refine Exists.intro (va_up S 0 0) ⟨G, R, N, k, ln, i, 2 * n, hk, rfl, rfl, wfH_0 hwf.2.1 0, hrel.2.2.2.2, ?_⟩
    rw [ef]
    refine pk_eq (fo S k ln.toInt i.toInt (2 * n.toInt)) 0 (fun h => ?_) (fun h => ?_)
    · have b7 : ∀ {X Y : Prop}, (S 3 ≠ 0 → X) → (S 3 = 0 → Y) → (¬ R 7 = 0 → X) ∧ (R 7 = 0 → Y) := fun f g => by rw [m7]; exact pk_ne (S 3) 0 f g
      refine b7 (fun h2 => ?_) (fun h2 => ?_)
      · obtain ⟨z1, z2, z3, z4, z5⟩ := fo_zero h
        have hP : fo S k ln.toInt i.toInt (2 * n.toInt) = 0 ∧ S 2 ≠ 0 := ⟨h, fun q => h2 (w5.mp q)⟩
        obtain ⟨a, ha, rfl, ea⟩ := ti_of z4
        obtain ⟨m, hm, rfl, em⟩ := ti_of hn0
        rw [nt_n ha, nt_n hm]
        exact Exists.intro (2 * (m - 0) + 1) ⟨trivial, hP, 0, _, _, _, N 8, N 9, by omega, rfl, rfl, congrArg (hpM R) (by rw [up_same N 8]; exact (up_same N 9).symm), cel_i k a, rfl, fun i hi => absurd hi (by omega), fun i hi => absurd hi (by omega), Or.inl ⟨rfl, rfl⟩⟩
      · have e : lsR S G k ln i n = (-3, 0) := by rw [lsR, if_neg (not_not_intro h), if_pos (w5.mpr h2)]
        rw [e] at hK1
        exact hK1 (by decide) R N hrel
    · have e : lsR S G k ln i n = (-10 - nI (fo S k ln.toInt i.toInt (2 * n.toInt)), fo S k ln.toInt i.toInt (2 * n.toInt)) := by rw [lsR, if_pos h]
      rw [e] at hK1
      have hr2 := relA_f (fo S k ln.toInt i.toInt (2 * n.toInt)) hrel
      rw [uu0] at hr2
      refine Exists.intro R ⟨N, _, rfl, rfl, ?_⟩
      exact hK1 (neg10 ⟨_, Nat.lt_succ_of_le hf4⟩ h) _ N hr2
  · rintro pc kk L st hp ⟨⟨hfz, hS2⟩, t, x, y, l5, f, g, ht, rfl, rfl, rfl, hx, hy, hfg, hok, hpc⟩
    obtain ⟨z1, z2, z3, z4, z5⟩ := fo_zero hfz
    have hP : fo S k ln.toInt i.toInt (2 * n.toInt) = 0 ∧ S 2 ≠ 0 := ⟨hfz, hS2⟩
    have hls : lsR S G k ln i n = (pairR S G k (nt i) (nt n), 0) := by rw [lsR, if_neg (not_not_intro hfz), if_neg hS2]
    have han : nt i + 2 * nt n ≤ S (30 + k) := by unfold nt; omega
    have hn : nt n ≤ 20 := by unfold nt; omega
    have hnn : n = nI (nt n) := by
      obtain ⟨j, hj, rfl, ej⟩ := ti_of hn0
      rw [nt_n hj]
    rw [hls] at hK1 hK0
    generalize nt i = a at hK1 hK0 han hfg hok hpc hx ⊢
    generalize nt n = n' at hK1 hK0 han hn ht hnn hpc ⊢
    have hz := (hwf.2.1 k hk).2.2
    obtain ⟨hv, ⟨q0, -⟩ | ⟨-, -, -, -, e3, -, -⟩⟩ := sh_at hrel.2.2.2.2 (wfH_0 hwf.2.1 0) hk
    · exact absurd q0 (by rw [up0 S 0 (by omega)]; exact z1)
    rcases hpc with ⟨rfl, rfl⟩ | ⟨rfl, rfl, h, o1, o2⟩
    rotate_left
    · have e1 : x + 2 * y = nI (60 * k + (a + 2 * t)) := by rw [hx, hy, show (2 : Int32) = nI 2 from rfl, pk_mul, nI_add, Nat.add_assoc]
      have e2 : x + 2 * y + 1 = nI (60 * k + (a + 2 * t + 1)) := by rw [e1, nI_1]; rfl
      have v1 : vp_in (x + 2 * y) 240 := by rw [e1]; exact pk_in (60 * k + (a + 2 * t)) 240 (by omega)
      have v2 : vp_in (x + 2 * y + 1) 240 := by rw [e2]; exact pk_in (60 * k + (a + 2 * t + 1)) 240 (by omega)
      have p1 : N 3 (x + 2 * y).toNatClampNeg = G k (a + 2 * t) := by rw [e1, nI_clamp (by omega), e3 _ (by omega)]
      have p2 : N 3 (x + 2 * y + 1).toNatClampNeg = G k (a + 2 * t + 1) := by rw [e2, nI_clamp (by omega), e3 _ (by omega)]
      have hv20 : vp_in y 20 := by rw [hy]; exact pk_in t 20 (by omega)
      have hct : y.toNatClampNeg = t := by rw [hy]; exact nI_clamp (n := t) (by omega)
      refine And.intro v1 ?_
      refine And.intro hv20 ?_
      refine And.intro v2 ?_
      refine And.intro hv20 ?_
      refine Exists.intro (2 * (n' - (t + 1)) + 1) ⟨by show _ < _; omega, hP, t + 1, _, _, l5, upd f y.toNatClampNeg (N 3 (x + 2 * y).toNatClampNeg), upd g y.toNatClampNeg (N 3 (x + 2 * y + 1).toNatClampNeg), by omega, rfl, rfl, rfl, hx, by rw [hy]; exact nI_1 t, fun i hi => ?_, fun i hi => ?_, Or.inl ⟨rfl, rfl⟩⟩
      · rw [hct, p1, p2]
        rcases Nat.lt_or_ge i t with q | q
        · rw [pk_un (by omega), pk_un (by omega)]; exact hfg i q
        · obtain rfl : i = t := by omega
          rw [pk_us, pk_us]; exact ⟨rfl, rfl⟩
      · rcases Nat.lt_or_ge i t with q | q
        · exact hok i q
        · obtain rfl : i = t := by omega
          exact ⟨o1, o2⟩
    have b4 : ∀ {X Y : Prop}, (n' ≤ t → X) → (t < n' → Y) → (nI n' ≤ y → X) ∧ (¬ nI n' ≤ y → Y) := fun f g => by rw [hy]; exact pk_le n' t f g
    refine b4 (fun h => ?_) (fun h => ?_)
    · obtain rfl : t = n' := by omega
      have hpr : pairR S G k a t = 0 := by
        unfold pairR
        rw [lst_none (fun i hi => by rw [(hok i hi).1, (hok i hi).2]; rfl)]
      exact hK0 (by rw [hpr]) ⟨hk, hn, han, hS2, fun i hi => ⟨of_decide_eq_true (hok i hi).1, of_decide_eq_true (hok i hi).2⟩⟩ (va_up R 17 (nI t)) (va_up (va_up N 8 f) 9 g) hrel ⟨rfl, hn, hfg⟩
    have e1 : x + 2 * y = nI (60 * k + (a + 2 * t)) := by rw [hx, hy, show (2 : Int32) = nI 2 from rfl, pk_mul, nI_add, Nat.add_assoc]
    have e2 : x + 2 * y + 1 = nI (60 * k + (a + 2 * t + 1)) := by rw [e1, nI_1]; rfl
    have v1 : vp_in (x + 2 * y) 240 := by rw [e1]; exact pk_in (60 * k + (a + 2 * t)) 240 (by omega)
    have v2 : vp_in (x + 2 * y + 1) 240 := by rw [e2]; exact pk_in (60 * k + (a + 2 * t + 1)) 240 (by omega)
    have p1 : N 3 (x + 2 * y).toNatClampNeg = G k (a + 2 * t) := by rw [e1, nI_clamp (by omega), e3 _ (by omega)]
    have p2 : N 3 (x + 2 * y + 1).toNatClampNeg = G k (a + 2 * t + 1) := by rw [e2, nI_clamp (by omega), e3 _ (by omega)]
    have hv20 : vp_in y 20 := by rw [hy]; exact pk_in t 20 (by omega)
    have hct : y.toNatClampNeg = t := by rw [hy]; exact nI_clamp (n := t) (by omega)
    have bad : ∀ c : Int32, (okp S G k a t && okq G k a t) = false → (if okp S G k a t then (-2 : Int32) else -1) = c → ¬ c = 0 → K (some (.int c)) (hpM R (va_up (va_up N 8 f) 9 g)) := fun c h1 h2 h3 => by
      have e : pairR S G k a n' = c := by
        unfold pairR
        rw [lst_some (s := t) (by rw [h1]; rfl) (fun i hi => by rw [(hok i hi).1, (hok i hi).2]; rfl) h]
        exact h2
      have := hK1 (by rw [e]; exact h3) R (va_up (va_up N 8 f) 9 g) hrel
      rw [e] at this
      exact this
    clear hK1 hK0
    refine And.intro v1 ?_
    refine Exists.intro R ⟨va_up (va_up N 8 f) 9 g, _, S 2, rfl, rfl, m6, w2, fun b hb => ?_⟩
    have hb : b = true ↔ inI (G k (a + 2 * t)) (S 2) := by rw [← p1]; exact hb
    refine ip_bn (fun h1 => ?_) (fun h1 => ?_)
    · have o1 : okp S G k a t = true := decide_eq_true (hb.mp h1)
      change ip_wp _ _ _ _ _ _ _ _ _ _ _ _ [] _
      refine And.intro v2 ?_
      refine Exists.intro _ ⟨rfl, fun b2 hb2 => ?_⟩
      have hb2 : b2 = true ↔ inI (G k (a + 2 * t + 1)) 6 := by rw [← p2]; exact hb2
      refine ip_bn (fun h2 => ?_) (fun h2 => ?_)
      · have o2 : okq G k a t = true := decide_eq_true (hb2.mp h2)
        exact Exists.intro (2 * (n' - t)) ⟨by show _ < _; omega, hP, t, _, _, l5, f, g, by omega, rfl, rfl, rfl, hx, hy, hfg, hok, Or.inr ⟨rfl, rfl, h, o1, o2⟩⟩
      · have o2 : okq G k a t = false := decide_eq_false (fun z => by rw [hb2.mpr z] at h2; cases h2)
        exact bad (-2) (by rw [o1, o2]; rfl) (by rw [o1]; rfl) (by decide)
    · have o1 : okp S G k a t = false := decide_eq_false (fun z => by rw [hb.mpr z] at h1; cases h1)
      exact bad (-1) (by rw [o1]; rfl) (by rw [o1]; rfl) (by decide)
set_option maxRecDepth 100000 in
set_option maxHeartbeats 4000000 in
theorem m_X8_layStorm (l : Launch) : ip_Met l yX8_layStorm cX8_layStorm 8 (some .int) (ip_rm 2) C_X8_layStorm := ip_met tc_X8_layStorm 400 (by decide +kernel) fl_X8_ok cn_X8_ok (ip_cs1 (ip_gsV (m_X8_against l) (ip_in [722, 724, 9, 39, 725] (by decide +kernel) (by decide +kernel)) rfl ⟨by decide +kernel, by decide +kernel, by decide +kernel⟩ ⟨rfl, rfl, Nat.le_of_ble_eq_true rfl, Nat.le_of_ble_eq_true rfl⟩) (ip_cs1 (ip_gsV (m_X8_fails l) (ip_in [726, 728, 10, 39, 729] (by decide +kernel) (by decide +kernel)) rfl ⟨by decide +kernel, by decide +kernel, by decide +kernel⟩ ⟨rfl, rfl, Nat.le_of_ble_eq_true rfl, Nat.le_of_ble_eq_true rfl⟩) (ip_cs1 (ip_gsV (m_X8_isParish l) (ip_in [769, 771, 17, 39, 772] (by decide +kernel) (by decide +kernel)) rfl ⟨by decide +kernel, by decide +kernel, by decide +kernel⟩ ⟨rfl, rfl, Nat.le_of_ble_eq_true rfl, Nat.le_of_ble_eq_true rfl⟩) (ip_cs1 (ip_gsS (m_X8_isQuestion l) (ip_in [781, 782, 39, 783] (by decide +kernel) (by decide +kernel)) ⟨by decide +kernel, by decide +kernel, by decide +kernel⟩ ⟨rfl, rfl, Nat.le_of_ble_eq_true rfl, Nat.le_of_ble_eq_true rfl⟩) (ip_cs0))))) cj_X8_layStorm rfl p_X8_layStorm
/-- hsR out of lsR -/
theorem hs_1 {S : Nat → Nat} {G : Nat → Nat → Int32} {sh ln i n : Int32} {w : Bool} (h : ¬ inI sh 4) : hsR S G sh ln i n w = (-1, 0) := by rw [hsR, if_pos h]
theorem hs_2 {S : Nat → Nat} {G : Nat → Nat → Int32} {sh ln i n : Int32} {w : Bool} (h : inI sh 4) (h2 : ¬ inI ln 3 ∨ n.toInt < 0 ∨ 20 < n.toInt ∨ w = false) : hsR S G sh ln i n w = (-2, 0) := by rw [hsR, if_neg (not_not_intro h), if_pos h2]
theorem hs_ls {S : Nat → Nat} {G : Nat → Nat → Int32} {sh ln i n : Int32} (h : inI sh 4) (h2 : inI ln 3) (h3 : 0 ≤ n.toInt) (h4 : n.toInt ≤ 20) : hsR S G sh ln i n true = lsR S G (nt sh) ln i n := by
  rw [hsR, if_neg (not_not_intro h), if_neg (by rintro (z | z | z | z); exact z h2; omega; omega; cases z)]
  rfl
end
section
/-! ===== the reference: storm ===== -/
def fsT (f : Nat → Bool) (t n : Nat) (x : Int32) : Prop := ((∀ i, t ≤ i → i < n → f i = false) ∧ x = -9) ∨ ∃ i, t ≤ i ∧ i < n ∧ f i = true ∧ (∀ j, t ≤ j → j < i → f j = false) ∧ x = nI i
theorem fsT_0 {f : Nat → Bool} {n : Nat} {x : Int32} (h : fsT f 0 n x) : x = ob (lst f n) := by
  rcases h with ⟨h1, rfl⟩ | ⟨i, -, h2, h3, h4, rfl⟩
  · rw [lst_none (fun i hi => h1 i (Nat.zero_le _) hi)]; rfl
  · rw [lst_some h3 (fun j hj => h4 j (Nat.zero_le _) hj) h2]; rfl
theorem fsT_n (f : Nat → Bool) (n : Nat) : fsT f n n (-9) := Or.inl ⟨fun i h1 h2 => absurd h2 (by omega), rfl⟩
theorem fsT_no {f : Nat → Bool} {t n : Nat} {x : Int32} (h : fsT f (t + 1) n x) (hf : f t = false) : fsT f t n x := by
  rcases h with ⟨h1, rfl⟩ | ⟨i, h0, h2, h3, h4, rfl⟩
  · exact Or.inl ⟨fun i a b => by
      by_cases e : i = t
      · rw [e]; exact hf
      · exact h1 i (by omega) b, rfl⟩
  · exact Or.inr ⟨i, by omega, h2, h3, fun j a b => by
      by_cases e : j = t
      · rw [e]; exact hf
      · exact h4 j (by omega) b, rfl⟩
theorem fsT_yes {f : Nat → Bool} {t n : Nat} (ht : t < n) (hf : f t = true) : fsT f t n (nI t) := Or.inr ⟨t, by omega, ht, hf, fun j a b => absurd b (by omega), rfl⟩
def ssT (f : Nat → Bool) (sp : Nat → Nat) (t n : Nat) (x : Int32) : Prop := ∃ B : Nat → Bool, x = nI (bs 6 B) ∧ ∀ p, p < 6 → (B p = true ↔ ∃ i, t ≤ i ∧ i < n ∧ f i = true ∧ sp i = p)
theorem ssT_0 {f : Nat → Bool} {sp : Nat → Nat} {n : Nat} {x : Int32} (h : ssT f sp 0 n x) : x = nI (bs 6 (fun p => anyb n (fun t => f t && sp t == p))) := by
  obtain ⟨B, rfl, hB⟩ := h
  congr 1
  refine bs_cong (fun p hp => ?_)
  rw [Bool.eq_iff_iff, hB p hp, anyb_iff]
  constructor
  · rintro ⟨i, -, h2, h3, h4⟩; exact ⟨i, h2, by simp [h3, h4]⟩
  · rintro ⟨i, h2, h3⟩
    simp at h3
    exact ⟨i, Nat.zero_le _, h2, h3.1, h3.2⟩
theorem ssT_n (f : Nat → Bool) (sp : Nat → Nat) (n : Nat) : ssT f sp n n 0 := ⟨fun _ => false, by decide +kernel, fun p _ => ⟨fun z => by cases z, fun ⟨i, a, b, _⟩ => absurd b (by omega)⟩⟩
theorem ssT_no {f : Nat → Bool} {sp : Nat → Nat} {t n : Nat} {x : Int32} (h : ssT f sp (t + 1) n x) (hf : f t = false) : ssT f sp t n (x ||| 0) := by
  obtain ⟨B, rfl, hB⟩ := h
  refine ⟨B, by rw [show (0 : Int32) = nI 0 from rfl, fa_or, Nat.or_zero], fun p hp => ?_⟩
  rw [hB p hp]
  constructor
  · rintro ⟨i, a, b⟩; exact ⟨i, by omega, b⟩
  · rintro ⟨i, a, b, c, d⟩
    refine ⟨i, ?_, b, c, d⟩
    by_cases e : i = t
    · rw [e, hf] at c; cases c
    · omega
theorem ssT_yes {f : Nat → Bool} {sp : Nat → Nat} {t n : Nat} {x : Int32} (h : ssT f sp (t + 1) n x) (ht : t < n) (hf : f t = true) (hs : sp t < 6) : ssT f sp t n (x ||| ((1 : Int32) <<< (nI (sp t) &&& 31))) := by
  obtain ⟨B, rfl, hB⟩ := h
  have e := sh1 ⟨sp t, by omega⟩
  simp only at e
  refine ⟨fun p => B p || p == sp t, by rw [e, fa_or, bs_or_one hs], fun p hp => ?_⟩
  rw [Bool.or_eq_true, hB p hp]
  constructor
  · rintro (⟨i, a, b⟩ | h)
    · exact ⟨i, by omega, b⟩
    · exact ⟨t, by omega, ht, hf, (by simpa using h : p = sp t).symm⟩
  · rintro ⟨i, a, b, c, d⟩
    by_cases e : i = t
    · subst e; right; simp [d]
    · left; exact ⟨i, by omega, b, c, d⟩
def C_X8_storm : ip_C := fun vs hp K => ∃ tc S G R N, ∃ (sh ln i n w : Int32), vs = [.ref 0, .int sh, .int ln, .int i, .int n, .int w] ∧ hp = hpM R N ∧ wfC S G ∧ relA tc S G R N ∧ ∀ R' N', relA tc (va_up S 0 (q_storm S G sh ln i n w).2) G R' N' → K (some (.int (q_storm S G sh ln i n w).1)) (hpM R' N')
def tc_X8_storm : List ip_I := (0, .aload_n 0, 1, false, 0, 0) :: (1, .iconst 0, 1, false, 0, 0) :: (2, .putfield 59, 3, false, 0, 0) :: (5, .iload_n 1, 1, false, 0, 0) :: (6, .invokestatic 82, 3, false, 0, 0) :: (9, .ifCond .ne 5, 3, false, 0, 14) :: (12, .iconst (-1), 1, false, (-1), 0) :: (13, .ireturn, 1, false, 0, 0) :: (14, .iload_n 2, 1, false, 0, 0) :: (15, .iload 4, 2, false, 0, 0) :: (17, .invokestatic 156, 3, false, 0, 0) :: (20, .ifCond .eq 13, 3, false, 0, 33) :: (23, .iload 5, 2, false, 0, 0) :: (25, .iconst 0, 1, false, 0, 0) :: (26, .iconst 2, 1, false, 2, 0) :: (27, .invokestatic 65, 3, false, 0, 0) :: (30, .ifCond .ne 6, 3, false, 0, 36) :: (33, .bipush (-2), 2, false, (-2), 0) :: (35, .ireturn, 1, false, 0, 0) :: (36, .aload_n 0, 1, false, 0, 0) :: (37, .iload_n 1, 1, false, 0, 0) :: (38, .iload_n 2, 1, false, 0, 0) :: (39, .iload_n 3, 1, false, 0, 0) :: (40, .iload 4, 2, false, 0, 0) :: (42, .invokevirtual 159, 3, false, 0, 0) :: (45, .istore 6, 2, false, 0, 0) :: (47, .iload 6, 2, false, 0, 0) :: (49, .ifCond .eq 6, 3, false, 0, 55) :: (52, .iload 6, 2, false, 0, 0) :: (54, .ireturn, 1, false, 0, 0) :: (55, .bipush (-9), 2, false, (-9), 0) :: (57, .istore 7, 2, false, 0, 0) :: (59, .iconst 0, 1, false, 0, 0) :: (60, .istore 8, 2, false, 0, 0) :: (62, .aload_n 0, 1, false, 0, 0) :: (63, .getfield 153, 3, false, 0, 0) :: (66, .iconst 1, 1, false, 1, 0) :: (67, .isub, 1, false, 0, 0) :: (68, .istore 9, 2, false, 0, 0) :: (70, .iload 9, 2, true, 0, 0) :: (72, .ifCond .lt 66, 3, false, 0, 138) :: (75, .aload_n 0, 1, false, 0, 0) :: (76, .aload_n 0, 1, false, 0, 0) :: (77, .getfield 31, 3, false, 0, 0) :: (80, .iload 9, 2, false, 0, 0) :: (82, .iaload, 1, false, 0, 0) :: (83, .aload_n 0, 1, false, 0, 0) :: (84, .getfield 34, 3, false, 0, 0) :: (87, .iload 9, 2, false, 0, 0) :: (89, .iaload, 1, false, 0, 0) :: (90, .invokevirtual 147, 3, false, 0, 0) :: (93, .istore 10, 2, false, 0, 0) :: (95, .iload 10, 2, false, 0, 0) :: (97, .ifCond .eq 8, 3, false, 0, 105) :: (100, .iload 7, 2, false, 0, 0) :: (102, .goto 5, 3, false, 0, 107) :: (105, .iload 9, 2, false, 0, 0) :: (107, .istore 7, 2, false, 0, 0) :: (109, .iload 8, 2, false, 0, 0) :: (111, .iload 10, 2, false, 0, 0) :: (113, .ifCond .eq 7, 3, false, 0, 120) :: (116, .iconst 0, 1, false, 0, 0) :: (117, .goto 12, 3, false, 0, 129) :: (120, .iconst 1, 1, false, 1, 0) :: (121, .aload_n 0, 1, false, 0, 0) :: (122, .getfield 31, 3, false, 0, 0) :: (125, .iload 9, 2, false, 0, 0) :: (127, .iaload, 1, false, 0, 0) :: (128, .ishl, 1, false, 0, 0) :: (129, .ior, 1, false, 0, 0) :: (130, .istore 8, 2, false, 0, 0) :: (132, .iinc 9 (-1), 3, false, (-1), 0) :: (135, .goto (-65), 3, false, 0, 70) :: (138, .iload 5, 2, false, 0, 0) :: (140, .ifCond .ne 10, 3, false, 0, 150) :: (143, .aload_n 0, 1, false, 0, 0) :: (144, .invokevirtual 162, 3, false, 0, 0) :: (147, .goto 16, 3, false, 0, 163) :: (150, .iload 5, 2, false, 0, 0) :: (152, .iconst 1, 1, false, 1, 0) :: (153, .if_icmp .ne 8, 3, false, 0, 161) :: (156, .iload 7, 2, false, 0, 0) :: (158, .goto 5, 3, false, 0, 163) :: (161, .iload 8, 2, false, 0, 0) :: (163, .ireturn, 1, false, 0, 0) :: []
set_option maxRecDepth 100000 in
theorem cj_X8_storm : ip_chk cX8_storm tc_X8_storm = true := by decide +kernel
def cs_X8_storm : List ip_G := [(82, 1, 0, C_X8_isSheet), (156, 2, 0, C_X8_isRow), (65, 3, 0, C_X8_within), (159, 5, 8, C_X8_layStorm), (147, 3, 8, C_X8_isHeld), (162, 1, 8, C_X8_strikesNow)]
def I_X8_storm (P : Prop) (tc : Int32) (S : Nat → Nat) (G : Nat → Nat → Int32) (k a n : Nat) (sh ln i ni w : Int32) : Nat → Nat → ip_P := fun pc kk L st hp => pc = 70 ∧ P ∧ ∃ (R N : _) (t : Nat) (x y z : Int32) (l6 l10 : Option Value), relA tc (va_up S 0 0) G R N ∧ layT S G R N k a n ∧ t ≤ n ∧ kk = t ∧ L = [some (.ref 0), some (.int sh), some (.int ln), some (.int i), some (.int ni), some (.int w), l6, some (.int x), some (.int y), some (.int z), l10] ∧ st = [] ∧ hp = hpM R N ∧ fsT (stP S G k a) t n x ∧ ssT (stP S G k a) (spP G k a) t n y ∧ z = nI t - 1
theorem p_X8_storm : ip_Pf fl_X8 cn_X8 cs_X8_storm (some .int) tc_X8_storm 11 C_X8_storm := by
  rintro _ _ K ⟨tc, S, G, R, N, sh, ln, i, n, w, rfl, rfl, hwf, hrel, hK⟩
  have h0 := relA_f 0 hrel
  have w2 := hwf.1.2.1
  refine ⟨Nat.le_of_ble_eq_true rfl, I_X8_storm ((0 ≤ w.toInt ∧ w.toInt ≤ 2) ∧ hsR S G sh ln i n true = (0, 0) ∧ stormOk S G (nt sh) (nt i) (nt n)) tc S G (nt sh) (nt i) (nt n) sh ln i n w, ?_, ?_⟩
  · have bad : ∀ c : Int32 × Nat, hsR S G sh ln i n (decide (0 ≤ w.toInt ∧ w.toInt ≤ 2)) = c → c.1 ≠ 0 → ∀ R' N', relA tc (va_up S 0 c.2) G R' N' → K (some (.int c.1)) (hpM R' N') := fun c e hc R' N' hr => by
      subst e
      have e : q_storm S G sh ln i n w = hsR S G sh ln i n (decide (0 ≤ w.toInt ∧ w.toInt ≤ 2)) := by rw [q_storm, if_pos hc]
      rw [e] at hK
      exact hK R' N' hr
    clear hK
    refine Exists.intro sh ⟨rfl, fun b hb => ?_⟩
    refine ip_bn (fun h => ?_) (fun h => ?_)
    rotate_left
    · exact bad _ (hs_1 (fun z => by rw [hb.mpr z] at h; cases h)) (by decide) _ N h0
    have hs4 : inI sh 4 := hb.mp h
    change ip_wp _ _ _ _ _ _ _ _ _ _ _ _ [] _
    refine Exists.intro ln ⟨n, rfl, fun b2 hb2 => ?_⟩
    refine ip_bt (fun h2 => ?_) (fun h2 => ?_)
    · have hno : ¬ (inI ln 3 ∧ 0 ≤ n.toInt ∧ n.toInt ≤ 20) := fun z => by rw [hb2.mpr z] at h2; cases h2
      refine bad _ (hs_2 hs4 ?_) (by decide) _ N h0
      by_cases z : inI ln 3
      · right
        have : ¬ (0 ≤ n.toInt ∧ n.toInt ≤ 20) := fun q => hno ⟨z, q⟩
        omega
      · exact Or.inl z
    obtain ⟨hl, hn0, hn20⟩ := hb2.mp h2
    change ip_wp _ _ _ _ _ _ _ _ _ _ _ _ [] _
    refine Exists.intro w ⟨0, 2, rfl, fun b3 hb3 => ?_⟩
    have t0 : (0 : Int32).toInt = 0 := by decide
    have t2 : (2 : Int32).toInt = 2 := by decide
    rw [t0, t2] at hb3
    refine ip_bn (fun h3 => ?_) (fun h3 => ?_)
    rotate_left
    · have hno : ¬ (0 ≤ w.toInt ∧ w.toInt ≤ 2) := fun z => by rw [hb3.mpr z] at h3; cases h3
      exact bad _ (hs_2 hs4 (Or.inr (Or.inr (Or.inr (decide_eq_false hno))))) (by decide) _ N h0
    have hw := hb3.mp h3
    rw [decide_eq_true hw, hs_ls hs4 hl hn0 hn20] at bad
    rw [hs_ls hs4 hl hn0 hn20]
    obtain ⟨k, hk, rfl, ek⟩ := ti_of hs4.1
    have hk4 : k < 4 := by have := hs4.2; omega
    change ip_wp _ _ _ _ _ _ _ _ _ _ _ _ [] _
    rw [nt_n hk] at bad ⊢
    refine Exists.intro tc ⟨S, G, va_up R 0 0, N, k, ln, i, n, hk4, hn0, hn20, rfl, rfl, hwf, h0, fun hne R' N' hr => ?_, fun hz hok R' N' hr hlay => ?_⟩
    · exact And.intro (fun z => absurd z hne) (fun _ => bad _ rfl hne R' N' hr)
    · refine And.intro (fun _ => ?_) (fun z => absurd rfl z)
      exact Exists.intro (nt n) ⟨trivial, rfl, ⟨hw, hz, hok⟩, R', N', nt n, _, _, _, _, _, hr, hlay, Nat.le_refl _, rfl, rfl, rfl, rfl, fsT_n _ _, ssT_n _ _ _, by show R' 17 - 1 = _; rw [hlay.1]⟩
  · rintro pc kk L st hp ⟨rfl, ⟨hw, hz, hok⟩, R', N', t, x, y, z, l6, l10, hr, hlay, ht, rfl, rfl, rfl, rfl, hx, hy, rfl⟩
    have hP : (0 ≤ w.toInt ∧ w.toInt ≤ 2) ∧ hsR S G sh ln i n true = (0, 0) ∧ stormOk S G (nt sh) (nt i) (nt n) := ⟨hw, hz, hok⟩
    obtain ⟨v1, v2⟩ := lay_ok w2 hlay hok S
    have hrm : relM S R' N' 0 := relM_0 hr.2.2.1
    have hn20 := hlay.2.1
    have hq : q_storm S G sh ln i n w = if w.toInt = 0 then (nI (fb_ct (stP S G (nt sh) (nt i)) (nt n)), 0) else if w.toInt = 1 then (ob (lst (stP S G (nt sh) (nt i)) (nt n)), 0) else (nI (bs 6 (fun p => anyb (nt n) (fun t => stP S G (nt sh) (nt i) t && spP G (nt sh) (nt i) t == p))), 0) := by
      rw [q_storm, decide_eq_true hw, hz, if_neg (by decide)]
    have hK' : ∀ r : Int32, (if w.toInt = 0 then nI (fb_ct (stP S G (nt sh) (nt i)) (nt n)) else if w.toInt = 1 then ob (lst (stP S G (nt sh) (nt i)) (nt n)) else nI (bs 6 (fun p => anyb (nt n) (fun t => stP S G (nt sh) (nt i) t && spP G (nt sh) (nt i) t == p)))) = r → K (some (.int r)) (hpM R' N') := fun r er => by
      have e : q_storm S G sh ln i n w = (r, 0) := by
        rw [hq]
        split at er
        · rename_i h; rw [if_pos h, er]
        · rename_i h
          rw [if_neg h]
          split at er
          · rename_i h; rw [if_pos h, er]
          · rename_i h; rw [if_neg h, er]
      rw [e] at hK
      exact hK R' N' hr
    clear hK hq
    have hnn : nt n ≤ 20 := hn20
    generalize nt n = n' at *
    generalize nt sh = k at *
    generalize nt i = a at *
    have e1 : (nI t - 1).toInt = (t : Int) - 1 := nx1 t (by omega)
    refine bz_lt ((t : Int) - 1) 0 (fun h => ?_) (fun h => ?_) e1
    · obtain rfl : t = 0 := by omega
      refine bz_ne w.toInt 0 (fun h2 => ?_) (fun h2 => ?_)
      · refine bz_ne w.toInt 1 (fun h3 => ?_) (fun h3 => ?_)
        · exact hK' _ (by rw [if_neg h2, if_neg h3]; exact (ssT_0 hy).symm)
        · exact hK' _ (by rw [if_neg h2, if_pos h3]; exact (fsT_0 hx).symm)
      · refine Exists.intro R' ⟨N', S, n', rfl, rfl, hwf.1, hrm, v1, ?_⟩
        exact hK' _ (by rw [if_pos h2, fb_ct_cong (fun t ht => (v2 t ht).2)])
    · obtain ⟨t, rfl⟩ : ∃ u, t = u + 1 := ⟨t - 1, by omega⟩
      have ht' : t < n' := by omega
      have em : nI (t + 1) - 1 = nI t := nI_pred t
      rw [em]
      have hvi : vp_in (nI t) 20 := pk_in t 20 (by omega)
      obtain ⟨q1, q2⟩ := v2 t ht'
      obtain ⟨s1, s2, s3, s4⟩ := v1.2.2 t ht'
      have hc := nI_clamp (n := t) (by omega)
      refine And.intro hvi ?_
      refine And.intro hvi ?_
      refine Exists.intro R' ⟨N', S, pN (N' 8) t, pN (N' 9) t, 0, by omega, s4, by decide, (by show [Value.ref 0, .int (N' 8 (nI t).toNatClampNeg), .int (N' 9 (nI t).toNatClampNeg)] = _; rw [hc, ← s1, ← s3]), rfl, hwf.1, hrm, ?_⟩
      rw [stk_held]
      have hs : stk S (pN (N' 8) t) (pN (N' 9) t) = stP S G k a t := q2
      rw [hs]
      have hn : ∀ (x y z : Int32) (l10 : Option Value), fsT (stP S G k a) t n' x → ssT (stP S G k a) (spP G k a) t n' y → z = nI t - 1 → ∃ kk, ip_lt kk (some (t + 1)) ∧ I_X8_storm ((0 ≤ w.toInt ∧ w.toInt ≤ 2) ∧ hsR S G sh ln i n true = (0, 0) ∧ stormOk S G k a n') tc S G k a n' sh ln i n w 70 kk [some (.ref 0), some (.int sh), some (.int ln), some (.int i), some (.int n), some (.int w), l6, some (.int x), some (.int y), some (.int z), l10] [] (hpM R' N') := fun x y z l10 hx hy hz => ⟨t, by show _ < _; omega, rfl, hP, R', N', t, x, y, z, l6, l10, hr, hlay, by omega, rfl, rfl, rfl, rfl, hx, hy, hz⟩
      change ip_wp _ _ _ _ _ _ _ _ _ _ _ _ [Value.int (ip_bi (!stP S G k a t))] _
      have hsp : N' 8 (nI t).toNatClampNeg = nI (spP G k a t) := by rw [hc, s1, q1]
      have hsp6 : spP G k a t < 6 := by rw [← q1]; exact s2
      refine ip_bt (fun h3 => ?_) (fun h3 => ?_)
      · have h4 : stP S G k a t = true := by simpa using h3
        refine ip_bt (fun _ => ?_) (fun h5 => absurd h3 (by rw [h5]; decide))
        refine And.intro hvi ?_
        rw [hsp]
        exact hn _ _ _ _ (fsT_yes ht' h4) (ssT_yes hy ht' h4 hsp6) rfl
      · have h4 : stP S G k a t = false := by simpa using h3
        refine ip_bt (fun h5 => absurd h3 (by rw [h5]; decide)) (fun _ => ?_)
        exact hn _ _ _ _ (fsT_no hx h4) (ssT_no hy h4) rfl
set_option maxRecDepth 100000 in
set_option maxHeartbeats 4000000 in
theorem m_X8_storm (l : Launch) : ip_Met l yX8_storm cX8_storm 11 (some .int) (ip_rm 4) C_X8_storm := ip_met tc_X8_storm 400 (by decide +kernel) fl_X8_ok cn_X8_ok (ip_cs1 (ip_gsS (m_X8_isSheet l) (ip_in [713, 714, 39, 715] (by decide +kernel) (by decide +kernel)) ⟨by decide +kernel, by decide +kernel, by decide +kernel⟩ ⟨rfl, rfl, Nat.le_of_ble_eq_true rfl, Nat.le_of_ble_eq_true rfl⟩) (ip_cs1 (ip_gsS (m_X8_isRow l) (ip_in [812, 813, 39, 814] (by decide +kernel) (by decide +kernel)) ⟨by decide +kernel, by decide +kernel, by decide +kernel⟩ ⟨rfl, rfl, Nat.le_of_ble_eq_true rfl, Nat.le_of_ble_eq_true rfl⟩) (ip_cs1 (ip_gsS (m_X8_within l) (ip_in [716, 717, 39, 718] (by decide +kernel) (by decide +kernel)) ⟨by decide +kernel, by decide +kernel, by decide +kernel⟩ ⟨rfl, rfl, Nat.le_of_ble_eq_true rfl, Nat.le_of_ble_eq_true rfl⟩) (ip_cs1 (ip_gsV (m_X8_layStorm l) (ip_in [815, 817, 22, 39, 818] (by decide +kernel) (by decide +kernel)) rfl ⟨by decide +kernel, by decide +kernel, by decide +kernel⟩ ⟨rfl, rfl, Nat.le_of_ble_eq_true rfl, Nat.le_of_ble_eq_true rfl⟩) (ip_cs1 (ip_gsV (m_X8_isHeld l) (ip_in [796, 798, 20, 39, 799] (by decide +kernel) (by decide +kernel)) rfl ⟨by decide +kernel, by decide +kernel, by decide +kernel⟩ ⟨rfl, rfl, Nat.le_of_ble_eq_true rfl, Nat.le_of_ble_eq_true rfl⟩) (ip_cs1 (ip_gsV (m_X8_strikesNow l) (ip_in [819, 821, 23, 39, 822] (by decide +kernel) (by decide +kernel)) rfl ⟨by decide +kernel, by decide +kernel, by decide +kernel⟩ ⟨rfl, rfl, Nat.le_of_ble_eq_true rfl, Nat.le_of_ble_eq_true rfl⟩) (ip_cs0))))))) cj_X8_storm rfl p_X8_storm
end
