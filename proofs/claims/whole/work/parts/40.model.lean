/-! ===== the reference: hpM, its cells; R: its numbers (by field), N: its rows (by address) ===== -/
def hpM (R : Nat → Int32) (N : Nat → Nat → Int32) : ip_H := [
  .inr (7, [.int (R 0), .int (R 1), .ref 1, .ref 2, .ref 3, .int (R 5), .int (R 6), .int (R 7), .ref 4, .ref 5, .ref 6, .int (R 11), .int (R 12), .int (R 13), .int (R 14), .int (R 15), .ref 7, .int (R 17), .ref 8, .ref 9, .ref 10, .ref 11, .ref 12, .ref 13, .int (R 24), .ref 14, .ref 15, .ref 16]),
  .inl (0, 4, .inl (N 1)), .inl (0, 4, .inl (N 2)), .inl (0, 240, .inl (N 3)), .inl (0, 4, .inl (N 4)), .inl (0, 4, .inl (N 5)), .inl (0, 4, .inl (N 6)), .inl (0, 12, .inl (N 7)), .inl (0, 20, .inl (N 8)), .inl (0, 20, .inl (N 9)), .inl (0, 4, .inl (N 10)), .inl (0, 4, .inl (N 11)), .inl (1, 384, .inl (N 12)), .inl (1, 384, .inl (N 13)), .inl (0, 8, .inl (N 14)), .inl (0, 8, .inl (N 15)), .inl (1, 8, .inl (N 16))]
theorem iff_f {P : Prop} (h : ¬ P) : (false = true ↔ P) := ⟨fun z => (by cases z), fun z => absurd z h⟩
theorem iff_t {P : Prop} (h : P) : (true = true ↔ P) := ⟨fun _ => h, fun _ => rfl⟩
def C_X8_within : ip_C := fun vs hp K => ∃ v l m : Int32, vs = [.int v, .int l, .int m] ∧ ∀ b : Bool, (b = true ↔ l.toInt ≤ v.toInt ∧ v.toInt ≤ m.toInt) → K (some (.int (ip_bi b))) hp
def cs_X8_within : List ip_G := []
theorem p_X8_within : ip_Pf fl_X8 cn_X8 cs_X8_within (some .boolean) tb_X8_within 3 C_X8_within := ip_pf0 (by
  rintro _ hp K ⟨v, l, m, rfl, hK⟩
  refine ⟨Nat.le_of_ble_eq_true rfl, ?_⟩
  refine bz_lt v.toInt l.toInt (fun h => ?_) (fun h => ?_)
  · exact And.intro rfl (hK false (by simp; omega))
  refine bz_lt m.toInt v.toInt (fun h2 => ?_) (fun h2 => ?_)
  · exact And.intro rfl (hK false (by simp; omega))
  · exact And.intro rfl (hK true (by simp; omega)))
set_option maxRecDepth 100000 in
set_option maxHeartbeats 4000000 in
theorem m_X8_within (l : Launch) : ip_Met l yX8_within cX8_within 3 (some .boolean) (ip_rm 0) C_X8_within := ip_met tb_X8_within 400 (by decide +kernel) fl_X8_ok cn_X8_ok (ip_cs0) ck_X8_within rfl p_X8_within
def C_X8_isSheet : ip_C := fun vs hp K => ∃ v : Int32, vs = [.int v] ∧ ∀ b : Bool, (b = true ↔ inI v 4) → K (some (.int (ip_bi b))) hp
def cs_X8_isSheet : List ip_G := [(65, 3, 0, C_X8_within)]
theorem p_X8_isSheet : ip_Pf fl_X8 cn_X8 cs_X8_isSheet (some .boolean) tb_X8_isSheet 1 C_X8_isSheet := ip_pf0 (by
  rintro _ hp K ⟨v, rfl, hK⟩
  refine ⟨Nat.le_of_ble_eq_true rfl, ?_⟩
  refine Exists.intro v ⟨0, 3, rfl, fun b hb => ?_⟩
  have t0 : (0 : Int32).toInt = 0 := by decide
  have t3 : (3 : Int32).toInt = 3 := by decide
  rw [t0, t3] at hb
  exact And.intro (ip_bnar b) (hK b (by rw [hb]; unfold inI; omega)))
set_option maxRecDepth 100000 in
set_option maxHeartbeats 4000000 in
theorem m_X8_isSheet (l : Launch) : ip_Met l yX8_isSheet cX8_isSheet 1 (some .boolean) (ip_rm 1) C_X8_isSheet := ip_met tb_X8_isSheet 400 (by decide +kernel) fl_X8_ok cn_X8_ok (ip_cs1 (ip_gsS (m_X8_within l) (ip_in [716, 717, 39, 718] (by decide +kernel) (by decide +kernel)) ⟨by decide +kernel, by decide +kernel, by decide +kernel⟩ ⟨rfl, rfl, Nat.le_of_ble_eq_true rfl, Nat.le_of_ble_eq_true rfl⟩) (ip_cs0)) ck_X8_isSheet rfl p_X8_isSheet
def C_X8_isSort : ip_C := fun vs hp K => ∃ v : Int32, vs = [.int v] ∧ ∀ b : Bool, (b = true ↔ inI v 3) → K (some (.int (ip_bi b))) hp
def cs_X8_isSort : List ip_G := [(65, 3, 0, C_X8_within)]
theorem p_X8_isSort : ip_Pf fl_X8 cn_X8 cs_X8_isSort (some .boolean) tb_X8_isSort 1 C_X8_isSort := ip_pf0 (by
  rintro _ hp K ⟨v, rfl, hK⟩
  refine ⟨Nat.le_of_ble_eq_true rfl, ?_⟩
  refine Exists.intro v ⟨0, 2, rfl, fun b hb => ?_⟩
  have t0 : (0 : Int32).toInt = 0 := by decide
  have t3 : (2 : Int32).toInt = 2 := by decide
  rw [t0, t3] at hb
  exact And.intro (ip_bnar b) (hK b (by rw [hb]; unfold inI; omega)))
set_option maxRecDepth 100000 in
set_option maxHeartbeats 4000000 in
theorem m_X8_isSort (l : Launch) : ip_Met l yX8_isSort cX8_isSort 1 (some .boolean) (ip_rm 1) C_X8_isSort := ip_met tb_X8_isSort 400 (by decide +kernel) fl_X8_ok cn_X8_ok (ip_cs1 (ip_gsS (m_X8_within l) (ip_in [716, 717, 39, 718] (by decide +kernel) (by decide +kernel)) ⟨by decide +kernel, by decide +kernel, by decide +kernel⟩ ⟨rfl, rfl, Nat.le_of_ble_eq_true rfl, Nat.le_of_ble_eq_true rfl⟩) (ip_cs0)) ck_X8_isSort rfl p_X8_isSort
def C_X8_isQuestion : ip_C := fun vs hp K => ∃ v : Int32, vs = [.int v] ∧ ∀ b : Bool, (b = true ↔ inI v 6) → K (some (.int (ip_bi b))) hp
def cs_X8_isQuestion : List ip_G := [(65, 3, 0, C_X8_within)]
theorem p_X8_isQuestion : ip_Pf fl_X8 cn_X8 cs_X8_isQuestion (some .boolean) tb_X8_isQuestion 1 C_X8_isQuestion := ip_pf0 (by
  rintro _ hp K ⟨v, rfl, hK⟩
  refine ⟨Nat.le_of_ble_eq_true rfl, ?_⟩
  refine Exists.intro v ⟨0, 5, rfl, fun b hb => ?_⟩
  have t0 : (0 : Int32).toInt = 0 := by decide
  have t3 : (5 : Int32).toInt = 5 := by decide
  rw [t0, t3] at hb
  exact And.intro (ip_bnar b) (hK b (by rw [hb]; unfold inI; omega)))
set_option maxRecDepth 100000 in
set_option maxHeartbeats 4000000 in
theorem m_X8_isQuestion (l : Launch) : ip_Met l yX8_isQuestion cX8_isQuestion 1 (some .boolean) (ip_rm 1) C_X8_isQuestion := ip_met tb_X8_isQuestion 400 (by decide +kernel) fl_X8_ok cn_X8_ok (ip_cs1 (ip_gsS (m_X8_within l) (ip_in [716, 717, 39, 718] (by decide +kernel) (by decide +kernel)) ⟨by decide +kernel, by decide +kernel, by decide +kernel⟩ ⟨rfl, rfl, Nat.le_of_ble_eq_true rfl, Nat.le_of_ble_eq_true rfl⟩) (ip_cs0)) ck_X8_isQuestion rfl p_X8_isQuestion
def C_X8_isSet : ip_C := fun vs hp K => ∃ v : Int32, vs = [.int v] ∧ ∀ b : Bool, (b = true ↔ inI v 64) → K (some (.int (ip_bi b))) hp
def cs_X8_isSet : List ip_G := [(65, 3, 0, C_X8_within)]
theorem p_X8_isSet : ip_Pf fl_X8 cn_X8 cs_X8_isSet (some .boolean) tb_X8_isSet 1 C_X8_isSet := ip_pf0 (by
  rintro _ hp K ⟨v, rfl, hK⟩
  refine ⟨Nat.le_of_ble_eq_true rfl, ?_⟩
  refine Exists.intro v ⟨0, 63, rfl, fun b hb => ?_⟩
  have t0 : (0 : Int32).toInt = 0 := by decide
  have t3 : (63 : Int32).toInt = 63 := by decide
  rw [t0, t3] at hb
  exact And.intro (ip_bnar b) (hK b (by rw [hb]; unfold inI; omega)))
set_option maxRecDepth 100000 in
set_option maxHeartbeats 4000000 in
theorem m_X8_isSet (l : Launch) : ip_Met l yX8_isSet cX8_isSet 1 (some .boolean) (ip_rm 1) C_X8_isSet := ip_met tb_X8_isSet 400 (by decide +kernel) fl_X8_ok cn_X8_ok (ip_cs1 (ip_gsS (m_X8_within l) (ip_in [716, 717, 39, 718] (by decide +kernel) (by decide +kernel)) ⟨by decide +kernel, by decide +kernel, by decide +kernel⟩ ⟨rfl, rfl, Nat.le_of_ble_eq_true rfl, Nat.le_of_ble_eq_true rfl⟩) (ip_cs0)) ck_X8_isSet rfl p_X8_isSet
def C_X8_isRow : ip_C := fun vs hp K => ∃ v n : Int32, vs = [.int v, .int n] ∧ ∀ b : Bool, (b = true ↔ inI v 3 ∧ 0 ≤ n.toInt ∧ n.toInt ≤ 20) → K (some (.int (ip_bi b))) hp
def cs_X8_isRow : List ip_G := [(86, 1, 0, C_X8_isSort), (65, 3, 0, C_X8_within)]
theorem p_X8_isRow : ip_Pf fl_X8 cn_X8 cs_X8_isRow (some .boolean) tb_X8_isRow 2 C_X8_isRow := ip_pf0 (by
  rintro _ hp K ⟨v, n, rfl, hK⟩
  refine ⟨Nat.le_of_ble_eq_true rfl, ?_⟩
  refine Exists.intro v ⟨rfl, fun b hb => ?_⟩
  have t0 : (0 : Int32).toInt = 0 := by decide
  have t3 : (20 : Int32).toInt = 20 := by decide
  refine ip_bt (fun h => ?_) (fun h => ?_)
  · exact And.intro rfl (hK false (iff_f (fun z => by rw [hb.mpr z.1] at h; cases h)))
  refine Exists.intro n ⟨0, 20, rfl, fun b2 hb2 => ?_⟩
  rw [t0, t3] at hb2
  refine ip_bt (fun h2 => ?_) (fun h2 => ?_)
  · exact And.intro rfl (hK false (iff_f (fun z => by rw [hb2.mpr z.2] at h2; cases h2)))
  · exact And.intro rfl (hK true (iff_t ⟨hb.mp h, hb2.mp h2⟩)))
set_option maxRecDepth 100000 in
set_option maxHeartbeats 4000000 in
theorem m_X8_isRow (l : Launch) : ip_Met l yX8_isRow cX8_isRow 2 (some .boolean) (ip_rm 2) C_X8_isRow := ip_met tb_X8_isRow 400 (by decide +kernel) fl_X8_ok cn_X8_ok (ip_cs1 (ip_gsS (m_X8_isSort l) (ip_in [719, 720, 39, 721] (by decide +kernel) (by decide +kernel)) ⟨by decide +kernel, by decide +kernel, by decide +kernel⟩ ⟨rfl, rfl, Nat.le_of_ble_eq_true rfl, Nat.le_of_ble_eq_true rfl⟩) (ip_cs1 (ip_gsS (m_X8_within l) (ip_in [716, 717, 39, 718] (by decide +kernel) (by decide +kernel)) ⟨by decide +kernel, by decide +kernel, by decide +kernel⟩ ⟨rfl, rfl, Nat.le_of_ble_eq_true rfl, Nat.le_of_ble_eq_true rfl⟩) (ip_cs0))) ck_X8_isRow rfl p_X8_isRow
def C_X8_fails : ip_C := fun vs hp K => ∃ R N, ∃ f : Int32, vs = [.ref 0, .int f] ∧ hp = hpM R N ∧ K (some (.int (-10 - f))) (hpM (va_up R 0 f) N)
def cs_X8_fails : List ip_G := []
theorem p_X8_fails : ip_Pf fl_X8 cn_X8 cs_X8_fails (some .int) tb_X8_fails 2 C_X8_fails := ip_pf0 (by
  rintro _ _ K ⟨R, N, f, rfl, rfl, hK⟩
  exact ⟨Nat.le_of_ble_eq_true rfl, hK⟩)
set_option maxRecDepth 100000 in
set_option maxHeartbeats 4000000 in
theorem m_X8_fails (l : Launch) : ip_Met l yX8_fails cX8_fails 2 (some .int) (ip_rm 0) C_X8_fails := ip_met tb_X8_fails 400 (by decide +kernel) fl_X8_ok cn_X8_ok (ip_cs0) ck_X8_fails rfl p_X8_fails
def C_X8_lost : ip_C := fun vs hp K => ∃ R N, ∃ f : Int32, vs = [.ref 0, .int f] ∧ hp = hpM R N ∧ K (some (.long (-9223372036854775808))) (hpM (va_up R 0 f) N)
def cs_X8_lost : List ip_G := []
theorem p_X8_lost : ip_Pf fl_X8 cn_X8 cs_X8_lost (some .long) tb_X8_lost 2 C_X8_lost := ip_pf0 (by
  rintro _ _ K ⟨R, N, f, rfl, rfl, hK⟩
  exact ⟨Nat.le_of_ble_eq_true rfl, hK⟩)
set_option maxRecDepth 100000 in
set_option maxHeartbeats 4000000 in
theorem m_X8_lost (l : Launch) : ip_Met l yX8_lost cX8_lost 2 (some .long) (ip_rm 0) C_X8_lost := ip_met tb_X8_lost 400 (by decide +kernel) fl_X8_ok cn_X8_ok (ip_cs0) ck_X8_lost rfl p_X8_lost
def C_X8_begins : ip_C := fun vs hp K => ∃ R N, ∃ b : Int32, vs = [.ref 0, .int b] ∧ hp = hpM R N ∧ K none (hpM (va_up R 1 (31 * R 1 + b)) N)
def cs_X8_begins : List ip_G := []
theorem p_X8_begins : ip_Pf fl_X8 cn_X8 cs_X8_begins none tb_X8_begins 2 C_X8_begins := ip_pf0 (by
  rintro _ _ K ⟨R, N, b, rfl, rfl, hK⟩
  exact ⟨Nat.le_of_ble_eq_true rfl, hK⟩)
set_option maxRecDepth 100000 in
set_option maxHeartbeats 4000000 in
theorem m_X8_begins (l : Launch) : ip_Met l yX8_begins cX8_begins 2 none (ip_rm 0) C_X8_begins := ip_met tb_X8_begins 400 (by decide +kernel) fl_X8_ok cn_X8_ok (ip_cs0) ck_X8_begins rfl p_X8_begins
/-- the reference's county is the system's; those of sl are silent -/
def relM (S : Nat → Nat) (R : Nat → Int32) (N : Nat → Nat → Int32) (sl : Nat) : Prop := R 5 = nI (S 1) ∧ R 6 = nI (S 2) ∧ R 7 = nI (S 3) ∧ R 11 = nI sl ∧ ∀ m, m < 4 → N 4 m = nI (S (40 + m)) ∧ N 5 m = nI (S (50 + m)) ∧ N 6 m = nI (S (60 + m))
def C_X8_isMan : ip_C := fun vs hp K => ∃ R N, ∃ (m : Int32) (n : Nat), vs = [.ref 0, .int m] ∧ hp = hpM R N ∧ R 7 = nI n ∧ n ≤ 4 ∧ ∀ b : Bool, (b = true ↔ inI m n) → K (some (.int (ip_bi b))) hp
def cs_X8_isMan : List ip_G := []
theorem p_X8_isMan : ip_Pf fl_X8 cn_X8 cs_X8_isMan (some .boolean) tb_X8_isMan 2 C_X8_isMan := ip_pf0 (by
  rintro _ _ K ⟨R, N, m, n, rfl, rfl, hR, hn, hK⟩
  refine ⟨Nat.le_of_ble_eq_true rfl, ?_⟩
  refine bz_lt m.toInt 0 (fun h => ?_) (fun h => ?_)
  · exact And.intro rfl (hK false (by simp; omega))
  have b1 : ∀ {X Y : Prop}, ((n : Int) ≤ m.toInt → X) → (m.toInt < n → Y) → (R 7 ≤ m → X) ∧ (¬ R 7 ≤ m → Y) := fun f g => bz_le _ _ f g (by rw [hR]; exact ti_n (by omega)) rfl
  refine b1 (fun h2 => ?_) (fun h2 => ?_)
  · exact And.intro rfl (hK false (by simp; omega))
  · exact And.intro rfl (hK true (by simp; omega)))
set_option maxRecDepth 100000 in
set_option maxHeartbeats 4000000 in
theorem m_X8_isMan (l : Launch) : ip_Met l yX8_isMan cX8_isMan 2 (some .boolean) (ip_rm 0) C_X8_isMan := ip_met tb_X8_isMan 400 (by decide +kernel) fl_X8_ok cn_X8_ok (ip_cs0) ck_X8_isMan rfl p_X8_isMan
def C_X8_isParish : ip_C := fun vs hp K => ∃ R N, ∃ (m : Int32) (n : Nat), vs = [.ref 0, .int m] ∧ hp = hpM R N ∧ R 6 = nI n ∧ n ≤ 6 ∧ ∀ b : Bool, (b = true ↔ inI m n) → K (some (.int (ip_bi b))) hp
def cs_X8_isParish : List ip_G := []
theorem p_X8_isParish : ip_Pf fl_X8 cn_X8 cs_X8_isParish (some .boolean) tb_X8_isParish 2 C_X8_isParish := ip_pf0 (by
  rintro _ _ K ⟨R, N, m, n, rfl, rfl, hR, hn, hK⟩
  refine ⟨Nat.le_of_ble_eq_true rfl, ?_⟩
  refine bz_lt m.toInt 0 (fun h => ?_) (fun h => ?_)
  · exact And.intro rfl (hK false (by simp; omega))
  have b1 : ∀ {X Y : Prop}, ((n : Int) ≤ m.toInt → X) → (m.toInt < n → Y) → (R 6 ≤ m → X) ∧ (¬ R 6 ≤ m → Y) := fun f g => bz_le _ _ f g (by rw [hR]; exact ti_n (by omega)) rfl
  refine b1 (fun h2 => ?_) (fun h2 => ?_)
  · exact And.intro rfl (hK false (by simp; omega))
  · exact And.intro rfl (hK true (by simp; omega)))
set_option maxRecDepth 100000 in
set_option maxHeartbeats 4000000 in
theorem m_X8_isParish (l : Launch) : ip_Met l yX8_isParish cX8_isParish 2 (some .boolean) (ip_rm 0) C_X8_isParish := ip_met tb_X8_isParish 400 (by decide +kernel) fl_X8_ok cn_X8_ok (ip_cs0) ck_X8_isParish rfl p_X8_isParish
theorem bt_bi : ∀ a : Fin 64, ∀ k : Fin 6, (nI a.val >>> (nI k.val &&& 31)) &&& 1 = ip_bi (a.val.testBit k.val) := by decide +kernel
theorem bt_bi16 : ∀ a : Fin 16, ∀ k : Fin 4, (nI a.val >>> (nI k.val &&& 31)) &&& 1 = ip_bi (a.val.testBit k.val) := by decide +kernel
def C_X8_right : ip_C := fun vs hp K => ∃ R N, ∃ tr q : Nat, tr < 64 ∧ q < 6 ∧ vs = [.ref 0, .int (nI q)] ∧ hp = hpM R N ∧ R 5 = nI tr ∧ K (some (.int (ip_bi (tr.testBit q)))) hp
def cs_X8_right : List ip_G := []
theorem p_X8_right : ip_Pf fl_X8 cn_X8 cs_X8_right (some .int) tb_X8_right 2 C_X8_right := ip_pf0 (by
  rintro _ _ K ⟨R, N, tr, q, ht, hq, rfl, rfl, hR, hK⟩
  refine ⟨Nat.le_of_ble_eq_true rfl, ?_⟩
  have hb := bt_bi ⟨tr, ht⟩ ⟨q, hq⟩
  simp only at hb
  rw [← hb, ← hR] at hK
  exact hK)
set_option maxRecDepth 100000 in
set_option maxHeartbeats 4000000 in
theorem m_X8_right (l : Launch) : ip_Met l yX8_right cX8_right 2 (some .int) (ip_rm 0) C_X8_right := ip_met tb_X8_right 400 (by decide +kernel) fl_X8_ok cn_X8_ok (ip_cs0) ck_X8_right rfl p_X8_right
theorem ip_bo {b : Bool} {X Y : Prop} (h0 : b = false → X) (h1 : b = true → Y) : (¬ ip_bi b = 1 → X) ∧ (ip_bi b = 1 → Y) := by
  cases b
  · exact ⟨fun _ => h0 rfl, fun h => absurd h (by decide)⟩
  · exact ⟨fun h => absurd rfl h, fun _ => h1 rfl⟩
def ansR (tr kd li q : Nat) : Int32 := if ar tr kd li q then ip_bi (tr.testBit q) else if aw tr kd li q then 1 - ip_bi (tr.testBit q) else -9
def C_X8_answerOf : ip_C := fun vs hp K => ∃ R N S, ∃ m q sl : Nat, m < 4 ∧ q < 6 ∧ vs = [.ref 0, .int (nI m), .int (nI q)] ∧ hp = hpM R N ∧ wfM S ∧ relM S R N sl ∧ K (some (.int (ansR (S 1) (S (40 + m)) (S (60 + m)) q))) hp
def cs_X8_answerOf : List ip_G := [(134, 2, 8, C_X8_right)]
set_option maxHeartbeats 4000000 in
theorem p_X8_answerOf : ip_Pf fl_X8 cn_X8 cs_X8_answerOf (some .int) tb_X8_answerOf 4 C_X8_answerOf := ip_pf0 (by
  rintro _ _ K ⟨R, N, S, m, q, sl, hm, hq, rfl, rfl, ⟨w1, w2, w3, w4⟩, ⟨r5, r6, r7, r11, rm⟩, hK⟩
  refine ⟨Nat.le_of_ble_eq_true rfl, ?_⟩
  obtain ⟨k1, k2, k3⟩ := w4 m hm
  obtain ⟨n4, n5, n6⟩ := rm m hm
  have hc := nI_clamp (n := m) (by omega)
  have hin : vp_in (nI m) 4 := pk_in m 4 hm
  have bl := bt_bi ⟨S (60 + m), k3⟩ ⟨q, hq⟩
  simp only at bl
  have e6 : N 6 (nI m).toNatClampNeg = nI (S (60 + m)) := by rw [hc, n6]
  have e4 : N 4 (nI m).toNatClampNeg = nI (S (40 + m)) := by rw [hc, n4]
  have b0 : ∀ {X Y : Prop}, ((S (60 + m)).testBit q = false → X) → ((S (60 + m)).testBit q = true → Y) → (¬ (N 6 (nI m).toNatClampNeg >>> (nI q &&& 31)) &&& 1 = 1 → X) ∧ ((N 6 (nI m).toNatClampNeg >>> (nI q &&& 31)) &&& 1 = 1 → Y) := fun f g => by rw [e6, bl]; exact ip_bo f g
  have b2 : ∀ {X Y : Prop}, (S (40 + m) ≠ 2 → X) → (S (40 + m) = 2 → Y) → (¬ N 4 (nI m).toNatClampNeg = 2 → X) ∧ (N 4 (nI m).toNatClampNeg = 2 → Y) := fun f g => by rw [e4]; exact pk_ne _ 2 f g
  have b3 : ∀ {X Y : Prop}, (S (40 + m) ≠ 1 → X) → (S (40 + m) = 1 → Y) → (¬ N 4 (nI m).toNatClampNeg = 1 → X) ∧ (N 4 (nI m).toNatClampNeg = 1 → Y) := fun f g => by rw [e4]; exact pk_ne _ 1 f g
  have c1 : S (40 + m) = 2 → (S (60 + m)).testBit q = true → K (some (.int (1 - ip_bi ((S 1).testBit q)))) (hpM R N) := fun h h2 => by simp [ansR, ar, aw, h, h2] at hK; exact hK
  have c2 : S (40 + m) = 2 → (S (60 + m)).testBit q = false → K (some (.int (-9))) (hpM R N) := fun h h2 => by simp [ansR, ar, aw, h, h2] at hK; exact hK
  have c3 : S (40 + m) ≠ 2 → (S (60 + m)).testBit q = true → K (some (.int (ip_bi ((S 1).testBit q)))) (hpM R N) := fun h h2 => by simp [ansR, ar, aw, h, h2] at hK; exact hK
  have c4 : S (40 + m) = 1 → (S (60 + m)).testBit q = false → K (some (.int 1)) (hpM R N) := fun h h2 => by
    cases h3 : (S 1).testBit q
    · simp [ansR, ar, aw, h, h2, h3] at hK; exact hK
    · simp [ansR, ar, aw, h, h2, h3] at hK; exact hK
  have c5 : S (40 + m) ≠ 2 → S (40 + m) ≠ 1 → (S (60 + m)).testBit q = false → K (some (.int (-9))) (hpM R N) := fun h h0 h2 => by simp [ansR, ar, aw, h, h0, h2] at hK; exact hK
  clear hK
  refine And.intro hin ?_
  refine b0 (fun h => ?_) (fun h => ?_)
  · refine And.intro hin ?_
    refine b2 (fun h2 => ?_) (fun h2 => ?_)
    · refine And.intro (fun _ => ?_) (fun z => absurd rfl z)
      refine And.intro hin ?_
      refine b3 (fun h3 => ?_) (fun h3 => ?_)
      · exact c5 h2 h3 h
      · exact c4 h3 h
    · refine And.intro (fun _ => ?_) (fun z => absurd rfl z)
      exact c2 h2 h
  · refine And.intro hin ?_
    refine b2 (fun h2 => ?_) (fun h2 => ?_)
    · refine And.intro (fun z => absurd z (by decide)) (fun _ => ?_)
      exact Exists.intro R ⟨N, S 1, q, w1, hq, rfl, rfl, r5, c3 h2 h⟩
    · refine And.intro (fun z => absurd z (by decide)) (fun _ => ?_)
      exact Exists.intro R ⟨N, S 1, q, w1, hq, rfl, rfl, r5, c1 h2 h⟩)
set_option maxRecDepth 100000 in
set_option maxHeartbeats 4000000 in
theorem m_X8_answerOf (l : Launch) : ip_Met l yX8_answerOf cX8_answerOf 4 (some .int) (ip_rm 1) C_X8_answerOf := ip_met tb_X8_answerOf 400 (by decide +kernel) fl_X8_ok cn_X8_ok (ip_cs1 (ip_gsV (m_X8_right l) (ip_in [788, 790, 19, 39, 791] (by decide +kernel) (by decide +kernel)) rfl ⟨by decide +kernel, by decide +kernel, by decide +kernel⟩ ⟨rfl, rfl, Nat.le_of_ble_eq_true rfl, Nat.le_of_ble_eq_true rfl⟩) (ip_cs0)) ck_X8_answerOf rfl p_X8_answerOf
def C_X8_trace : ip_C := fun vs hp K => ∃ R N, vs = [.ref 0] ∧ hp = hpM R N ∧ K (some (.int (R 1))) hp
def cs_X8_trace : List ip_G := []
theorem p_X8_trace : ip_Pf fl_X8 cn_X8 cs_X8_trace (some .int) tb_X8_trace 1 C_X8_trace := ip_pf0 (by
  rintro _ _ K ⟨R, N, rfl, rfl, hK⟩
  exact ⟨Nat.le_of_ble_eq_true rfl, hK⟩)
set_option maxRecDepth 100000 in
set_option maxHeartbeats 4000000 in
theorem m_X8_trace (l : Launch) : ip_Met l yX8_trace cX8_trace 1 (some .int) (ip_rm 0) C_X8_trace := ip_met tb_X8_trace 400 (by decide +kernel) fl_X8_ok cn_X8_ok (ip_cs0) ck_X8_trace rfl p_X8_trace
def C_X8_fault : ip_C := fun vs hp K => ∃ R N, vs = [.ref 0] ∧ hp = hpM R N ∧ K (some (.int (R 0))) hp
def cs_X8_fault : List ip_G := []
theorem p_X8_fault : ip_Pf fl_X8 cn_X8 cs_X8_fault (some .int) tb_X8_fault 1 C_X8_fault := ip_pf0 (by
  rintro _ _ K ⟨R, N, rfl, rfl, hK⟩
  exact ⟨Nat.le_of_ble_eq_true rfl, hK⟩)
set_option maxRecDepth 100000 in
set_option maxHeartbeats 4000000 in
theorem m_X8_fault (l : Launch) : ip_Met l yX8_fault cX8_fault 1 (some .int) (ip_rm 0) C_X8_fault := ip_met tb_X8_fault 400 (by decide +kernel) fl_X8_ok cn_X8_ok (ip_cs0) ck_X8_fault rfl p_X8_fault
