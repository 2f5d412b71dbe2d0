/-! ===== leaves of the class and of the library ===== -/
def C_X7_isLane : ip_C := fun vs hp K => ∃ a : Int32, vs = [.int a] ∧ ∀ b : Bool, (b = true ↔ 0 ≤ a.toInt ∧ a.toInt < 3) → K (some (.int (ip_bi b))) hp
def cs_X7_isLane : List ip_G := []
theorem p_X7_isLane : ip_Pf fl_X7 cn_X7 cs_X7_isLane (some .boolean) tb_X7_isLane 1 C_X7_isLane := ip_pf0 (by
  rintro _ hp K ⟨a, rfl, hK⟩
  refine ⟨Nat.le_of_ble_eq_true rfl, ?_⟩
  refine bz_lt a.toInt 0 (fun h => ?_) (fun h => ?_)
  · exact And.intro rfl (hK false (by simp; omega))
  refine bz_le 3 a.toInt (fun h2 => ?_) (fun h2 => ?_)
  · exact And.intro rfl (hK false (by simp; omega))
  · exact And.intro rfl (hK true (by simp; omega)))
set_option maxRecDepth 100000 in
set_option maxHeartbeats 4000000 in
theorem m_X7_isLane (l : Launch) : ip_Met l yX7_isLane cX7_isLane 1 (some .boolean) (ip_rm 0) C_X7_isLane := ip_met tb_X7_isLane 400 (by decide +kernel) fl_X7_ok cn_X7_ok (ip_cs0) ck_X7_isLane rfl p_X7_isLane
def C_X7_isSet : ip_C := fun vs hp K => ∃ a : Int32, vs = [.int a] ∧ ∀ b : Bool, (b = true ↔ 0 ≤ a.toInt ∧ a.toInt < 64) → K (some (.int (ip_bi b))) hp
def cs_X7_isSet : List ip_G := []
theorem p_X7_isSet : ip_Pf fl_X7 cn_X7 cs_X7_isSet (some .boolean) tb_X7_isSet 1 C_X7_isSet := ip_pf0 (by
  rintro _ hp K ⟨a, rfl, hK⟩
  refine ⟨Nat.le_of_ble_eq_true rfl, ?_⟩
  refine bz_lt a.toInt 0 (fun h => ?_) (fun h => ?_)
  · exact And.intro rfl (hK false (by simp; omega))
  refine bz_le 64 a.toInt (fun h2 => ?_) (fun h2 => ?_)
  · exact And.intro rfl (hK false (by simp; omega))
  · exact And.intro rfl (hK true (by simp; omega)))
set_option maxRecDepth 100000 in
set_option maxHeartbeats 4000000 in
theorem m_X7_isSet (l : Launch) : ip_Met l yX7_isSet cX7_isSet 1 (some .boolean) (ip_rm 0) C_X7_isSet := ip_met tb_X7_isSet 400 (by decide +kernel) fl_X7_ok cn_X7_ok (ip_cs0) ck_X7_isSet rfl p_X7_isSet
def C_X7_isQuestion : ip_C := fun vs hp K => ∃ a : Int32, vs = [.int a] ∧ ∀ b : Bool, (b = true ↔ 0 ≤ a.toInt ∧ a.toInt < 6) → K (some (.int (ip_bi b))) hp
def cs_X7_isQuestion : List ip_G := []
theorem p_X7_isQuestion : ip_Pf fl_X7 cn_X7 cs_X7_isQuestion (some .boolean) tb_X7_isQuestion 1 C_X7_isQuestion := ip_pf0 (by
  rintro _ hp K ⟨a, rfl, hK⟩
  refine ⟨Nat.le_of_ble_eq_true rfl, ?_⟩
  refine bz_lt a.toInt 0 (fun h => ?_) (fun h => ?_)
  · exact And.intro rfl (hK false (by simp; omega))
  refine bz_le 6 a.toInt (fun h2 => ?_) (fun h2 => ?_)
  · exact And.intro rfl (hK false (by simp; omega))
  · exact And.intro rfl (hK true (by simp; omega)))
set_option maxRecDepth 100000 in
set_option maxHeartbeats 4000000 in
theorem m_X7_isQuestion (l : Launch) : ip_Met l yX7_isQuestion cX7_isQuestion 1 (some .boolean) (ip_rm 0) C_X7_isQuestion := ip_met tb_X7_isQuestion 400 (by decide +kernel) fl_X7_ok cn_X7_ok (ip_cs0) ck_X7_isQuestion rfl p_X7_isQuestion
def C_X7_isWhich : ip_C := fun vs hp K => ∃ a : Int32, vs = [.int a] ∧ ∀ b : Bool, (b = true ↔ 0 ≤ a.toInt ∧ a.toInt < 2) → K (some (.int (ip_bi b))) hp
def cs_X7_isWhich : List ip_G := []
theorem p_X7_isWhich : ip_Pf fl_X7 cn_X7 cs_X7_isWhich (some .boolean) tb_X7_isWhich 1 C_X7_isWhich := ip_pf0 (by
  rintro _ hp K ⟨a, rfl, hK⟩
  refine ⟨Nat.le_of_ble_eq_true rfl, ?_⟩
  refine bz_eq a.toInt 0 (fun h => ?_) (fun h => ?_)
  · exact And.intro rfl (hK true (by simp; omega))
  refine bz_ne a.toInt 1 (fun h2 => ?_) (fun h2 => ?_)
  · exact And.intro rfl (hK false (by simp; omega))
  · exact And.intro rfl (hK true (by simp; omega)))
set_option maxRecDepth 100000 in
set_option maxHeartbeats 4000000 in
theorem m_X7_isWhich (l : Launch) : ip_Met l yX7_isWhich cX7_isWhich 1 (some .boolean) (ip_rm 0) C_X7_isWhich := ip_met tb_X7_isWhich 400 (by decide +kernel) fl_X7_ok cn_X7_ok (ip_cs0) ck_X7_isWhich rfl p_X7_isWhich
/-- holds: bit k of a set of at most six -/
theorem bt_all : ∀ a : Fin 64, ∀ k : Fin 6, ((nI a.val >>> (nI k.val &&& 31)) &&& 1 = 0) ↔ a.val.testBit k.val = false := by decide +kernel
theorem bt_all16 : ∀ a : Fin 16, ∀ k : Fin 4, ((nI a.val >>> (nI k.val &&& 31)) &&& 1 = 0) ↔ a.val.testBit k.val = false := by decide +kernel
def C_X7_holds : ip_C := fun vs hp K => ∃ a k : Nat, a < 64 ∧ k < 6 ∧ vs = [.int (nI a), .int (nI k)] ∧ K (some (.int (ip_bi (a.testBit k)))) hp
def cs_X7_holds : List ip_G := []
theorem p_X7_holds : ip_Pf fl_X7 cn_X7 cs_X7_holds (some .boolean) tb_X7_holds 2 C_X7_holds := ip_pf0 (by
  rintro _ hp K ⟨a, k, ha, hk, rfl, hK⟩
  refine ⟨Nat.le_of_ble_eq_true rfl, ?_⟩
  have hb := bt_all ⟨a, ha⟩ ⟨k, hk⟩
  simp only at hb
  refine And.intro (fun h => ?_) (fun h => ?_)
  · rw [hb.mp h] at hK
    exact And.intro rfl hK
  · rw [ts_t (fun q => h (hb.mpr q))] at hK
    exact And.intro rfl hK)
set_option maxRecDepth 100000 in
set_option maxHeartbeats 4000000 in
theorem m_X7_holds (l : Launch) : ip_Met l yX7_holds cX7_holds 2 (some .boolean) (ip_rm 0) C_X7_holds := ip_met tb_X7_holds 400 (by decide +kernel) fl_X7_ok cn_X7_ok (ip_cs0) ck_X7_holds rfl p_X7_holds
def C_X7_stepsOver : ip_C := fun vs hp K => ∃ a p b : Nat, a ≤ p ∧ p ≤ b ∧ b < 100 ∧ vs = [.int (nI a), .int (nI p), .int (nI b)] ∧ K (some (.int (nI (b - a + min (p - a) (b - p))))) hp
def cs_X7_stepsOver : List ip_G := [(285, 2, 0, C_J9_min)]
theorem p_X7_stepsOver : ip_Pf fl_X7 cn_X7 cs_X7_stepsOver (some .int) tb_X7_stepsOver 3 C_X7_stepsOver := ip_pf0 (by
  rintro _ hp K ⟨a, p, b, h1, h2, h3, rfl, hK⟩
  refine ⟨Nat.le_of_ble_eq_true rfl, ?_⟩
  refine Exists.intro (nI p - nI a) ⟨nI b - nI p, rfl, fun r hr => ?_⟩
  rw [pk_sub h1, pk_sub h2, ti_n (by omega), ti_n (by omega)] at hr
  have e : r = nI (min (p - a) (b - p)) := by rw [fa_eq, hr, ti_n (by omega)]; omega
  rw [← nI_add, ← pk_sub (by omega), ← e] at hK
  exact hK)
set_option maxRecDepth 100000 in
set_option maxHeartbeats 4000000 in
theorem m_X7_stepsOver (l : Launch) : ip_Met l yX7_stepsOver cX7_stepsOver 3 (some .int) (ip_rm 1) C_X7_stepsOver := ip_met tb_X7_stepsOver 400 (by decide +kernel) fl_X7_ok cn_X7_ok (ip_cs1 (ip_gsMin (ip_in [446, 275, 41, 276] (by decide +kernel) (by decide +kernel)) ⟨Nat.le_of_ble_eq_true rfl, Nat.le_of_ble_eq_true rfl⟩) (ip_cs0)) ck_X7_stepsOver rfl p_X7_stepsOver
