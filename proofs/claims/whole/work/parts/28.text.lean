/-! ===== the text of a county: CountyText ===== -/
def isD1 (c : Int32) : Prop := 48 ≤ c.toInt ∧ c.toInt ≤ 54
def isD2 (f c : Int32) : Prop := 48 ≤ c.toInt ∧ c.toInt ≤ (if f.toInt = 54 then 51 else 57)
def C_X1_isFirstDigit : ip_C := fun vs hp K => ∃ c : Int32, vs = [.int c] ∧ ∀ b : Bool, (b = true ↔ isD1 c) → K (some (.int (ip_bi b))) hp
def cs_X1_isFirstDigit : List ip_G := []
theorem p_X1_isFirstDigit : ip_Pf fl_X1 [] cs_X1_isFirstDigit (some .boolean) tb_X1_isFirstDigit 1 C_X1_isFirstDigit := ip_pf0 (by
  rintro _ hp K ⟨c, rfl, hK⟩
  refine ⟨Nat.le_of_ble_eq_true rfl, ?_⟩
  refine bz_lt c.toInt 48 (fun h => ?_) (fun h => ?_)
  · exact And.intro rfl (hK false (by simp [isD1]; omega))
  refine bz_lt 54 c.toInt (fun h2 => ?_) (fun h2 => ?_)
  · exact And.intro rfl (hK false (by simp [isD1]; omega))
  · exact And.intro rfl (hK true (by simp [isD1]; omega)))
set_option maxRecDepth 100000 in
set_option maxHeartbeats 4000000 in
theorem m_X1_isFirstDigit (l : Launch) : ip_Met l yX1_isFirstDigit cX1_isFirstDigit 1 (some .boolean) (ip_rm 0) C_X1_isFirstDigit := ip_met tb_X1_isFirstDigit 400 (by decide +kernel) fl_X1_ok ip_cn0 (ip_cs0) ck_X1_isFirstDigit rfl p_X1_isFirstDigit
def C_X1_isSecondDigit : ip_C := fun vs hp K => ∃ f c : Int32, vs = [.int f, .int c] ∧ ∀ b : Bool, (b = true ↔ isD2 f c) → K (some (.int (ip_bi b))) hp
def cs_X1_isSecondDigit : List ip_G := []
theorem p_X1_isSecondDigit : ip_Pf fl_X1 [] cs_X1_isSecondDigit (some .boolean) tb_X1_isSecondDigit 2 C_X1_isSecondDigit := ip_pf0 (by
  rintro _ hp K ⟨f, c, rfl, hK⟩
  refine ⟨Nat.le_of_ble_eq_true rfl, ?_⟩
  refine bz_lt c.toInt 48 (fun h => ?_) (fun h => ?_)
  · exact And.intro rfl (hK false (by simp [isD2]; omega))
  refine bz_ne f.toInt 54 (fun h2 => ?_) (fun h2 => ?_)
  · refine bz_lt 57 c.toInt (fun h3 => ?_) (fun h3 => ?_)
    · exact And.intro rfl (hK false (by simp [isD2, h2]; omega))
    · exact And.intro rfl (hK true (by simp [isD2, h2]; omega))
  · refine bz_lt 51 c.toInt (fun h3 => ?_) (fun h3 => ?_)
    · exact And.intro rfl (hK false (by simp [isD2, h2]; omega))
    · exact And.intro rfl (hK true (by simp [isD2, h2]; omega)))
set_option maxRecDepth 100000 in
set_option maxHeartbeats 4000000 in
theorem m_X1_isSecondDigit (l : Launch) : ip_Met l yX1_isSecondDigit cX1_isSecondDigit 2 (some .boolean) (ip_rm 0) C_X1_isSecondDigit := ip_met tb_X1_isSecondDigit 400 (by decide +kernel) fl_X1_ok ip_cn0 (ip_cs0) ck_X1_isSecondDigit rfl p_X1_isSecondDigit
def kdB (c : Int32) : Nat := if c.toInt = 115 then 2 else if c.toInt = 98 then 1 else 0
def C_X1_kindBy : ip_C := fun vs hp K => ∃ c : Int32, vs = [.int c] ∧ K (some (.int (nI (kdB c)))) hp
def cs_X1_kindBy : List ip_G := []
theorem p_X1_kindBy : ip_Pf fl_X1 [] cs_X1_kindBy (some .int) tb_X1_kindBy 1 C_X1_kindBy := ip_pf0 (by
  rintro _ hp K ⟨c, rfl, hK⟩
  refine ⟨Nat.le_of_ble_eq_true rfl, ?_⟩
  refine bz_ne c.toInt 115 (fun h => ?_) (fun h => ?_)
  · refine bz_ne c.toInt 98 (fun h2 => ?_) (fun h2 => ?_)
    · rw [kdB, if_neg h, if_neg h2] at hK; exact hK
    · rw [kdB, if_neg h, if_pos h2] at hK; exact hK
  · rw [kdB, if_pos h] at hK; exact hK)
set_option maxRecDepth 100000 in
set_option maxHeartbeats 4000000 in
theorem m_X1_kindBy (l : Launch) : ip_Met l yX1_kindBy cX1_kindBy 1 (some .int) (ip_rm 0) C_X1_kindBy := ip_met tb_X1_kindBy 400 (by decide +kernel) fl_X1_ok ip_cn0 (ip_cs0) ck_X1_kindBy rfl p_X1_kindBy
/-- cell a of a sheet -/
def C_X1_setAt : ip_C := fun vs hp K => ∃ tc S G, ∃ k a : Nat, k < 4 ∧ a + 1 < S (30 + k) ∧ vs = [.ref (2 + 2 * k), .int (nI a)] ∧ hp = hpC tc S G ∧ wfH S ∧ K (some (.int ((G k a - 48) * 10 + G k (a + 1) - 48))) hp
def cs_X1_setAt : List ip_G := [(15, 2, 5, C_X5_valueAt)]
theorem p_X1_setAt : ip_Pf fl_X1 [] cs_X1_setAt (some .int) tb_X1_setAt 2 C_X1_setAt := ip_pf0 (by
  rintro _ _ K ⟨tc, S, G, k, a, hk, ha, rfl, rfl, hwh, hK⟩
  refine ⟨Nat.le_of_ble_eq_true rfl, ?_⟩
  have hz := (hwh k hk).2.2
  have p1 : vat S G k (nI a).toInt = G k a := by rw [ti_n (by omega), vat_in (by omega)]
  have p2 : vat S G k (nI a + 1).toInt = G k (a + 1) := by rw [nI_1, ti_n (by omega), vat_in (by omega)]
  rcases four hk with rfl | rfl | rfl | rfl
  all_goals
    refine Exists.intro tc ⟨S, G, _, _, hk, rfl, rfl, hwh, ?_⟩
    rw [p1]
    refine Exists.intro tc ⟨S, G, _, _, hk, rfl, rfl, hwh, ?_⟩
    rw [p2]
    exact hK)
set_option maxRecDepth 100000 in
set_option maxHeartbeats 4000000 in
theorem m_X1_setAt (l : Launch) : ip_Met l yX1_setAt cX1_setAt 2 (some .int) (ip_rm 2) C_X1_setAt := ip_met tb_X1_setAt 400 (by decide +kernel) fl_X1_ok ip_cn0 (ip_cs1 (ip_gsV (m_X5_valueAt l) (ip_in [255, 256, 257, 38, 258] (by decide +kernel) (by decide +kernel)) rfl ⟨by decide +kernel, by decide +kernel, by decide +kernel⟩ ⟨rfl, rfl, Nat.le_of_ble_eq_true rfl, Nat.le_of_ble_eq_true rfl⟩) (ip_cs0)) ck_X1_setAt rfl p_X1_setAt
/-- whether a text goes on with the code at place t, cells from a on -/
def mgo (c p3 prev : Int32) (r : Nat) : Prop := (r = 0 ∧ c.toInt = 44) ∨ (r = 1 ∧ (c.toInt = 109 ∨ c.toInt = 98 ∨ c.toInt = 115)) ∨ (r = 2 ∧ 48 ≤ c.toInt ∧ c.toInt < p3.toInt) ∨ (r = 3 ∧ isD1 c) ∨ (r = 4 ∧ isD2 prev c)
def C_X1_manGoesOn : ip_C := fun vs hp K => ∃ tc S G, ∃ (k a t : Nat) (c : Int32), k < 4 ∧ 4 ≤ t ∧ t < 24 ∧ a + t < S (30 + k) ∧ vs = [.ref (2 + 2 * k), .int (nI a), .int (nI t), .int c] ∧ hp = hpC tc S G ∧ wfH S ∧ ∀ b : Bool, (b = true ↔ mgo c (G k (a + 3)) (G k (a + t - 1)) ((t - 4) % 5)) → K (some (.int (ip_bi b))) hp
def cs_X1_manGoesOn : List ip_G := [(15, 2, 5, C_X5_valueAt), (25, 1, 0, C_X1_isFirstDigit), (29, 2, 0, C_X1_isSecondDigit)]
set_option maxHeartbeats 4000000 in
theorem p_X1_manGoesOn : ip_Pf fl_X1 [] cs_X1_manGoesOn (some .boolean) tb_X1_manGoesOn 4 C_X1_manGoesOn := ip_pf0 (by
  rintro _ _ K ⟨tc, S, G, k, a, t, c, hk, ht4, ht, hat, rfl, rfl, hwh, hK⟩
  refine ⟨Nat.le_of_ble_eq_true rfl, ?_⟩
  have hz := (hwh k hk).2.2
  have e3 : nI a + 3 = nI (a + 3) := nI_add a 3
  have et : nI a + nI t - 1 = nI (a + t - 1) := by rw [nI_add, show a + t = (a + t - 1) + 1 by omega, nI_pred]; rfl
  have p1 : vat S G k (nI a + 3).toInt = G k (a + 3) := by rw [e3, ti_n (by omega), vat_in (by omega)]
  have p2 : vat S G k (nI a + nI t - 1).toInt = G k (a + t - 1) := by rw [et, ti_n (by omega), vat_in (by omega)]
  have er : nI t - 4 - (nI t - 4) / 5 * 5 = nI ((t - 4) % 5) := by
    rw [show nI t - 4 = nI (t - 4) from pk_sub ht4]
    exact pk_rem (by omega) (by decide) (by decide)
  have hr : (t - 4) % 5 < 5 := Nat.mod_lt _ (by decide)
  have kT : mgo c (G k (a + 3)) (G k (a + t - 1)) ((t - 4) % 5) → K (some (.int 1)) (hpC tc S G) := fun h => hK true (by simp [h])
  have kF : ¬ mgo c (G k (a + 3)) (G k (a + t - 1)) ((t - 4) % 5) → K (some (.int 0)) (hpC tc S G) := fun h => hK false (by simp [h])
  have hsw : ∀ {X0 X1 X2 X3 X4 : Prop}, ((t - 4) % 5 = 0 → X0) → ((t - 4) % 5 = 1 → X1) → ((t - 4) % 5 = 2 → X2) → ((t - 4) % 5 = 3 → X3) → ((t - 4) % 5 = 4 → X4) →
      ((nI t - 4 - (nI t - 4) / 5 * 5).toInt = 0 → X0) ∧ ((nI t - 4 - (nI t - 4) / 5 * 5).toInt ≠ 0 → ((nI t - 4 - (nI t - 4) / 5 * 5).toInt = 0 + 1 → X1) ∧ ((nI t - 4 - (nI t - 4) / 5 * 5).toInt ≠ 0 + 1 → ((nI t - 4 - (nI t - 4) / 5 * 5).toInt = 0 + 1 + 1 → X2) ∧ ((nI t - 4 - (nI t - 4) / 5 * 5).toInt ≠ 0 + 1 + 1 → ((nI t - 4 - (nI t - 4) / 5 * 5).toInt = 0 + 1 + 1 + 1 → X3) ∧ ((nI t - 4 - (nI t - 4) / 5 * 5).toInt ≠ 0 + 1 + 1 + 1 → (((nI t - 4 - (nI t - 4) / 5 * 5).toInt < 0 + 1 + 1 + 1 + 1 ∨ 0 + 1 + 1 + 1 + 1 ≤ (nI t - 4 - (nI t - 4) / 5 * 5).toInt) → X4))))) := fun f0 f1 f2 f3 f4 => by
    rw [er, ti_n (by omega)]
    exact ⟨fun q => f0 (by omega), fun q0 => ⟨fun q => f1 (by omega), fun q1 => ⟨fun q => f2 (by omega), fun q2 => ⟨fun q => f3 (by omega), fun q3 _ => f4 (by omega)⟩⟩⟩⟩
  rcases four hk with rfl | rfl | rfl | rfl
  all_goals
    refine And.intro (by decide) ?_
    refine hsw (fun h => ?_) (fun h => ?_) (fun h => ?_) (fun h => ?_) (fun h => ?_)
    · rw [h] at kT kF
      refine bz_ne c.toInt 44 (fun h1 => ?_) (fun h1 => ?_)
      · exact And.intro rfl (kF (by simp [mgo, h1]))
      · exact And.intro rfl (kT (by simp [mgo, h1]))
    · rw [h] at kT kF
      refine bz_eq c.toInt 109 (fun h1 => ?_) (fun h1 => ?_)
      · exact And.intro rfl (kT (by simp [mgo, h1]))
      refine bz_eq c.toInt 98 (fun h2 => ?_) (fun h2 => ?_)
      · exact And.intro rfl (kT (by simp [mgo, h2]))
      refine bz_ne c.toInt 115 (fun h3 => ?_) (fun h3 => ?_)
      · exact And.intro rfl (kF (by simp [mgo, h1, h2, h3]))
      · exact And.intro rfl (kT (by simp [mgo, h3]))
    · rw [h] at kT kF
      refine bz_lt c.toInt 48 (fun h1 => ?_) (fun h1 => ?_)
      · exact And.intro rfl (kF (by simp [mgo]; omega))
      refine Exists.intro tc ⟨S, G, _, _, hk, rfl, rfl, hwh, ?_⟩
      rw [p1]
      refine bz_le _ c.toInt (fun h2 => ?_) (fun h2 => ?_)
      · exact And.intro rfl (kF (by simp [mgo]; omega))
      · exact And.intro rfl (kT (by simp [mgo]; omega))
    · rw [h] at kT kF
      refine Exists.intro c ⟨rfl, fun b hb => ?_⟩
      refine And.intro (ip_bnar b) ?_
      cases b with
      | false => exact kF (by simp [mgo]; intro q; have := hb.mpr q; cases this)
      | true => exact kT (by simp [mgo]; exact hb.mp rfl)
    · rw [h] at kT kF
      refine Exists.intro tc ⟨S, G, _, _, hk, rfl, rfl, hwh, ?_⟩
      rw [p2]
      refine Exists.intro _ ⟨c, rfl, fun b hb => ?_⟩
      refine And.intro (ip_bnar b) ?_
      cases b with
      | false => exact kF (by simp [mgo]; intro q; have := hb.mpr q; cases this)
      | true => exact kT (by simp [mgo]; exact hb.mp rfl))
set_option maxRecDepth 100000 in
set_option maxHeartbeats 4000000 in
theorem m_X1_manGoesOn (l : Launch) : ip_Met l yX1_manGoesOn cX1_manGoesOn 4 (some .boolean) (ip_rm 2) C_X1_manGoesOn := ip_met tb_X1_manGoesOn 400 (by decide +kernel) fl_X1_ok ip_cn0 (ip_cs1 (ip_gsV (m_X5_valueAt l) (ip_in [255, 256, 257, 38, 258] (by decide +kernel) (by decide +kernel)) rfl ⟨by decide +kernel, by decide +kernel, by decide +kernel⟩ ⟨rfl, rfl, Nat.le_of_ble_eq_true rfl, Nat.le_of_ble_eq_true rfl⟩) (ip_cs1 (ip_gsS (m_X1_isFirstDigit l) (ip_in [262, 263, 40, 264] (by decide +kernel) (by decide +kernel)) ⟨by decide +kernel, by decide +kernel, by decide +kernel⟩ ⟨rfl, rfl, Nat.le_of_ble_eq_true rfl, Nat.le_of_ble_eq_true rfl⟩) (ip_cs1 (ip_gsS (m_X1_isSecondDigit l) (ip_in [265, 266, 40, 267] (by decide +kernel) (by decide +kernel)) ⟨by decide +kernel, by decide +kernel, by decide +kernel⟩ ⟨rfl, rfl, Nat.le_of_ble_eq_true rfl, Nat.le_of_ble_eq_true rfl⟩) (ip_cs0)))) ck_X1_manGoesOn rfl p_X1_manGoesOn
