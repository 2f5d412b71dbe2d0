/-! ===== the class's calls on sheets ===== -/
theorem up0 (S : Nat → Nat) (x : Nat) {j : Nat} (h : j ≠ 0) : va_up S 0 x j = S j := by simp only [va_up]; rw [if_neg h]
theorem wfH_0 {S : Nat → Nat} (h : wfH S) (x : Nat) : wfH (va_up S 0 x) := fun k hk => by
  rw [up0 S x (by omega), up0 S x (by omega), up0 S x (by omega)]; exact h k hk
theorem fo_0 (S : Nat → Nat) (x k : Nat) (w i n : Int) : fo (va_up S 0 x) k w i n = fo S k w i n := by
  unfold fo
  rw [up0 S x (by omega), up0 S x (by omega), up0 S x (by omega)]
theorem fo_le (S : Nat → Nat) (k : Nat) (w i n : Int) : fo S k w i n ≤ 4 := by
  unfold fo
  split
  · omega
  · split
    · omega
    · split
      · omega
      · split <;> omega
theorem vat_0 (S : Nat → Nat) (G : Nat → Nat → Int32) (x k : Nat) (i : Int) : vat (va_up S 0 x) G k i = vat S G k i := by
  unfold vat
  rw [up0 S x (by omega)]
def q_lose (S : Nat → Nat) (k : Int32) : Int32 × (Nat → Nat) := if ¬ inI k 4 then (-1, S) else (nI (S (10 + nt k)), va_up S (10 + nt k) 0)
def C_X7_lose : ip_C := fun vs hp K => ∃ tc S G, ∃ k : Int32, vs = [.ref 0, .int k] ∧ hp = hpC tc S G ∧ wfC S G ∧ K (some (.int (q_lose S k).1)) (hpC tc (q_lose S k).2 G)
def cs_X7_lose : List ip_G := [(50, 2, 7, C_X7_sheetOf)]
theorem p_X7_lose : ip_Pf fl_X7 cn_X7 cs_X7_lose (some .int) tb_X7_lose 4 C_X7_lose := ip_pf0 (by
  rintro _ _ K ⟨tc, S, G, k, rfl, rfl, hwf, hK⟩
  refine ⟨Nat.le_of_ble_eq_true rfl, ?_⟩
  refine Exists.intro tc ⟨S, G, k, rfl, rfl, fun hn => ?_, fun j hj e => ?_⟩
  · rw [q_lose, if_pos hn] at hK; exact hK
  subst e
  rw [q_lose, if_neg (not_not_intro (inI_n hj (by omega))), nt_n (by omega)] at hK
  obtain ⟨h1, -, -⟩ := hwf.2.1 j hj
  have b0 : ∀ {X Y : Prop}, (S (10 + j) = 0 → X) → (S (10 + j) ≠ 0 → Y) → (nI (S (10 + j)) = 0 → X) ∧ (¬ nI (S (10 + j)) = 0 → Y) := fun f g => pk_eq _ 0 f g
  have k0 : S (10 + j) = 0 → K (some (.int 0)) (hpC tc (va_up S (10 + j) 0) G) := fun h => by
    have hK2 : K (some (.int (nI (S (10 + j))))) (hpC tc (va_up S (10 + j) 0) G) := hK
    rw [h] at hK2; exact hK2
  have k1 : S (10 + j) ≠ 0 → K (some (.int 1)) (hpC tc (va_up S (10 + j) 0) G) := fun h => by
    have hK2 : K (some (.int (nI (S (10 + j))))) (hpC tc (va_up S (10 + j) 0) G) := hK
    rw [show S (10 + j) = 1 by omega] at hK2; exact hK2
  rcases four hj with rfl | rfl | rfl | rfl
  all_goals
    refine And.intro (Or.inl rfl) ?_
    exact b0 k0 k1)
set_option maxRecDepth 100000 in
set_option maxHeartbeats 4000000 in
theorem m_X7_lose (l : Launch) : ip_Met l yX7_lose cX7_lose 4 (some .int) (ip_rm 1) C_X7_lose := ip_met tb_X7_lose 400 (by decide +kernel) fl_X7_ok cn_X7_ok (ip_cs1 (ip_gsV (m_X7_sheetOf l) (ip_in [230, 232, 0, 32, 233] (by decide +kernel) (by decide +kernel)) rfl ⟨by decide +kernel, by decide +kernel, by decide +kernel⟩ ⟨rfl, rfl, Nat.le_of_ble_eq_true rfl, Nat.le_of_ble_eq_true rfl⟩) (ip_cs0)) ck_X7_lose rfl p_X7_lose
def q_sheet (S : Nat → Nat) (G : Nat → Nat → Int32) (k ln n : Int32) : Int32 × (Nat → Nat) × (Nat → Nat → Int32) := if ¬ inI k 4 then (-1, va_up S 0 0, G) else if ¬ inI ln 3 ∨ 60 < n.toInt then (-2, va_up S 0 0, G) else if n.toInt < 0 then (-14, va_up S 0 4, G) else (1, va_up (va_up (va_up (va_up S 0 0) (10 + nt k) 1) (20 + nt k) (nt ln)) (30 + nt k) (nt n), va_up G (nt k) (fa_fill (fun _ => 0) (G (nt k)) 60))
def C_X7_sheet : ip_C := fun vs hp K => ∃ tc S G, ∃ k ln n : Int32, vs = [.ref 0, .int k, .int ln, .int n] ∧ hp = hpC tc S G ∧ wfC S G ∧ K (some (.int (q_sheet S G k ln n).1)) (hpC tc (q_sheet S G k ln n).2.1 (q_sheet S G k ln n).2.2)
def cs_X7_sheet : List ip_G := [(50, 2, 7, C_X7_sheetOf), (54, 1, 0, C_X7_isLane), (62, 2, 7, C_X7_faulty), (232, 3, 5, C_X5_renew)]
set_option maxHeartbeats 4000000 in
theorem p_X7_sheet : ip_Pf fl_X7 cn_X7 cs_X7_sheet (some .int) tb_X7_sheet 5 C_X7_sheet := ip_pf0 (by
  rintro _ _ K ⟨tc, S, G, k, ln, n, rfl, rfl, hwf, hK⟩
  refine ⟨Nat.le_of_ble_eq_true rfl, ?_⟩
  refine Exists.intro tc ⟨va_up S 0 0, G, k, rfl, rfl, fun hn => ?_, fun j hj e => ?_⟩
  · rw [q_sheet, if_pos hn] at hK; exact hK
  subst e
  rw [q_sheet, if_neg (not_not_intro (inI_n hj (by omega))), nt_n (by omega)] at hK
  have hcode : (-10 : Int32) - nI 4 = -14 := by decide
  have k2 : ¬ inI ln 3 ∨ 60 < n.toInt → K (some (.int (-2))) (hpC tc (va_up S 0 0) G) := fun h => by rw [if_pos h] at hK; exact hK
  have k4 : inI ln 3 → ¬ 60 < n.toInt → n.toInt < 0 → K (some (.int (-10 - nI 4))) (hpC tc (va_up (va_up S 0 0) 0 4) G) := fun h h2 h3 => by
    rw [if_neg (fun z => z.elim (fun y => y h) (fun y => h2 y)), if_pos h3] at hK
    rw [hcode, show va_up (va_up S 0 0) 0 4 = va_up S 0 4 from bx_uu S 0 0 4]; exact hK
  have k1 : ∀ l m : Nat, inI ln 3 → ¬ 60 < n.toInt → ¬ n.toInt < 0 → nt ln = l → nt n = m → K (some (.int 1)) (hpC tc (va_up (va_up (va_up (va_up S 0 0) (10 + j) 1) (20 + j) l) (30 + j) m) (va_up G j (fa_fill (fun _ => 0) (G j) 60))) := fun l m h h2 h3 e1 e2 => by
    rw [if_neg (fun z => z.elim (fun y => y h) (fun y => h2 y)), if_neg h3, e1, e2] at hK; exact hK
  clear hK
  refine Exists.intro ln ⟨rfl, fun b hb => ?_⟩
  refine ip_bt (fun h => ?_) (fun h => ?_)
  · exact k2 (Or.inl (fun z => by rw [hb.mpr z] at h; cases h))
  have hl : inI ln 3 := hb.mp h
  refine bz_le n.toInt 60 (fun h2 => ?_) (fun h2 => ?_)
  · refine bz_le 0 n.toInt (fun h3 => ?_) (fun h3 => ?_)
    · obtain ⟨a, ha, rfl, ea⟩ := ti_of hl.1
      obtain ⟨c, hc, rfl, ec⟩ := ti_of h3
      have kk := k1 a c hl (by omega) (by omega) (nt_n ha) (nt_n hc)
      have hc60 : c ≤ 60 := by omega
      rcases four hj with rfl | rfl | rfl | rfl
      all_goals exact Exists.intro tc ⟨va_up S 0 0, G, _, a, c, hj, hc60, rfl, rfl, kk⟩
    · exact Exists.intro tc ⟨va_up S 0 0, G, 4, rfl, rfl, k4 hl (by omega) h3⟩
  · exact k2 (Or.inr h2))
set_option maxRecDepth 100000 in
set_option maxHeartbeats 4000000 in
theorem m_X7_sheet (l : Launch) : ip_Met l yX7_sheet cX7_sheet 5 (some .int) (ip_rm 2) C_X7_sheet := ip_met tb_X7_sheet 400 (by decide +kernel) fl_X7_ok cn_X7_ok (ip_cs1 (ip_gsV (m_X7_sheetOf l) (ip_in [230, 232, 0, 32, 233] (by decide +kernel) (by decide +kernel)) rfl ⟨by decide +kernel, by decide +kernel, by decide +kernel⟩ ⟨rfl, rfl, Nat.le_of_ble_eq_true rfl, Nat.le_of_ble_eq_true rfl⟩) (ip_cs1 (ip_gsS (m_X7_isLane l) (ip_in [234, 235, 32, 236] (by decide +kernel) (by decide +kernel)) ⟨by decide +kernel, by decide +kernel, by decide +kernel⟩ ⟨rfl, rfl, Nat.le_of_ble_eq_true rfl, Nat.le_of_ble_eq_true rfl⟩) (ip_cs1 (ip_gsV (m_X7_faulty l) (ip_in [245, 247, 1, 32, 248] (by decide +kernel) (by decide +kernel)) rfl ⟨by decide +kernel, by decide +kernel, by decide +kernel⟩ ⟨rfl, rfl, Nat.le_of_ble_eq_true rfl, Nat.le_of_ble_eq_true rfl⟩) (ip_cs1 (ip_gsV (m_X5_renew l) (ip_in [549, 550, 551, 38, 552] (by decide +kernel) (by decide +kernel)) rfl ⟨by decide +kernel, by decide +kernel, by decide +kernel⟩ ⟨rfl, rfl, Nat.le_of_ble_eq_true rfl, Nat.le_of_ble_eq_true rfl⟩) (ip_cs0))))) ck_X7_sheet rfl p_X7_sheet
def q_put (S : Nat → Nat) (G : Nat → Nat → Int32) (k i v : Int32) : Int32 × (Nat → Nat) × (Nat → Nat → Int32) := if ¬ inI k 4 then (-1, va_up S 0 0, G) else if fo S (nt k) (S (20 + nt k)) i.toInt 1 ≠ 0 then (-10 - nI (fo S (nt k) (S (20 + nt k)) i.toInt 1), va_up S 0 (fo S (nt k) (S (20 + nt k)) i.toInt 1), G) else (1, va_up S 0 0, va_up G (nt k) (upd (G (nt k)) (nt i) (cut (S (20 + nt k)) v)))
def C_X7_put : ip_C := fun vs hp K => ∃ tc S G, ∃ k i v : Int32, vs = [.ref 0, .int k, .int i, .int v] ∧ hp = hpC tc S G ∧ wfC S G ∧ K (some (.int (q_put S G k i v).1)) (hpC tc (q_put S G k i v).2.1 (q_put S G k i v).2.2)
def cs_X7_put : List ip_G := [(50, 2, 7, C_X7_sheetOf), (58, 4, 5, C_X5_faultOf), (62, 2, 7, C_X7_faulty), (243, 3, 5, C_X5_write)]
theorem fo_zero {S : Nat → Nat} {k : Nat} {w i n : Int} (h : fo S k w i n = 0) : S (10 + k) ≠ 0 ∧ (S (20 + k) : Int) = w ∧ 0 ≤ n ∧ 0 ≤ i ∧ i + n ≤ S (30 + k) := by
  unfold fo at h
  split at h
  · cases h
  · rename_i a
    split at h
    · cases h
    · rename_i b
      split at h
      · cases h
      · rename_i c
        split at h
        · rename_i d
          exact ⟨a, by simpa using b, by omega, d.1, d.2⟩
        · cases h
set_option maxHeartbeats 4000000 in
theorem p_X7_put : ip_Pf fl_X7 cn_X7 cs_X7_put (some .int) tb_X7_put 6 C_X7_put := ip_pf0 (by
  rintro _ _ K ⟨tc, S, G, k, i, v, rfl, rfl, hwf, hK⟩
  refine ⟨Nat.le_of_ble_eq_true rfl, ?_⟩
  refine Exists.intro tc ⟨va_up S 0 0, G, k, rfl, rfl, fun hn => ?_, fun j hj e => ?_⟩
  · rw [q_put, if_pos hn] at hK; exact hK
  subst e
  rw [q_put, if_neg (not_not_intro (inI_n hj (by omega))), nt_n (by omega)] at hK
  obtain ⟨h1, h2, h3⟩ := hwf.2.1 j hj
  have hw0 := wfH_0 hwf.2.1 0
  have e20 := ti_n (n := S (20 + j)) (by omega)
  have one : (1 : Int32).toInt = 1 := by decide
  have ef : fo (va_up S 0 0) j (nI (S (20 + j))).toInt i.toInt (1 : Int32).toInt = fo S j (S (20 + j)) i.toInt 1 := by rw [fo_0, e20, one]
  have hf4 := fo_le S j (S (20 + j)) i.toInt 1
  have b0 : ∀ {X Y : Prop}, (fo S j (S (20 + j)) i.toInt 1 = 0 → X) → (fo S j (S (20 + j)) i.toInt 1 ≠ 0 → Y) → (nI (fo (va_up S 0 0) j (nI (S (20 + j))).toInt i.toInt (1 : Int32).toInt) = 0 → X) ∧ (¬ nI (fo (va_up S 0 0) j (nI (S (20 + j))).toInt i.toInt (1 : Int32).toInt) = 0 → Y) := fun f g => by rw [ef]; exact pk_eq _ 0 f g
  have kf : fo S j (S (20 + j)) i.toInt 1 ≠ 0 → K (some (.int (-10 - nI (fo (va_up S 0 0) j (nI (S (20 + j))).toInt i.toInt (1 : Int32).toInt)))) (hpC tc (va_up (va_up S 0 0) 0 (fo (va_up S 0 0) j (nI (S (20 + j))).toInt i.toInt (1 : Int32).toInt)) G) := fun h => by
    rw [if_pos h] at hK
    rw [ef, show va_up (va_up S 0 0) 0 (fo S j (S (20 + j)) i.toInt 1) = va_up S 0 (fo S j (S (20 + j)) i.toInt 1) from bx_uu S 0 0 _]; exact hK
  have kw : fo S j (S (20 + j)) i.toInt 1 = 0 → K (some (.int 1)) (hpC tc (va_up S 0 0) (va_up G j (upd (G j) i.toNatClampNeg (cut (va_up S 0 0 (20 + j)) v)))) := fun h => by
    rw [if_neg (not_not_intro h)] at hK
    rw [up0 S 0 (by omega)]
    exact hK
  have hr : fo S j (S (20 + j)) i.toInt 1 = 0 → 0 ≤ i.toInt ∧ i.toInt < va_up S 0 0 (30 + j) := fun h => by
    rw [up0 S 0 (by omega)]
    have := fo_zero h
    omega
  clear hK
  rcases four hj with rfl | rfl | rfl | rfl
  all_goals
    refine Exists.intro tc ⟨va_up S 0 0, G, _, _, i, 1, hj, rfl, rfl, hw0, ?_⟩
    refine b0 (fun h => ?_) (fun h => ?_)
    · exact Exists.intro tc ⟨va_up S 0 0, G, _, i, v, hj, rfl, rfl, hw0, (hr h).1, (hr h).2, kw h⟩
    · exact Exists.intro tc ⟨va_up S 0 0, G, _, rfl, rfl, kf h⟩)
set_option maxRecDepth 100000 in
set_option maxHeartbeats 4000000 in
theorem m_X7_put (l : Launch) : ip_Met l yX7_put cX7_put 6 (some .int) (ip_rm 2) C_X7_put := ip_met tb_X7_put 400 (by decide +kernel) fl_X7_ok cn_X7_ok (ip_cs1 (ip_gsV (m_X7_sheetOf l) (ip_in [230, 232, 0, 32, 233] (by decide +kernel) (by decide +kernel)) rfl ⟨by decide +kernel, by decide +kernel, by decide +kernel⟩ ⟨rfl, rfl, Nat.le_of_ble_eq_true rfl, Nat.le_of_ble_eq_true rfl⟩) (ip_cs1 (ip_gsV (m_X5_faultOf l) (ip_in [237, 238, 239, 38, 240] (by decide +kernel) (by decide +kernel)) rfl ⟨by decide +kernel, by decide +kernel, by decide +kernel⟩ ⟨rfl, rfl, Nat.le_of_ble_eq_true rfl, Nat.le_of_ble_eq_true rfl⟩) (ip_cs1 (ip_gsV (m_X7_faulty l) (ip_in [245, 247, 1, 32, 248] (by decide +kernel) (by decide +kernel)) rfl ⟨by decide +kernel, by decide +kernel, by decide +kernel⟩ ⟨rfl, rfl, Nat.le_of_ble_eq_true rfl, Nat.le_of_ble_eq_true rfl⟩) (ip_cs1 (ip_gsV (m_X5_write l) (ip_in [564, 565, 566, 38, 567] (by decide +kernel) (by decide +kernel)) rfl ⟨by decide +kernel, by decide +kernel, by decide +kernel⟩ ⟨rfl, rfl, Nat.le_of_ble_eq_true rfl, Nat.le_of_ble_eq_true rfl⟩) (ip_cs0))))) ck_X7_put rfl p_X7_put
def q_cell (S : Nat → Nat) (G : Nat → Nat → Int32) (k i ln : Int32) : Int64 × (Nat → Nat) := if ¬ inI k 4 ∨ ¬ inI ln 3 then (-9223372036854775808, va_up S 0 0) else if fo S (nt k) ln.toInt i.toInt 1 ≠ 0 then (-9223372036854775808, va_up S 0 (fo S (nt k) ln.toInt i.toInt 1)) else ((vat S G (nt k) i.toInt).toInt64, va_up S 0 0)
def C_X7_cell : ip_C := fun vs hp K => ∃ tc S G, ∃ k i ln : Int32, vs = [.ref 0, .int k, .int i, .int ln] ∧ hp = hpC tc S G ∧ wfC S G ∧ K (some (.long (q_cell S G k i ln).1)) (hpC tc (q_cell S G k i ln).2 G)
def cs_X7_cell : List ip_G := [(50, 2, 7, C_X7_sheetOf), (54, 1, 0, C_X7_isLane), (58, 4, 5, C_X5_faultOf), (181, 2, 5, C_X5_valueAt)]
set_option maxHeartbeats 4000000 in
theorem p_X7_cell : ip_Pf fl_X7 cn_X7 cs_X7_cell (some .long) tb_X7_cell 5 C_X7_cell := ip_pf0 (by
  rintro _ _ K ⟨tc, S, G, k, i, ln, rfl, rfl, hwf, hK⟩
  refine ⟨Nat.le_of_ble_eq_true rfl, ?_⟩
  refine Exists.intro tc ⟨va_up S 0 0, G, k, rfl, rfl, fun hn => ?_, fun j hj e => ?_⟩
  · rw [q_cell, if_pos (Or.inl hn)] at hK; exact hK
  subst e
  have hk4 : inI (nI j) 4 := inI_n hj (by omega)
  have hw0 := wfH_0 hwf.2.1 0
  have one : (1 : Int32).toInt = 1 := by decide
  have ef : fo (va_up S 0 0) j ln.toInt i.toInt (1 : Int32).toInt = fo S j ln.toInt i.toInt 1 := by rw [fo_0, one]
  have hf4 := fo_le S j ln.toInt i.toInt 1
  have k2 : ¬ inI ln 3 → K (some (.long (-9223372036854775808))) (hpC tc (va_up S 0 0) G) := fun h => by rw [q_cell, if_pos (Or.inr h)] at hK; exact hK
  have b0 : ∀ {X Y : Prop}, (fo S j ln.toInt i.toInt 1 ≠ 0 → X) → (fo S j ln.toInt i.toInt 1 = 0 → Y) → (¬ nI (fo (va_up S 0 0) j ln.toInt i.toInt (1 : Int32).toInt) = 0 → X) ∧ (nI (fo (va_up S 0 0) j ln.toInt i.toInt (1 : Int32).toInt) = 0 → Y) := fun f g => by rw [ef]; exact pk_ne _ 0 f g
  have kf : inI ln 3 → fo S j ln.toInt i.toInt 1 ≠ 0 → K (some (.long (-9223372036854775808))) (hpC tc (va_up (va_up S 0 0) 0 (fo (va_up S 0 0) j ln.toInt i.toInt (1 : Int32).toInt)) G) := fun h h2 => by
    rw [q_cell, nt_n (by omega), if_neg (fun z => z.elim (fun y => y hk4) (fun y => y h)), if_pos h2] at hK
    rw [ef, show va_up (va_up S 0 0) 0 (fo S j ln.toInt i.toInt 1) = va_up S 0 (fo S j ln.toInt i.toInt 1) from bx_uu S 0 0 _]; exact hK
  have kw : inI ln 3 → fo S j ln.toInt i.toInt 1 = 0 → K (some (.long (vat (va_up (va_up S 0 0) 0 (fo (va_up S 0 0) j ln.toInt i.toInt (1 : Int32).toInt)) G j i.toInt).toInt64)) (hpC tc (va_up (va_up S 0 0) 0 (fo (va_up S 0 0) j ln.toInt i.toInt (1 : Int32).toInt)) G) := fun h h2 => by
    rw [q_cell, nt_n (by omega), if_neg (fun z => z.elim (fun y => y hk4) (fun y => y h)), if_neg (not_not_intro h2)] at hK
    rw [ef, h2, show va_up (va_up S 0 0) 0 0 = va_up S 0 0 from bx_uu S 0 0 _, vat_0]; exact hK
  have hw1 := wfH_0 hwf.2.1 (fo (va_up S 0 0) j ln.toInt i.toInt (1 : Int32).toInt)
  clear hK
  refine Exists.intro ln ⟨rfl, fun b hb => ?_⟩
  refine ip_bn (fun h => ?_) (fun h => ?_)
  · have hl : inI ln 3 := hb.mp h
    have hw2 : wfH (va_up (va_up S 0 0) 0 (fo (va_up S 0 0) j ln.toInt i.toInt (1 : Int32).toInt)) := wfH_0 hw0 _
    rcases four hj with rfl | rfl | rfl | rfl
    all_goals
      refine Exists.intro tc ⟨va_up S 0 0, G, _, ln, i, 1, hj, rfl, rfl, hw0, ?_⟩
      refine b0 (fun h2 => ?_) (fun h2 => ?_)
      · exact kf hl h2
      · exact Exists.intro tc ⟨va_up (va_up S 0 0) 0 _, G, _, i, hj, rfl, rfl, hw2, kw hl h2⟩
  · exact k2 (fun z => by rw [hb.mpr z] at h; cases h))
set_option maxRecDepth 100000 in
set_option maxHeartbeats 4000000 in
theorem m_X7_cell (l : Launch) : ip_Met l yX7_cell cX7_cell 5 (some .long) (ip_rm 2) C_X7_cell := ip_met tb_X7_cell 400 (by decide +kernel) fl_X7_ok cn_X7_ok (ip_cs1 (ip_gsV (m_X7_sheetOf l) (ip_in [230, 232, 0, 32, 233] (by decide +kernel) (by decide +kernel)) rfl ⟨by decide +kernel, by decide +kernel, by decide +kernel⟩ ⟨rfl, rfl, Nat.le_of_ble_eq_true rfl, Nat.le_of_ble_eq_true rfl⟩) (ip_cs1 (ip_gsS (m_X7_isLane l) (ip_in [234, 235, 32, 236] (by decide +kernel) (by decide +kernel)) ⟨by decide +kernel, by decide +kernel, by decide +kernel⟩ ⟨rfl, rfl, Nat.le_of_ble_eq_true rfl, Nat.le_of_ble_eq_true rfl⟩) (ip_cs1 (ip_gsV (m_X5_faultOf l) (ip_in [237, 238, 239, 38, 240] (by decide +kernel) (by decide +kernel)) rfl ⟨by decide +kernel, by decide +kernel, by decide +kernel⟩ ⟨rfl, rfl, Nat.le_of_ble_eq_true rfl, Nat.le_of_ble_eq_true rfl⟩) (ip_cs1 (ip_gsV (m_X5_valueAt l) (ip_in [369, 256, 257, 38, 258] (by decide +kernel) (by decide +kernel)) rfl ⟨by decide +kernel, by decide +kernel, by decide +kernel⟩ ⟨rfl, rfl, Nat.le_of_ble_eq_true rfl, Nat.le_of_ble_eq_true rfl⟩) (ip_cs0))))) ck_X7_cell rfl p_X7_cell
