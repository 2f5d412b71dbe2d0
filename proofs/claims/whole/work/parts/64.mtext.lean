/-! ===== the reference: the text ===== -/
def dgt (c : Int32) (lo hi : Nat) : Prop := 48 + (lo : Int) ≤ c.toInt ∧ c.toInt ≤ 48 + (hi : Int)
theorem dgt_v {c : Int32} (h : (48 : Int) ≤ c.toInt) : c - 48 = nI (nt c - 48) := dg_ok (lo := 0) (hi := 0) h
def C_X8_digit : ip_C := fun vs hp K => ∃ R N, ∃ A E lo hi : Nat, A ≤ E ∧ E ≤ 240 ∧ lo ≤ 100 ∧ hi ≤ 100 ∧ vs = [.ref 0, .int (nI E), .int (nI lo), .int (nI hi)] ∧ hp = hpM R N ∧ R 12 = nI A ∧ (¬ (A < E ∧ dgt (N 3 A) lo hi) → K (some (.int (-9))) hp) ∧ (A < E → dgt (N 3 A) lo hi → K (some (.int (nI (nt (N 3 A) - 48)))) (hpM (va_up R 12 (nI (A + 1))) N))
def cs_X8_digit : List ip_G := [(65, 3, 0, C_X8_within)]
theorem p_X8_digit : ip_Pf fl_X8 cn_X8 cs_X8_digit (some .int) tb_X8_digit 4 C_X8_digit := ip_pf0 (by
  rintro _ _ K ⟨R, N, A, E, lo, hi, hAE, hE, hlo, hhi, rfl, rfl, hR, hK0, hK⟩
  refine ⟨Nat.le_of_ble_eq_true rfl, ?_⟩
  have b1 : ∀ {X Y : Prop}, (E ≤ A → X) → (A < E → Y) → (nI E ≤ R 12 → X) ∧ (¬ nI E ≤ R 12 → Y) := fun f g => by rw [hR]; exact pk_le E A f g
  refine b1 (fun h => ?_) (fun h => ?_)
  · exact hK0 (fun z => by omega)
  have hv : vp_in (R 12) 240 := by rw [hR]; exact pk_in A 240 (by omega)
  have hc : (R 12).toNatClampNeg = A := by rw [hR]; exact nI_clamp (n := A) (by omega)
  refine And.intro hv ?_
  refine Exists.intro (N 3 (R 12).toNatClampNeg) ⟨48 + nI lo, 48 + nI hi, rfl, fun b hb => ?_⟩
  have e1 : ((48 : Int32) + nI lo).toInt = 48 + (lo : Int) := by rw [show (48 : Int32) = nI 48 from rfl, nI_add, ti_n (by omega)]; omega
  have e2 : ((48 : Int32) + nI hi).toInt = 48 + (hi : Int) := by rw [show (48 : Int32) = nI 48 from rfl, nI_add, ti_n (by omega)]; omega
  rw [hc, e1, e2] at hb
  refine ip_bn (fun h1 => ?_) (fun h1 => ?_)
  · have hd : dgt (N 3 A) lo hi := hb.mp h1
    have e3 : R 12 + 1 = nI (A + 1) := by rw [hR]; exact nI_1 A
    have e4 : R 12 + 1 - 1 = nI A := by rw [e3]; exact nI_pred A
    have hv2 : vp_in (R 12 + 1 - 1) 240 := by rw [e4]; exact pk_in A 240 (by omega)
    have e5 : N 3 (R 12 + 1 - 1).toNatClampNeg - 48 = nI (nt (N 3 A) - 48) := by rw [e4, nI_clamp (by omega)]; exact dgt_v (by have := hd.1; omega)
    have hK := hK h hd
    rw [← e5, ← e3] at hK
    refine And.intro hv2 ?_
    exact hK
  · exact hK0 (fun z => by rw [hb.mpr z.2] at h1; cases h1))
set_option maxRecDepth 100000 in
set_option maxHeartbeats 4000000 in
theorem m_X8_digit (l : Launch) : ip_Met l yX8_digit cX8_digit 4 (some .int) (ip_rm 1) C_X8_digit := ip_met tb_X8_digit 400 (by decide +kernel) fl_X8_ok cn_X8_ok (ip_cs1 (ip_gsS (m_X8_within l) (ip_in [716, 717, 39, 718] (by decide +kernel) (by decide +kernel)) ⟨by decide +kernel, by decide +kernel, by decide +kernel⟩ ⟨rfl, rfl, Nat.le_of_ble_eq_true rfl, Nat.le_of_ble_eq_true rfl⟩) (ip_cs0)) ck_X8_digit rfl p_X8_digit
def C_X8_isSign : ip_C := fun vs hp K => ∃ R N, ∃ (A E : Nat) (c : Int32), A ≤ E ∧ E ≤ 240 ∧ vs = [.ref 0, .int (nI E), .int c] ∧ hp = hpM R N ∧ R 12 = nI A ∧ (¬ (A < E ∧ N 3 A = c) → K (some (.int 0)) hp) ∧ (A < E → N 3 A = c → K (some (.int 1)) (hpM (va_up R 12 (nI (A + 1))) N))
def cs_X8_isSign : List ip_G := []
theorem p_X8_isSign : ip_Pf fl_X8 cn_X8 cs_X8_isSign (some .boolean) tb_X8_isSign 3 C_X8_isSign := ip_pf0 (by
  rintro _ _ K ⟨R, N, A, E, c, hAE, hE, rfl, rfl, hR, hK0, hK⟩
  refine ⟨Nat.le_of_ble_eq_true rfl, ?_⟩
  have b1 : ∀ {X Y : Prop}, (E ≤ A → X) → (A < E → Y) → (nI E ≤ R 12 → X) ∧ (¬ nI E ≤ R 12 → Y) := fun f g => by rw [hR]; exact pk_le E A f g
  refine b1 (fun h => ?_) (fun h => ?_)
  · exact And.intro rfl (hK0 (fun z => by omega))
  have hv : vp_in (R 12) 240 := by rw [hR]; exact pk_in A 240 (by omega)
  have hc : (R 12).toNatClampNeg = A := by rw [hR]; exact nI_clamp (n := A) (by omega)
  refine And.intro hv ?_
  have b2 : ∀ {X Y : Prop}, (N 3 A = c → X) → (¬ N 3 A = c → Y) → (N 3 (R 12).toNatClampNeg = c → X) ∧ (¬ N 3 (R 12).toNatClampNeg = c → Y) := fun f g => by rw [hc]; exact ⟨f, g⟩
  refine b2 (fun h1 => ?_) (fun h1 => ?_)
  · have e3 : R 12 + 1 = nI (A + 1) := by rw [hR]; exact nI_1 A
    have hK := hK h h1
    rw [← e3] at hK
    exact And.intro rfl hK
  · exact And.intro rfl (hK0 (fun z => h1 z.2)))
set_option maxRecDepth 100000 in
set_option maxHeartbeats 4000000 in
theorem m_X8_isSign (l : Launch) : ip_Met l yX8_isSign cX8_isSign 3 (some .boolean) (ip_rm 0) C_X8_isSign := ip_met tb_X8_isSign 400 (by decide +kernel) fl_X8_ok cn_X8_ok (ip_cs0) ck_X8_isSign rfl p_X8_isSign
def C_X8_readSet : ip_C := fun vs hp K => ∃ R N, ∃ A E : Nat, A ≤ E ∧ E ≤ 240 ∧ vs = [.ref 0, .int (nI E)] ∧ hp = hpM R N ∧ R 12 = nI A ∧ (¬ (A < E ∧ isD1 (N 3 A)) → K (some (.int (-9))) hp) ∧ (A < E → isD1 (N 3 A) → ¬ (A + 1 < E ∧ isD2 (N 3 A) (N 3 (A + 1))) → K (some (.int (-9))) (hpM (va_up R 12 (nI (A + 1))) N)) ∧ (A < E → isD1 (N 3 A) → A + 1 < E → isD2 (N 3 A) (N 3 (A + 1)) → K (some (.int (nI (sv (N 3 A) (N 3 (A + 1)))))) (hpM (va_up R 12 (nI (A + 2))) N))
def cs_X8_readSet : List ip_G := [(78, 4, 8, C_X8_digit)]
theorem ne9_n {n : Nat} (h : n < 2147483648) : ¬ nI n = -9 := fun z => by
  rw [fa_eq, ti_n h, show (-9 : Int32).toInt = -9 by decide] at z
  omega
theorem p_X8_readSet : ip_Pf fl_X8 cn_X8 cs_X8_readSet (some .int) tb_X8_readSet 4 C_X8_readSet := ip_pf0 (by
  rintro _ _ K ⟨R, N, A, E, hAE, hE, rfl, rfl, hR, hK0, hK1, hK2⟩
  refine ⟨Nat.le_of_ble_eq_true rfl, ?_⟩
  refine Exists.intro R ⟨N, A, E, 0, 6, hAE, hE, by omega, by omega, rfl, rfl, hR, fun hn => ?_, fun h1 h2 => ?_⟩
  · refine And.intro (fun z => absurd rfl z) (fun _ => ?_)
    exact hK0 (fun z => hn ⟨z.1, by have := z.2; unfold isD1 at this; unfold dgt; omega⟩)
  have hd1 : isD1 (N 3 A) := by unfold dgt at h2; unfold isD1; omega
  have l1 : nt (N 3 A) - 48 < 7 := by unfold isD1 at hd1; unfold nt; omega
  refine And.intro (fun _ => ?_) (fun z => absurd z (ne9_n (by omega)))
  have key : ∀ hi : Nat, hi ≤ 100 → (isD2 (N 3 A) (N 3 (A + 1)) ↔ dgt (N 3 (A + 1)) 0 hi) → (¬ (A + 1 < E ∧ dgt (N 3 (A + 1)) 0 hi) → K (some (.int (-9))) (hpM (va_up R 12 (nI (A + 1))) N)) ∧ (A + 1 < E → dgt (N 3 (A + 1)) 0 hi → K (some (.int (10 * nI (nt (N 3 A) - 48) + nI (nt (N 3 (A + 1)) - 48)))) (hpM (va_up (va_up R 12 (nI (A + 1))) 12 (nI (A + 1 + 1))) N)) := fun hi hh hiff => by
    refine ⟨fun hn => hK1 h1 hd1 (fun z => hn ⟨z.1, hiff.mp z.2⟩), fun q1 q2 => ?_⟩
    have := hK2 h1 hd1 q1 (hiff.mpr q2)
    rw [show (10 : Int32) = nI 10 from rfl, pk_mul, nI_add]
    exact this
  clear hK0 hK1 hK2
  have b1 : ∀ {X Y : Prop}, (nt (N 3 A) - 48 ≠ 6 → X) → (nt (N 3 A) - 48 = 6 → Y) → (¬ nI (nt (N 3 A) - 48) = 6 → X) ∧ (nI (nt (N 3 A) - 48) = 6 → Y) := fun f g => pk_ne _ 6 f g
  have l2 : ∀ hi : Nat, hi ≤ 9 → dgt (N 3 (A + 1)) 0 hi → nt (N 3 (A + 1)) - 48 < 10 := fun hi q q2 => by unfold dgt at q2; unfold nt; omega
  refine b1 (fun h3 => ?_) (fun h3 => ?_)
  · obtain ⟨k1, k2⟩ := key 9 (by omega) (by
      have : (N 3 A).toInt ≠ 54 := fun z => h3 (by unfold nt; rw [z]; rfl)
      unfold isD2 dgt
      rw [if_neg this]
      omega)
    refine Exists.intro (va_up R 12 (nI (A + 1))) ⟨N, A + 1, E, 0, 9, by omega, hE, by omega, by omega, rfl, rfl, rfl, fun hn => ?_, fun q1 q2 => ?_⟩
    · refine And.intro (fun z => absurd rfl z) (fun _ => k1 hn)
    · have := l2 9 (by omega) q2
      refine And.intro (fun _ => k2 q1 q2) (fun z => absurd z (ne9_n (by omega)))
  · obtain ⟨k1, k2⟩ := key 3 (by omega) (by
      have : (N 3 A).toInt = 54 := by unfold isD1 at hd1; unfold nt at h3; omega
      unfold isD2 dgt
      rw [if_pos this]
      omega)
    refine Exists.intro (va_up R 12 (nI (A + 1))) ⟨N, A + 1, E, 0, 3, by omega, hE, by omega, by omega, rfl, rfl, rfl, fun hn => ?_, fun q1 q2 => ?_⟩
    · refine And.intro (fun z => absurd rfl z) (fun _ => k1 hn)
    · have := l2 3 (by omega) q2
      refine And.intro (fun _ => k2 q1 q2) (fun z => absurd z (ne9_n (by omega))))
set_option maxRecDepth 100000 in
set_option maxHeartbeats 4000000 in
theorem m_X8_readSet (l : Launch) : ip_Met l yX8_readSet cX8_readSet 4 (some .int) (ip_rm 2) C_X8_readSet := ip_met tb_X8_readSet 400 (by decide +kernel) fl_X8_ok cn_X8_ok (ip_cs1 (ip_gsV (m_X8_digit l) (ip_in [742, 744, 14, 39, 745] (by decide +kernel) (by decide +kernel)) rfl ⟨by decide +kernel, by decide +kernel, by decide +kernel⟩ ⟨rfl, rfl, Nat.le_of_ble_eq_true rfl, Nat.le_of_ble_eq_true rfl⟩) (ip_cs0)) ck_X8_readSet rfl p_X8_readSet
