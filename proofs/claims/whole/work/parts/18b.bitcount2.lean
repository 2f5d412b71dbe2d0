theorem mk8_55 : mk8 85 8 = 6148914691236517205 ∧ mk8 51 8 = 3689348814741910323 ∧ mk8 15 8 = 1085102592571150095 := by decide +kernel
def lus (x : Int64) (s : Int32) : Int64 := (x.toUInt64 >>> (s.toInt64.toUInt64 &&& Int64.toUInt64 63)).toInt64
def lcA (x : Int64) : Int64 := x - (lus x 1 &&& 6148914691236517205)
def lcB (x : Int64) : Int64 := (x &&& 3689348814741910323) + (lus x 2 &&& 3689348814741910323)
def lcC (x : Int64) : Int64 := (x + lus x 4) &&& 1085102592571150095
def lcD (x : Int64) : Int64 := x + lus x 8
def lcE (x : Int64) : Int64 := x + lus x 16
def lcF (x : Int64) : Int64 := x + lus x 32
theorem lus_n {n k : Nat} (hn : n < 2 ^ 64) (hk : k < 64) : lus (lN n) (nI k) = lN (n / 2 ^ k) := wb_shr hn hk
theorem bA_le (n : Nat) : bA 8 n ≤ n := Nat.sub_le _ _
theorem bB_le (n : Nat) : bB 8 n ≤ n + n / 4 := by unfold bB; exact Nat.add_le_add (and_le _ _) (and_le _ _)
theorem lc_all {n : Nat} (hn : n < 2 ^ 64) : ∃ x y z w : Nat, x = bT 8 n ∧ y = x + x / 256 ∧ z = y + y / 65536 ∧ w = z + z / 4294967296 ∧ lcF (lcE (lcD (lcC (lcB (lcA (lN n)))))) = lN w := by
  obtain ⟨m1, m2, m3⟩ := mk8_55
  have hA : lcA (lN n) = lN (bA 8 n) := by
    have h1 : lus (lN n) 1 = lN (n / 2) := lus_n (k := 1) hn (by decide)
    unfold lcA bA
    rw [h1, m1]
    show lN n - (lN (n / 2) &&& lN 6148914691236517205) = _
    rw [wb_and (by omega) (by decide), lN_sub (Nat.le_trans (and_le _ _) (by omega))]
  have ha := bA_le n
  generalize hA2 : bA 8 n = a at hA ha
  have hal : a < 2 ^ 64 := by omega
  have hB : lcB (lN a) = lN (bB 8 a) := by
    have h1 : lus (lN a) 2 = lN (a / 4) := lus_n (k := 2) hal (by decide)
    unfold lcB bB
    rw [h1, m2]
    show (lN a &&& lN 3689348814741910323) + (lN (a / 4) &&& lN 3689348814741910323) = _
    rw [wb_and hal (by decide), wb_and (by omega) (by decide), lN_add]
  have hbl : bB 8 a ≤ 7378697629483820646 := by
    unfold bB
    rw [m2]
    have u1 : a &&& 3689348814741910323 ≤ 3689348814741910323 := Nat.and_le_right
    have u2 : a / 4 &&& 3689348814741910323 ≤ 3689348814741910323 := Nat.and_le_right
    omega
  generalize hB2 : bB 8 a = b at hB hbl
  have hC : lcC (lN b) = lN (bC 8 b) := by
    have h1 : lus (lN b) 4 = lN (b / 16) := lus_n (k := 4) (by omega) (by decide)
    unfold lcC bC
    rw [h1, m3, lN_add]
    show lN (b + b / 16) &&& lN 1085102592571150095 = _
    rw [wb_and (by omega) (by decide)]
  have hcl : bC 8 b ≤ 1085102592571150095 := by
    unfold bC
    rw [m3]
    exact Nat.and_le_right
  refine ⟨bT 8 n, _, _, _, rfl, rfl, rfl, rfl, ?_⟩
  have hT : bT 8 n = bC 8 b := by unfold bT; rw [hA2, hB2]
  rw [hA, hB, hC, ← hT]
  rw [← hT] at hcl
  generalize bT 8 n = x at hcl
  have hD : lcD (lN x) = lN (x + x / 256) := by
    have h1 : lus (lN x) 8 = lN (x / 256) := lus_n (k := 8) (by omega) (by decide)
    unfold lcD
    rw [h1, lN_add]
  rw [hD]
  have hE : ∀ y, y < 2 ^ 62 → lcE (lN y) = lN (y + y / 65536) := fun y hy => by
    have h1 : lus (lN y) 16 = lN (y / 65536) := lus_n (k := 16) (by omega) (by decide)
    unfold lcE
    rw [h1, lN_add]
  have hF : ∀ y, y < 2 ^ 62 → lcF (lN y) = lN (y + y / 4294967296) := fun y hy => by
    have h1 : lus (lN y) 32 = lN (y / 4294967296) := lus_n (k := 32) (by omega) (by decide)
    unfold lcF
    rw [h1, lN_add]
  rw [hE _ (by omega), hF _ (by omega)]
def C_J13_bitCount : ip_C := fun vs hp K => ∃ n : Nat, n < 2 ^ 64 ∧ vs = [.long (lN n)] ∧ K (some (.int (nI (fb_ct (fun i => n.testBit i) 64)))) hp
def cs_J13_bitCount : List ip_G := []
theorem p_J13_bitCount : ip_Pf [] cn_J13 cs_J13_bitCount (some .int) tb_J13_bitCount_95d88 2 C_J13_bitCount := ip_pf0 (by
  rintro _ hp K ⟨n, hn, rfl, hK⟩
  refine ⟨Nat.le_of_ble_eq_true rfl, ?_⟩
  obtain ⟨x, y, z, w, hx, hy, hz, hw, h⟩ := lc_all hn
  have e := bT_8 n hn x y z w hx hy hz hw
  have e2 : (lcF (lcE (lcD (lcC (lcB (lcA (lN n))))))).toInt32 &&& 127 = nI (fb_ct (fun i => n.testBit i) 64) := by
    rw [h, lN_i]
    have := fa_mask w 7
    rw [show (2 ^ 7 - 1 : Nat) = 127 from rfl, show (2 ^ 7 : Nat) = 128 from rfl, e] at this
    exact this
  rw [← e2] at hK
  exact hK)
set_option maxRecDepth 100000 in
set_option maxHeartbeats 4000000 in
theorem m_J13_bitCount (l : Launch) : ip_Met l yJ13_bitCount_95d88 cJ13_bitCount_95d88 2 (some .int) (ip_rm 0) C_J13_bitCount := ip_met tb_J13_bitCount_95d88 400 (by decide +kernel) ip_fl0 cn_J13_ok (ip_cs0) ck_J13_bitCount_95d88 rfl p_J13_bitCount
