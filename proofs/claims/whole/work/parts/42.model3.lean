/-! ===== the reference: sets, counts ===== -/
theorem prS_0 (S : Nat → Nat) (p : Nat) : prS S 0 p = fun m => S (50 + m) == p := by funext m; simp [prS]
def dgpM (S : Nat → Nat) (sl p : Nat) : Nat := dgs S (prS S sl p)
theorem dgpM_0 (S : Nat → Nat) (p : Nat) : dgpM S 0 p = dgp S p := by unfold dgpM dgp; rw [prS_0]
def C_X8_dangersOf : ip_C := fun vs hp K => ∃ R N S, ∃ p sl : Nat, p < 2147483648 ∧ sl < 16 ∧ vs = [.ref 0, .int (nI p)] ∧ hp = hpM R N ∧ wfM S ∧ relM S R N sl ∧ K (some (.int (nI (dgpM S sl p)))) hp
def cs_X8_dangersOf : List ip_G := [(147, 3, 8, C_X8_isHeld)]
def I_X8_dangersOf (R : Nat → Int32) (N : Nat → Nat → Int32) (S : Nat → Nat) (p sl : Nat) : Nat → Nat → ip_P := fun pc k L st hp => pc = 4 ∧ ∃ (q : Nat) (x y : Int32), q ≤ 6 ∧ k = 6 - q ∧ L = [some (.ref 0), some (.int (nI p)), some (.int x), some (.int y)] ∧ st = [] ∧ hp = hpM R N ∧ x = nI (bs q (fun q => !heldS S (prS S sl p) q)) ∧ y = nI q
theorem p_X8_dangersOf : ip_Pf fl_X8 cn_X8 cs_X8_dangersOf (some .int) tb_X8_dangersOf 4 C_X8_dangersOf := by
  rintro _ _ K ⟨R, N, S, p, sl, hp0, hsl, rfl, rfl, hwf, hrel, hK⟩
  refine ⟨Nat.le_of_ble_eq_true rfl, I_X8_dangersOf R N S p sl, ?_, ?_⟩
  · exact Exists.intro 6 ⟨trivial, rfl, 0, _, _, by omega, rfl, rfl, rfl, rfl, rfl, rfl⟩
  · rintro pc k L st hp ⟨rfl, q, x, y, hq, rfl, rfl, rfl, rfl, rfl, rfl⟩
    refine pk_le 6 q (fun h => ?_) (fun h => ?_)
    · obtain rfl : q = 6 := by omega
      exact hK
    have hb := bs_lt (fun q => !heldS S (prS S sl p) q) q
    refine Exists.intro R ⟨N, S, p, q, sl, hp0, h, hsl, rfl, rfl, hwf, hrel, ?_⟩
    refine ip_bt (fun h3 => ?_) (fun h3 => ?_)
    · exact Exists.intro (6 - (q + 1)) ⟨by show _ < _; omega, rfl, q + 1, _, _, by omega, rfl, rfl, rfl, rfl, by rw [or_bit hb (by omega)]; simp [bs, h3], nI_1 q⟩
    · have e0 : nI (bs q (fun q => !heldS S (prS S sl p) q)) ||| 0 = nI (bs q (fun q => !heldS S (prS S sl p) q)) := by rw [show (0 : Int32) = nI 0 from rfl, fa_or, Nat.or_zero]
      exact Exists.intro (6 - (q + 1)) ⟨by show _ < _; omega, rfl, q + 1, _, _, by omega, rfl, rfl, rfl, rfl, by rw [e0]; simp [bs, h3], nI_1 q⟩
set_option maxRecDepth 100000 in
set_option maxHeartbeats 4000000 in
theorem m_X8_dangersOf (l : Launch) : ip_Met l yX8_dangersOf cX8_dangersOf 4 (some .int) (ip_rm 3) C_X8_dangersOf := ip_met tb_X8_dangersOf 400 (by decide +kernel) fl_X8_ok cn_X8_ok (ip_cs1 (ip_gsV (m_X8_isHeld l) (ip_in [796, 798, 20, 39, 799] (by decide +kernel) (by decide +kernel)) rfl ⟨by decide +kernel, by decide +kernel, by decide +kernel⟩ ⟨rfl, rfl, Nat.le_of_ble_eq_true rfl, Nat.le_of_ble_eq_true rfl⟩) (ip_cs0)) ck_X8_dangersOf rfl p_X8_dangersOf
def C_X8_size : ip_C := fun vs hp K => ∃ a : Nat, a < 64 ∧ vs = [.int (nI a)] ∧ K (some (.int (nI (pc6 a)))) hp
def cs_X8_size : List ip_G := []
def I_X8_size (a : Nat) (hp0 : ip_H) : Nat → Nat → ip_P := fun pc k L st hp => pc = 4 ∧ ∃ (t : Nat) (x y : Int32), t ≤ 6 ∧ k = 6 - t ∧ L = [some (.int (nI a)), some (.int x), some (.int y)] ∧ st = [] ∧ hp = hp0 ∧ x = nI (fb_ct (fun i => a.testBit i) t) ∧ y = nI (a / 2 ^ t)
theorem half_ok : ∀ a : Fin 64, nI a.val >>> ((1 : Int32) &&& 31) = nI (a.val / 2) ∧ nI a.val &&& 1 = nI (a.val % 2) := by decide +kernel
theorem p_X8_size : ip_Pf fl_X8 cn_X8 cs_X8_size (some .int) tb_X8_size 3 C_X8_size := by
  rintro _ hp0 K ⟨a, ha, rfl, hK⟩
  refine ⟨Nat.le_of_ble_eq_true rfl, I_X8_size a hp0, ?_, ?_⟩
  · exact Exists.intro 6 ⟨trivial, rfl, 0, _, _, by omega, rfl, rfl, rfl, rfl, rfl, by rw [Nat.pow_zero, Nat.div_one]⟩
  · rintro pc k L st hp ⟨rfl, t, x, y, ht, rfl, rfl, rfl, rfl, rfl, rfl⟩
    have hl : a / 2 ^ t < 64 := Nat.lt_of_le_of_lt (Nat.div_le_self _ _) ha
    refine pk_le (a / 2 ^ t) 0 (fun h => ?_) (fun h => ?_)
    · have hz : a / 2 ^ t = 0 := Nat.le_zero.mp h
      have hlt : a < 2 ^ t := by
        rcases Nat.lt_or_ge a (2 ^ t) with q | q
        · exact q
        · exact absurd hz (Nat.ne_of_gt (Nat.div_pos q (Nat.pow_pos (by decide))))
      have e : pc6 a = fb_ct (fun i => a.testBit i) t := by
        unfold pc6
        rw [show 6 = t + (6 - t) by omega, fb_ct_split]
        have : fb_ct (fun k => a.testBit (t + k)) (6 - t) = 0 := fb_ct_zero.mpr (fun k _ => Nat.testBit_lt_two_pow (Nat.lt_of_lt_of_le hlt (Nat.pow_le_pow_right (by decide) (by omega))))
        omega
      rw [e] at hK
      exact hK
    · have ht6 : t < 6 := by
        rcases Nat.lt_or_ge t 6 with q | q
        · exact q
        · obtain rfl : t = 6 := by omega
          have : a / 2 ^ 6 = 0 := Nat.div_eq_of_lt ha
          rw [this] at h
          exact absurd h (Nat.lt_irrefl 0)
      obtain ⟨e1, e2⟩ := half_ok ⟨a / 2 ^ t, hl⟩
      simp only at e1 e2
      refine Exists.intro (6 - (t + 1)) ⟨by show _ < _; omega, rfl, t + 1, _, _, by omega, rfl, rfl, rfl, rfl, ?_, ?_⟩
      · rw [e2, nI_add, fb_ct_succ]
        congr 2
        rw [Nat.testBit_eq_decide_div_mod_eq]
        have : a / 2 ^ t % 2 < 2 := Nat.mod_lt _ (by decide)
        by_cases hb : a / 2 ^ t % 2 = 1
        · simp [hb]
        · simp [hb]; omega
      · rw [e1, Nat.div_div_eq_div_mul, Nat.pow_succ]
set_option maxRecDepth 100000 in
set_option maxHeartbeats 4000000 in
theorem m_X8_size (l : Launch) : ip_Met l yX8_size cX8_size 3 (some .int) (ip_rm 0) C_X8_size := ip_met tb_X8_size 400 (by decide +kernel) fl_X8_ok cn_X8_ok (ip_cs0) ck_X8_size rfl p_X8_size
def wfT' (S : Nat → Nat) (R : Nat → Int32) (N : Nat → Nat → Int32) (n : Nat) : Prop := R 17 = nI n ∧ n ≤ 20 ∧ ∀ t, t < n → N 8 t = nI (pN (N 8) t) ∧ pN (N 8) t < 6 ∧ N 9 t = nI (pN (N 9) t) ∧ pN (N 9) t < 6
def stM (S : Nat → Nat) (N : Nat → Nat → Int32) (t : Nat) : Bool := stk S (pN (N 8) t) (pN (N 9) t)
theorem stk_held (S : Nat → Nat) (p q : Nat) : heldS S (prS S 0 p) q = !stk S p q := by unfold stk; rw [prS_0]; simp
def C_X8_strikesNow : ip_C := fun vs hp K => ∃ R N S, ∃ n : Nat, vs = [.ref 0] ∧ hp = hpM R N ∧ wfM S ∧ relM S R N 0 ∧ wfT' S R N n ∧ K (some (.int (nI (fb_ct (stM S N) n)))) hp
def cs_X8_strikesNow : List ip_G := [(147, 3, 8, C_X8_isHeld)]
def I_X8_strikesNow (R : Nat → Int32) (N : Nat → Nat → Int32) (S : Nat → Nat) (n : Nat) : Nat → Nat → ip_P := fun pc k L st hp => pc = 4 ∧ ∃ (t : Nat) (x y : Int32), t ≤ n ∧ k = n - t ∧ L = [some (.ref 0), some (.int x), some (.int y)] ∧ st = [] ∧ hp = hpM R N ∧ x = nI (fb_ct (stM S N) t) ∧ y = nI t
theorem p_X8_strikesNow : ip_Pf fl_X8 cn_X8 cs_X8_strikesNow (some .int) tb_X8_strikesNow 3 C_X8_strikesNow := by
  rintro _ _ K ⟨R, N, S, n, rfl, rfl, hwf, hrel, ⟨t0, t1, t2⟩, hK⟩
  refine ⟨Nat.le_of_ble_eq_true rfl, I_X8_strikesNow R N S n, ?_, ?_⟩
  · exact Exists.intro n ⟨trivial, rfl, 0, _, _, by omega, rfl, rfl, rfl, rfl, rfl, rfl⟩
  · rintro pc k L st hp ⟨rfl, t, x, y, ht, rfl, rfl, rfl, rfl, rfl, rfl⟩
    have b7 : ∀ {X Y : Prop}, (n ≤ t → X) → (t < n → Y) → (R 17 ≤ nI t → X) ∧ (¬ R 17 ≤ nI t → Y) := fun f g => by rw [t0]; exact pk_le n t f g
    refine b7 (fun h => ?_) (fun h => ?_)
    · obtain rfl : t = n := by omega
      exact hK
    obtain ⟨e1, e2, e3, e4⟩ := t2 t h
    have hc := nI_clamp (n := t) (by omega)
    refine And.intro (pk_in t 20 (by omega)) ?_
    refine And.intro (pk_in t 20 (by omega)) ?_
    refine Exists.intro R ⟨N, S, pN (N 8) t, pN (N 9) t, 0, by omega, e4, by decide, (by show [Value.ref 0, .int (N 8 (nI t).toNatClampNeg), .int (N 9 (nI t).toNatClampNeg)] = _; rw [hc, ← e1, ← e3]), rfl, hwf, hrel, ?_⟩
    rw [stk_held]
    have hs : stM S N t = stk S (pN (N 8) t) (pN (N 9) t) := rfl
    refine ip_bt (fun h3 => ?_) (fun h3 => ?_)
    · have h3 : stk S (pN (N 8) t) (pN (N 9) t) = true := by simpa using h3
      exact Exists.intro (n - (t + 1)) ⟨by show _ < _; omega, rfl, t + 1, _, _, by omega, rfl, rfl, rfl, rfl, by rw [fb_ct_succ, hs, h3, nI_1]; simp, nI_1 t⟩
    · have h3 : stk S (pN (N 8) t) (pN (N 9) t) = false := by simpa using h3
      have e0 : nI (fb_ct (stM S N) t) + 0 = nI (fb_ct (stM S N) t) := by rw [show (0 : Int32) = nI 0 from rfl, nI_add, Nat.add_zero]
      exact Exists.intro (n - (t + 1)) ⟨by show _ < _; omega, rfl, t + 1, _, _, by omega, rfl, rfl, rfl, rfl, by rw [e0, fb_ct_succ, hs, h3]; simp, nI_1 t⟩
set_option maxRecDepth 100000 in
set_option maxHeartbeats 4000000 in
theorem m_X8_strikesNow (l : Launch) : ip_Met l yX8_strikesNow cX8_strikesNow 3 (some .int) (ip_rm 3) C_X8_strikesNow := ip_met tb_X8_strikesNow 400 (by decide +kernel) fl_X8_ok cn_X8_ok (ip_cs1 (ip_gsV (m_X8_isHeld l) (ip_in [796, 798, 20, 39, 799] (by decide +kernel) (by decide +kernel)) rfl ⟨by decide +kernel, by decide +kernel, by decide +kernel⟩ ⟨rfl, rfl, Nat.le_of_ble_eq_true rfl, Nat.le_of_ble_eq_true rfl⟩) (ip_cs0)) ck_X8_strikesNow rfl p_X8_strikesNow
/-- the reference's readings are the system's -/
def relR (S : Nat → Nat) (G : Nat → Nat → Int32) (R : Nat → Int32) (N : Nat → Nat → Int32) : Prop := R 24 = nI (S 4) ∧ N 14 = G 4 ∧ N 15 = G 5 ∧ N 16 = G 6
def C_X8_areSo : ip_C := fun vs hp K => ∃ R N S G, vs = [.ref 0] ∧ hp = hpM R N ∧ wfM S ∧ wfR S G ∧ relM S R N 0 ∧ relR S G R N ∧ K (some (.int (ip_bi (allSo S G)))) hp
def cs_X8_areSo : List ip_G := [(147, 3, 8, C_X8_isHeld)]
def I_X8_areSo (R : Nat → Int32) (N : Nat → Nat → Int32) (S : Nat → Nat) (G : Nat → Nat → Int32) : Nat → Nat → ip_P := fun pc k L st hp => pc = 2 ∧ ∃ (t : Nat) (y : Int32), t ≤ S 4 ∧ k = 8 - t ∧ L = [some (.ref 0), some (.int y)] ∧ st = [] ∧ hp = hpM R N ∧ y = nI t ∧ anyb t (fun r => !isSo S G r) = false
theorem p_X8_areSo : ip_Pf fl_X8 cn_X8 cs_X8_areSo (some .boolean) tb_X8_areSo 2 C_X8_areSo := by
  rintro _ _ K ⟨R, N, S, G, rfl, rfl, hwf, ⟨t0, t1⟩, hrel, ⟨rr, g4, g5, g6⟩, hK⟩
  refine ⟨Nat.le_of_ble_eq_true rfl, I_X8_areSo R N S G, ?_, ?_⟩
  · exact Exists.intro 8 ⟨trivial, rfl, 0, _, by omega, rfl, rfl, rfl, rfl, rfl, rfl⟩
  · rintro pc k L st hp ⟨rfl, t, y, ht, rfl, rfl, rfl, rfl, rfl, hno⟩
    have b7 : ∀ {X Y : Prop}, (S 4 ≤ t → X) → (t < S 4 → Y) → (R 24 ≤ nI t → X) ∧ (¬ R 24 ≤ nI t → Y) := fun f g => by rw [rr]; exact pk_le (S 4) t f g
    refine b7 (fun h => ?_) (fun h => ?_)
    · obtain rfl : t = S 4 := by omega
      rw [allSo, hno] at hK
      exact And.intro rfl hK
    obtain ⟨e1, e2, e3, e4, e5⟩ := t1 t h
    have hc := nI_clamp (n := t) (by omega)
    refine And.intro (pk_in t 8 (by omega)) ?_
    refine And.intro (pk_in t 8 (by omega)) ?_
    refine Exists.intro R ⟨N, S, pN (G 4) t, pN (G 5) t, 0, by omega, e4, by decide, (by show [Value.ref 0, .int (N 14 (nI t).toNatClampNeg), .int (N 15 (nI t).toNatClampNeg)] = _; rw [hc, g4, g5, ← e1, ← e3]), rfl, hwf, hrel, ?_⟩
    refine And.intro (pk_in t 8 (by omega)) ?_
    have hso : (¬ ip_bi (heldS S (prS S 0 (pN (G 4) t)) (pN (G 5) t)) = N 16 (nI t).toNatClampNeg) ↔ isSo S G t = true := by
      rw [hc, g6, isSo, stk_held]
      rcases e5 with e5 | e5 <;> rw [e5] <;> cases stk S (pN (G 4) t) (pN (G 5) t) <;> decide
    refine And.intro (fun h3 => ?_) (fun h3 => ?_)
    · exact Exists.intro (8 - (t + 1)) ⟨by show _ < _; omega, rfl, t + 1, _, by omega, rfl, rfl, rfl, rfl, nI_1 t, by rw [anyb, hno, hso.mp h3]; rfl⟩
    · have h4 : isSo S G t = false := by
        cases h5 : isSo S G t
        · rfl
        · exact absurd h3 (hso.mpr h5)
      rw [allSo, anyb_true (i := t) h (by rw [h4]; rfl)] at hK
      exact And.intro rfl hK
set_option maxRecDepth 100000 in
set_option maxHeartbeats 4000000 in
theorem m_X8_areSo (l : Launch) : ip_Met l yX8_areSo cX8_areSo 2 (some .boolean) (ip_rm 3) C_X8_areSo := ip_met tb_X8_areSo 400 (by decide +kernel) fl_X8_ok cn_X8_ok (ip_cs1 (ip_gsV (m_X8_isHeld l) (ip_in [796, 798, 20, 39, 799] (by decide +kernel) (by decide +kernel)) rfl ⟨by decide +kernel, by decide +kernel, by decide +kernel⟩ ⟨rfl, rfl, Nat.le_of_ble_eq_true rfl, Nat.le_of_ble_eq_true rfl⟩) (ip_cs0)) ck_X8_areSo rfl p_X8_areSo
