/-! ===== teach, worth, worst, odds, fair ===== -/
def lesP (S : Nat → Nat) (G : Nat → Nat → Int32) (k a n m s : Nat) : Bool := decide (S (60 + m) &&& s = 0) && !anyb n (fun t => stP (va_up S (60 + m) (S (60 + m) ||| s)) G k a t)
def q_teach (S : Nat → Nat) (G : Nat → Nat → Int32) (m sh ln i n : Int32) : Int32 × Nat := if ¬ inI m (S 3) then (-1, 0) else if (hsR S G sh ln i n true).1 ≠ 0 then hsR S G sh ln i n true else (ob (fqB (lesP S G (nt sh) (nt i) (nt n) (nt m)) 64), 0)
def C_X7_teach : ip_C := fun vs hp K => ∃ tc S G, ∃ (m sh ln i n : Int32), vs = [.ref 0, .int m, .int sh, .int ln, .int i, .int n] ∧ hp = hpC tc S G ∧ wfC S G ∧ ∀ x f g, K (some (.int (q_teach S G m sh ln i n).1)) (hpC tc (va_up (va_up S 0 (q_teach S G m sh ln i n).2) 5 x) (va_up (va_up G 7 f) 8 g))
def cs_X7_teach : List ip_G := [(82, 2, 1, C_X0_manOf), (129, 6, 7, C_X7_hearStorm), (153, 2, 7, C_X7_lessons), (157, 1, 0, C_X7_fewestQuestions)]
theorem fqB_cong {f g : Nat → Bool} : ∀ {n : Nat}, (∀ i, i < n → f i = g i) → fqB f n = fqB g n
  | 0, _ => rfl
  | n + 1, h => by simp only [fqB]; rw [fqB_cong (fun i hi => h i (by omega)), h n (by omega)]
theorem hsR_0 (S : Nat → Nat) (G : Nat → Nat → Int32) (x : Nat) (sh ln i n : Int32) (w : Bool) : hsR (va_up S 0 x) G sh ln i n w = hsR S G sh ln i n w := by
  unfold hsR
  rw [fo_0, pairR_0]
  rfl
theorem les_P {S : Nat → Nat} {G : Nat → Nat → Int32} {k a n m : Nat} {f g : Nat → Int32} (hwf : wfM S) (h : stormOk S G k a n) (hm : m < 4) (hfg : ∀ t, t < n → f t = G k (a + 2 * t) ∧ g t = G k (a + 2 * t + 1)) (s : Nat) : les (va_up (va_up S 0 0) 5 n) (va_up (va_up G 7 f) 8 g) m s = lesP S G k a n m s := by
  have e60 : va_up (va_up S 0 0) 5 n (60 + m) = S (60 + m) := up05 (by omega) (by omega)
  unfold les lesP
  rw [e60]
  congr 2
  refine anyb_cong (fun t ht => ?_)
  have ht : t < n := ht
  unfold stT stP
  have k1 : pN (va_up (va_up G 7 f) 8 g 7) t = nt (G k (a + 2 * t)) := by show (f t).toNatClampNeg = _; rw [(hfg t ht).1]; rfl
  have k2 : pN (va_up (va_up G 7 f) 8 g 8) t = nt (G k (a + 2 * t + 1)) := by show (g t).toNatClampNeg = _; rw [(hfg t ht).2]; rfl
  rw [k1, k2]
  have key : ∀ j, j ≠ 0 → j ≠ 5 → va_up (va_up (va_up S 0 0) 5 n) (60 + m) (S (60 + m) ||| s) j = va_up S (60 + m) (S (60 + m) ||| s) j := fun j h0 h5 => by
    show (if j = 60 + m then _ else va_up (va_up S 0 0) 5 n j) = (if j = 60 + m then _ else S j)
    rw [up05 h0 h5]
  exact stk_cong (key 1 (by omega) (by omega)) (key 3 (by omega) (by omega)) (fun i _ => ⟨key _ (by omega) (by omega), key _ (by omega) (by omega), key _ (by omega) (by omega)⟩)
set_option maxHeartbeats 4000000 in
theorem p_X7_teach : ip_Pf fl_X7 cn_X7 cs_X7_teach (some .int) tb_X7_teach 8 C_X7_teach := ip_pf0 (by
  rintro _ _ K ⟨tc, S, G, m, sh, ln, i, n, rfl, rfl, hwf, hK⟩
  refine ⟨Nat.le_of_ble_eq_true rfl, ?_⟩
  have w3 := hwf.1.2.2.1
  refine Exists.intro tc ⟨va_up S 0 0, G, m, rfl, rfl, w3, fun hn => ?_, fun j hj e => ?_⟩
  · have := hK (S 5) (G 7) (G 8)
    rw [q_teach, if_pos (show ¬ inI m (S 3) from hn)] at this
    exact this
  subst e
  have hj : j < S 3 := hj
  have hm := inI_n hj (by omega)
  have hj4 : j < 4 := by omega
  have bad : (hsR (va_up S 0 0) G sh ln i n true).1 ≠ 0 → ∀ x f g, K (some (.int (hsR (va_up S 0 0) G sh ln i n true).1)) (hpC tc (va_up (va_up (va_up S 0 0) 0 (hsR (va_up S 0 0) G sh ln i n true).2) 5 x) (va_up (va_up G 7 f) 8 g)) := fun h x f g => by
    have := hK x f g
    rw [hsR_0] at h ⊢
    rw [q_teach, if_neg (not_not_intro hm), if_pos h] at this
    rw [show va_up (va_up S 0 0) 0 (hsR S G sh ln i n true).2 = va_up S 0 (hsR S G sh ln i n true).2 from bx_uu S 0 0 _]
    exact this
  have good : hsR (va_up S 0 0) G sh ln i n true = (0, 0) → ∀ x f g, K (some (.int (ob (fqB (lesP S G (nt sh) (nt i) (nt n) j) 64)))) (hpC tc (va_up (va_up S 0 0) 5 x) (va_up (va_up G 7 f) 8 g)) := fun h x f g => by
    have := hK x f g
    rw [hsR_0] at h
    rw [q_teach, if_neg (not_not_intro hm), h, if_neg (by decide), nt_n (by omega)] at this
    exact this
  clear hK
  have hu : va_up (va_up S 0 0) 0 0 = va_up S 0 0 := bx_uu S 0 0 0
  refine Exists.intro tc ⟨va_up S 0 0, G, sh, ln, i, n, true, rfl, rfl, wfH_0 hwf.2.1 0, hwf.1.2.1, fun hb x f g => ?_, fun h0 hok _ f g hfg => ?_⟩
  · exact And.intro (fun h3 => absurd h3 hb) (fun _ => bad hb x f g)
  refine And.intro (fun _ => ?_) (fun h3 => absurd rfl h3)
  have hok' : stormOk S G (nt sh) (nt i) (nt n) := by
    obtain ⟨a1, a2, a3, a4, a5⟩ := hok
    exact ⟨a1, a2, by rw [up0 S 0 (by omega)] at a3; exact a3, a4, a5⟩
  obtain ⟨v1, v2, v3⟩ := heard (x := 0) hwf.1 hok' hfg
  have kk := good h0 (nt n) f g
  have e : bs 64 (les (va_up (va_up S 0 0) 5 (nt n)) (va_up (va_up G 7 f) 8 g) j) = bs 64 (lesP S G (nt sh) (nt i) (nt n) j) := bs_cong (fun s _ => les_P hwf.1 hok' hj4 hfg s)
  refine Exists.intro tc ⟨va_up (va_up S 0 0) 5 (nt n), va_up (va_up G 7 f) 8 g, j, hj4, rfl, rfl, v1, v2, ?_⟩
  exact Exists.intro (lesP S G (nt sh) (nt i) (nt n) j) ⟨(by show [Value.long (lN (bs 64 (les (va_up (va_up S 0 0) 5 (nt n)) (va_up (va_up G 7 f) 8 g) j)))] = _; rw [e]), kk⟩)
set_option maxRecDepth 100000 in
set_option maxHeartbeats 4000000 in
theorem m_X7_teach (l : Launch) : ip_Met l yX7_teach cX7_teach 8 (some .int) (ip_rm 6) C_X7_teach := ip_met tb_X7_teach 400 (by decide +kernel) fl_X7_ok cn_X7_ok (ip_cs1 (ip_gsV (m_X0_manOf l) (ip_in [284, 285, 286, 33, 287] (by decide +kernel) (by decide +kernel)) rfl ⟨by decide +kernel, by decide +kernel, by decide +kernel⟩ ⟨rfl, rfl, Nat.le_of_ble_eq_true rfl, Nat.le_of_ble_eq_true rfl⟩) (ip_cs1 (ip_gsV (m_X7_hearStorm l) (ip_in [361, 363, 2, 32, 364] (by decide +kernel) (by decide +kernel)) rfl ⟨by decide +kernel, by decide +kernel, by decide +kernel⟩ ⟨rfl, rfl, Nat.le_of_ble_eq_true rfl, Nat.le_of_ble_eq_true rfl⟩) (ip_cs1 (ip_gsV (m_X7_lessons l) (ip_in [423, 425, 4, 32, 426] (by decide +kernel) (by decide +kernel)) rfl ⟨by decide +kernel, by decide +kernel, by decide +kernel⟩ ⟨rfl, rfl, Nat.le_of_ble_eq_true rfl, Nat.le_of_ble_eq_true rfl⟩) (ip_cs1 (ip_gsS (m_X7_fewestQuestions l) (ip_in [427, 428, 32, 429] (by decide +kernel) (by decide +kernel)) ⟨by decide +kernel, by decide +kernel, by decide +kernel⟩ ⟨rfl, rfl, Nat.le_of_ble_eq_true rfl, Nat.le_of_ble_eq_true rfl⟩) (ip_cs0))))) ck_X7_teach rfl p_X7_teach
-- worth
def dw (S : Nat → Nat) (lo : Nat) : Nat := fb_sm (fun p => pc6 (dgs S (fun m => S (50 + m) == p && !lo.testBit m))) (S 2)
theorem andn16 : ∀ a lo : Fin 16, nI a.val &&& (nI lo.val ^^^ (-1)) = nI (bs 4 (fun i => a.val.testBit i && !lo.val.testBit i)) := by decide +kernel
def C_X0_dangersWithout : ip_C := fun vs hp K => ∃ tc S G, ∃ lo : Nat, lo < 16 ∧ vs = [.ref 10, .int (nI lo)] ∧ hp = hpC tc S G ∧ wfM S ∧ K (some (.int (nI (dw S lo)))) hp
def cs_X0_dangersWithout : List ip_G := [(42, 2, 1, C_X0_menIn), (45, 2, 1, C_X0_dangersBy), (51, 1, 0, C_J6_bitCount)]
def I_X0_dangersWithout (tc : Int32) (S : Nat → Nat) (G : Nat → Nat → Int32) (lo : Nat) : Nat → Nat → ip_P := fun pc k L st hp => pc = 4 ∧ ∃ (p : Nat) (x y : Int32), p ≤ S 2 ∧ k = 6 - p ∧ L = [some (.ref 10), some (.int (nI lo)), some (.int x), some (.int y)] ∧ st = [] ∧ hp = hpC tc S G ∧ x = nI (fb_sm (fun p => pc6 (dgs S (fun m => S (50 + m) == p && !lo.testBit m))) p) ∧ y = nI p
theorem p_X0_dangersWithout : ip_Pf fl_X0 [] cs_X0_dangersWithout (some .int) tb_X0_dangersWithout 4 C_X0_dangersWithout := by
  rintro _ _ K ⟨tc, S, G, lo, hlo, rfl, rfl, hwf, hK⟩
  have w2 := hwf.2.1
  refine ⟨Nat.le_of_ble_eq_true rfl, I_X0_dangersWithout tc S G lo, ?_, ?_⟩
  · exact Exists.intro 6 ⟨trivial, rfl, 0, _, _, by omega, rfl, rfl, rfl, rfl, rfl, rfl⟩
  · rintro pc k L st hp ⟨rfl, p, x, y, hp, rfl, rfl, rfl, rfl, rfl, rfl⟩
    refine pk_le (S 2) p (fun h => ?_) (fun h => ?_)
    · obtain rfl : p = S 2 := by omega
      exact hK
    refine Exists.intro tc ⟨S, G, p, by omega, rfl, rfl, hwf, ?_⟩
    have ha := andn16 ⟨bs (S 3) (fun m => S (50 + m) == p), bs16 hwf _⟩ ⟨lo, hlo⟩
    simp only at ha
    have e : dgs S (fun m => (bs 4 (fun i => (bs (S 3) (fun m => S (50 + m) == p)).testBit i && !lo.testBit i)).testBit m) = dgs S (fun m => S (50 + m) == p && !lo.testBit m) := dgs_cong (fun m hm => by
      have := hwf.2.2.1
      rw [bs_bit, bs_bit]
      simp [hm, show m < 4 by omega])
    refine Exists.intro tc ⟨S, G, bs 4 (fun i => (bs (S 3) (fun m => S (50 + m) == p)).testBit i && !lo.testBit i), bs_lt _ 4, (by show [Value.ref 10, Value.int (nI (bs (S 3) (fun m => S (50 + m) == p)) &&& (nI lo ^^^ (-1)))] = _; rw [ha]), rfl, hwf, ?_⟩
    rw [e]
    refine Exists.intro _ ⟨dgs_lt S _, rfl, ?_⟩
    exact Exists.intro (6 - (p + 1)) ⟨by show _ < _; omega, rfl, p + 1, _, _, by omega, rfl, rfl, rfl, rfl, by rw [nI_add, fb_sm_succ], nI_1 p⟩
set_option maxRecDepth 100000 in
set_option maxHeartbeats 4000000 in
theorem m_X0_dangersWithout (l : Launch) : ip_Met l yX0_dangersWithout cX0_dangersWithout 4 (some .int) (ip_rm 2) C_X0_dangersWithout := ip_met tb_X0_dangersWithout 400 (by decide +kernel) fl_X0_ok ip_cn0 (ip_cs1 (ip_gsV (m_X0_menIn l) (ip_in [341, 342, 343, 33, 344] (by decide +kernel) (by decide +kernel)) rfl ⟨by decide +kernel, by decide +kernel, by decide +kernel⟩ ⟨rfl, rfl, Nat.le_of_ble_eq_true rfl, Nat.le_of_ble_eq_true rfl⟩) (ip_cs1 (ip_gsV (m_X0_dangersBy l) (ip_in [345, 346, 347, 33, 348] (by decide +kernel) (by decide +kernel)) rfl ⟨by decide +kernel, by decide +kernel, by decide +kernel⟩ ⟨rfl, rfl, Nat.le_of_ble_eq_true rfl, Nat.le_of_ble_eq_true rfl⟩) (ip_cs1 (ip_gsS (m_J6_bitCount l) (ip_in [477, 434, 44, 435] (by decide +kernel) (by decide +kernel)) ⟨by decide +kernel, by decide +kernel, by decide +kernel⟩ ⟨rfl, rfl, Nat.le_of_ble_eq_true rfl, Nat.le_of_ble_eq_true rfl⟩) (ip_cs0)))) ck_X0_dangersWithout rfl p_X0_dangersWithout
def r_worth (S : Nat → Nat) (m : Int32) : Int32 := if ¬ inI m (S 3) then -1 else 100 + nI (dw S (2 ^ nt m)) - nI (dw S 0)
def C_X7_worth : ip_C := fun vs hp K => ∃ tc S G, ∃ m : Int32, vs = [.ref 0, .int m] ∧ hp = hpC tc S G ∧ wfC S G ∧ K (some (.int (r_worth S m))) hp
def cs_X7_worth : List ip_G := [(82, 2, 1, C_X0_manOf), (195, 2, 1, C_X0_dangersWithout)]
theorem p_X7_worth : ip_Pf fl_X7 cn_X7 cs_X7_worth (some .int) tb_X7_worth 2 C_X7_worth := ip_pf0 (by
  rintro _ _ K ⟨tc, S, G, m, rfl, rfl, hwf, hK⟩
  refine ⟨Nat.le_of_ble_eq_true rfl, ?_⟩
  have w3 := hwf.1.2.2.1
  refine Exists.intro tc ⟨S, G, m, rfl, rfl, w3, fun hn => ?_, fun i hi e => ?_⟩
  · rw [r_worth, if_pos hn] at hK; exact hK
  subst e
  have hm := inI_n hi (by omega)
  rw [r_worth, if_neg (not_not_intro hm), nt_n (by omega)] at hK
  have hs := sh1 ⟨i, by omega⟩
  simp only at hs
  have h16 : 2 ^ i < 16 := Nat.pow_lt_pow_right (a := 2) (m := i) (n := 4) (by decide) (by omega)
  refine Exists.intro tc ⟨S, G, 2 ^ i, h16, (by show [Value.ref 10, Value.int ((1 : Int32) <<< (nI i &&& 31))] = _; rw [hs]), rfl, hwf.1, ?_⟩
  exact Exists.intro tc ⟨S, G, 0, by decide, rfl, rfl, hwf.1, hK⟩)
set_option maxRecDepth 100000 in
set_option maxHeartbeats 4000000 in
theorem m_X7_worth (l : Launch) : ip_Met l yX7_worth cX7_worth 2 (some .int) (ip_rm 3) C_X7_worth := ip_met tb_X7_worth 400 (by decide +kernel) fl_X7_ok cn_X7_ok (ip_cs1 (ip_gsV (m_X0_manOf l) (ip_in [284, 285, 286, 33, 287] (by decide +kernel) (by decide +kernel)) rfl ⟨by decide +kernel, by decide +kernel, by decide +kernel⟩ ⟨rfl, rfl, Nat.le_of_ble_eq_true rfl, Nat.le_of_ble_eq_true rfl⟩) (ip_cs1 (ip_gsV (m_X0_dangersWithout l) (ip_in [473, 474, 475, 33, 476] (by decide +kernel) (by decide +kernel)) rfl ⟨by decide +kernel, by decide +kernel, by decide +kernel⟩ ⟨rfl, rfl, Nat.le_of_ble_eq_true rfl, Nat.le_of_ble_eq_true rfl⟩) (ip_cs0))) ck_X7_worth rfl p_X7_worth
-- worst
def dct (S : Nat → Nat) (a b : Nat) : Nat := fb_ct (fun i => dgp S (a + i) != 0) (b + 1 - a)
def C_X0_dangerousFrom : ip_C := fun vs hp K => ∃ tc S G, ∃ a b : Nat, a ≤ b ∧ b < S 2 ∧ vs = [.ref 10, .int (nI a), .int (nI b)] ∧ hp = hpC tc S G ∧ wfM S ∧ K (some (.int (nI (dct S a b)))) hp
def cs_X0_dangerousFrom : List ip_G := [(48, 2, 1, C_X0_dangersOf)]
def I_X0_dangerousFrom (tc : Int32) (S : Nat → Nat) (G : Nat → Nat → Int32) (a b : Nat) : Nat → Nat → ip_P := fun pc k L st hp => pc = 5 ∧ ∃ (p : Nat) (x y : Int32), p ≤ b + 1 - a ∧ k = b + 1 - a - p ∧ L = [some (.ref 10), some (.int (nI a)), some (.int (nI b)), some (.int x), some (.int y)] ∧ st = [] ∧ hp = hpC tc S G ∧ x = nI (fb_ct (fun i => dgp S (a + i) != 0) p) ∧ y = nI (a + p)
theorem p_X0_dangerousFrom : ip_Pf fl_X0 [] cs_X0_dangerousFrom (some .int) tb_X0_dangerousFrom 5 C_X0_dangerousFrom := by
  rintro _ _ K ⟨tc, S, G, a, b, hab, hb, rfl, rfl, hwf, hK⟩
  have w2 := hwf.2.1
  refine ⟨Nat.le_of_ble_eq_true rfl, I_X0_dangerousFrom tc S G a b, ?_, ?_⟩
  · exact Exists.intro (b + 1 - a) ⟨trivial, rfl, 0, _, _, by omega, rfl, rfl, rfl, rfl, rfl, rfl⟩
  · rintro pc k L st hp ⟨rfl, p, x, y, hp, rfl, rfl, rfl, rfl, rfl, rfl⟩
    have fin : p = b + 1 - a → K (some (.int (nI (fb_ct (fun i => dgp S (a + i) != 0) p)))) (hpC tc S G) := fun h => by rw [h]; exact hK
    refine pk_lt b (a + p) (fun h => ?_) (fun h => ?_)
    · exact fin (by omega)
    refine pk_le (S 2) (a + p) (fun h2 => ?_) (fun h2 => ?_)
    · omega
    refine Exists.intro tc ⟨S, G, a + p, by omega, rfl, rfl, hwf, ?_⟩
    have hl := dgp_lt S (a + p)
    refine pk_eq (dgp S (a + p)) 0 (fun h3 => ?_) (fun h3 => ?_)
    · exact Exists.intro (b + 1 - a - (p + 1)) ⟨by show _ < _; omega, rfl, p + 1, _, _, by omega, rfl, rfl, rfl, rfl, by rw [fb_ct_succ, h3]; simp, nI_1 (a + p)⟩
    · exact Exists.intro (b + 1 - a - (p + 1)) ⟨by show _ < _; omega, rfl, p + 1, _, _, by omega, rfl, rfl, rfl, rfl, by rw [fb_ct_succ, nI_1]; simp [h3], nI_1 (a + p)⟩
set_option maxRecDepth 100000 in
set_option maxHeartbeats 4000000 in
theorem m_X0_dangerousFrom (l : Launch) : ip_Met l yX0_dangerousFrom cX0_dangerousFrom 5 (some .int) (ip_rm 3) C_X0_dangerousFrom := ip_met tb_X0_dangerousFrom 400 (by decide +kernel) fl_X0_ok ip_cn0 (ip_cs1 (ip_gsV (m_X0_dangersOf l) (ip_in [337, 338, 339, 33, 340] (by decide +kernel) (by decide +kernel)) rfl ⟨by decide +kernel, by decide +kernel, by decide +kernel⟩ ⟨rfl, rfl, Nat.le_of_ble_eq_true rfl, Nat.le_of_ble_eq_true rfl⟩) (ip_cs0)) ck_X0_dangerousFrom rfl p_X0_dangerousFrom
def stp (a p b : Nat) : Nat := b - a + min (p - a) (b - p)
def wI (S : Nat → Nat) (p n a acc : Nat) : Nat → Nat
  | 0 => acc
  | j + 1 => if stp a p (p + j) < n then max (wI S p n a acc j) (dct S a (p + j)) else wI S p n a acc j
def wO (S : Nat → Nat) (p n : Nat) : Nat → Nat
  | 0 => 0
  | i + 1 => wI S p n i (wO S p n i) (S 2 - p)
def r_worst (S : Nat → Nat) (p n : Int32) : Int32 := if ¬ inI p (S 2) then -1 else if ¬ (0 ≤ n.toInt ∧ n.toInt ≤ 12) then -2 else nI (wO S (nt p) (nt n) (nt p + 1))
def C_X7_worst : ip_C := fun vs hp K => ∃ tc S G, ∃ p n : Int32, vs = [.ref 0, .int p, .int n] ∧ hp = hpC tc S G ∧ wfC S G ∧ K (some (.int (r_worst S p n))) hp
def cs_X7_worst : List ip_G := [(107, 2, 1, C_X0_hasParish), (164, 3, 0, C_X7_stepsOver), (167, 3, 1, C_X0_dangerousFrom), (171, 2, 0, C_J9_max)]
theorem dct_le (S : Nat → Nat) (a b : Nat) : dct S a b ≤ b + 1 := Nat.le_trans (fb_ct_le _ _) (by omega)
theorem wI_le {S : Nat → Nat} {p n a acc B : Nat} (hacc : acc ≤ B) : ∀ j, p + j ≤ B → wI S p n a acc j ≤ B
  | 0, _ => hacc
  | j + 1, h => by
    have ih := wI_le (S := S) (p := p) (n := n) (a := a) hacc j (by omega)
    have hd := dct_le S a (p + j)
    simp only [wI]
    split
    · omega
    · exact ih
theorem wO_le {S : Nat → Nat} {p n : Nat} (hp : p < S 2) : ∀ i, wO S p n i ≤ S 2
  | 0 => Nat.zero_le _
  | i + 1 => wI_le (wO_le hp i) _ (by omega)
def I_X7_worst (tc : Int32) (S : Nat → Nat) (G : Nat → Nat → Int32) (p n : Nat) : Nat → Nat → ip_P := fun pc k L st hp => (pc = 31 ∧ ∃ (i : Nat) (x y : Int32) (l5 : Option Value), i ≤ p + 1 ∧ k = (p + 1 - i) * 100 + 50 ∧ L = [some (.ref 0), some (.int (nI p)), some (.int (nI n)), some (.int x), some (.int y), l5] ∧ st = [] ∧ hp = hpC tc S G ∧ x = nI (wO S p n i) ∧ y = nI i) ∨
  (pc = 40 ∧ ∃ (i j : Nat) (x z : Int32), i ≤ p ∧ p + j ≤ S 2 ∧ k = (p + 1 - i) * 100 + 10 - j ∧ L = [some (.ref 0), some (.int (nI p)), some (.int (nI n)), some (.int x), some (.int (nI i)), some (.int z)] ∧ st = [] ∧ hp = hpC tc S G ∧ x = nI (wI S p n i (wO S p n i) j) ∧ z = nI (p + j))
set_option maxHeartbeats 4000000 in
theorem p_X7_worst : ip_Pf fl_X7 cn_X7 cs_X7_worst (some .int) tb_X7_worst 6 C_X7_worst := by
  rintro _ _ K ⟨tc, S, G, p, n, rfl, rfl, hwf, hK⟩
  have w2 := hwf.1.2.1
  refine ⟨Nat.le_of_ble_eq_true rfl, fun pc k L st hp => (inI p (S 2) ∧ 0 ≤ n.toInt ∧ n.toInt ≤ 12) ∧ I_X7_worst tc S G (nt p) (nt n) pc k L st hp, ?_, ?_⟩
  · refine Exists.intro tc ⟨S, G, p, rfl, rfl, w2, fun b hb => ?_⟩
    refine ip_bn (fun h => ?_) (fun h => ?_)
    · have hin : inI p (S 2) := hb.mp h
      rw [r_worst, if_neg (not_not_intro hin)] at hK
      refine bz_lt n.toInt 0 (fun h2 => ?_) (fun h2 => ?_)
      · rw [if_pos (by omega)] at hK; exact hK
      refine bz_le n.toInt 12 (fun h3 => ?_) (fun h3 => ?_)
      · obtain ⟨i, hi, rfl, ei⟩ := ti_of hin.1
        obtain ⟨j, hj, rfl, ej⟩ := ti_of h2
        rw [nt_n hi, nt_n hj]
        exact Exists.intro _ ⟨trivial, ⟨hin, h2, h3⟩, Or.inl ⟨rfl, 0, _, _, none, by omega, rfl, rfl, rfl, rfl, rfl, rfl⟩⟩
      · rw [if_pos (by omega)] at hK; exact hK
    · have hin : ¬ inI p (S 2) := fun z => by rw [hb.mpr z] at h; cases h
      rw [r_worst, if_pos hin] at hK
      exact hK
  · rintro pc k L st hp ⟨hpre, hI⟩
    obtain ⟨hin, h2, h3⟩ := id hpre
    rw [r_worst, if_neg (not_not_intro hin), if_neg (not_not_intro ⟨h2, h3⟩)] at hK
    obtain ⟨hpl, -⟩ := inI_nt hin
    have hnn : nt n ≤ 12 := by unfold nt; omega
    generalize nt p = p at hI hK hpl ⊢
    generalize nt n = n at hI hK hnn ⊢
    rcases hI with ⟨rfl, i, x, y, l5, hi, rfl, rfl, rfl, rfl, rfl, rfl⟩ | ⟨rfl, i, j, x, z, hi, hj, rfl, rfl, rfl, rfl, rfl, rfl⟩
    · refine pk_lt p i (fun h => ?_) (fun h => ?_)
      · obtain rfl : i = p + 1 := by omega
        exact hK
      · exact Exists.intro ((p + 1 - i) * 100 + 10 - 0) ⟨by show _ < _; omega, hpre, Or.inr ⟨rfl, i, 0, _, _, by omega, by omega, rfl, rfl, rfl, rfl, rfl, rfl⟩⟩
    · refine pk_le (S 2) (p + j) (fun h => ?_) (fun h => ?_)
      · refine Exists.intro ((p + 1 - (i + 1)) * 100 + 50) ⟨by show _ < _; omega, hpre, Or.inl ⟨rfl, i + 1, _, _, _, by omega, rfl, rfl, rfl, rfl, ?_, nI_1 i⟩⟩
        rw [wO, show S 2 - p = j by omega]
      · refine Exists.intro i ⟨p, p + j, by omega, by omega, by omega, rfl, ?_⟩
        have hst : stp i p (p + j) < 100 := by unfold stp; omega
        refine pk_le n (stp i p (p + j)) (fun h4 => ?_) (fun h4 => ?_)
        · refine Exists.intro ((p + 1 - i) * 100 + 10 - (j + 1)) ⟨by show _ < _; omega, hpre, Or.inr ⟨rfl, i, j + 1, _, _, by omega, by omega, rfl, rfl, rfl, rfl, ?_, nI_1 (p + j)⟩⟩
          simp only [wI]
          rw [if_neg (by omega)]
        · refine Exists.intro tc ⟨S, G, i, p + j, by omega, by omega, rfl, rfl, hwf.1, ?_⟩
          refine Exists.intro _ ⟨_, rfl, fun r hr => ?_⟩
          have b1 := wI_le (S := S) (p := p) (n := n) (a := i) (B := S 2) (wO_le (n := n) hpl i) j (by omega)
          have b2 := dct_le S i (p + j)
          rw [ti_n (by omega), ti_n (by omega)] at hr
          refine Exists.intro ((p + 1 - i) * 100 + 10 - (j + 1)) ⟨by show _ < _; omega, hpre, Or.inr ⟨rfl, i, j + 1, _, _, by omega, by omega, rfl, rfl, rfl, rfl, ?_, nI_1 (p + j)⟩⟩
          simp only [wI]
          rw [if_pos (by omega), fa_eq, hr, ti_n (by omega)]
          omega
set_option maxRecDepth 100000 in
set_option maxHeartbeats 4000000 in
theorem m_X7_worst (l : Launch) : ip_Met l yX7_worst cX7_worst 6 (some .int) (ip_rm 4) C_X7_worst := ip_met tb_X7_worst 400 (by decide +kernel) fl_X7_ok cn_X7_ok (ip_cs1 (ip_gsV (m_X0_hasParish l) (ip_in [303, 304, 305, 33, 306] (by decide +kernel) (by decide +kernel)) rfl ⟨by decide +kernel, by decide +kernel, by decide +kernel⟩ ⟨rfl, rfl, Nat.le_of_ble_eq_true rfl, Nat.le_of_ble_eq_true rfl⟩) (ip_cs1 (ip_gsS (m_X7_stepsOver l) (ip_in [443, 444, 32, 445] (by decide +kernel) (by decide +kernel)) ⟨by decide +kernel, by decide +kernel, by decide +kernel⟩ ⟨rfl, rfl, Nat.le_of_ble_eq_true rfl, Nat.le_of_ble_eq_true rfl⟩) (ip_cs1 (ip_gsV (m_X0_dangerousFrom l) (ip_in [447, 448, 449, 33, 450] (by decide +kernel) (by decide +kernel)) rfl ⟨by decide +kernel, by decide +kernel, by decide +kernel⟩ ⟨rfl, rfl, Nat.le_of_ble_eq_true rfl, Nat.le_of_ble_eq_true rfl⟩) (ip_cs1 (ip_gsMax (ip_in [451, 452, 41, 453] (by decide +kernel) (by decide +kernel)) ⟨Nat.le_of_ble_eq_true rfl, Nat.le_of_ble_eq_true rfl⟩) (ip_cs0))))) ck_X7_worst rfl p_X7_worst
