/-! ===== least terms, odds, fair ===== -/
def euI : Nat → Nat × Nat → Nat × Nat
  | 0, x => x
  | n + 1, x => if x.2 = 0 then x else euI n (x.2, x.1 % x.2)
theorem euI_0 : ∀ (n h : Nat), euI n (h, 0) = (h, 0)
  | 0, _ => rfl
  | n + 1, h => by simp [euI]
theorem euI_s {n h l : Nat} (hl : l ≠ 0) : euI (n + 1) (h, l) = euI n (l, h % l) := by simp [euI, hl]
def C_X7_commonDivisor : ip_C := fun vs hp K => ∃ a b : Nat, a < 2 ^ 62 ∧ b < 2 ^ 62 ∧ vs = [.long (lN a), .long (lN b)] ∧ K (some (.long (lN (euI 100 (a, b)).1))) hp
def cs_X7_commonDivisor : List ip_G := []
def I_X7_commonDivisor (a b : Nat) (hp0 : ip_H) : Nat → Nat → ip_P := fun pc k L st hp => pc = 9 ∧ ∃ (t h l : Nat) (y : Int32) (l9 l10 : Option Value), t ≤ 100 ∧ k = 100 - t ∧ h < 2 ^ 62 ∧ l < 2 ^ 62 ∧ L = [some (.long (lN a)), none, some (.long (lN b)), none, some (.long (lN h)), none, some (.long (lN l)), none, some (.int y), l9, l10] ∧ st = [] ∧ hp = hp0 ∧ y = nI t ∧ euI (100 - t) (h, l) = euI 100 (a, b)
theorem p_X7_commonDivisor : ip_Pf fl_X7 cn_X7 cs_X7_commonDivisor (some .long) tb_X7_commonDivisor 11 C_X7_commonDivisor := by
  rintro _ hp0 K ⟨a, b, ha, hb, rfl, hK⟩
  refine ⟨Nat.le_of_ble_eq_true rfl, I_X7_commonDivisor a b hp0, ?_, ?_⟩
  · exact Exists.intro 100 ⟨trivial, rfl, 0, a, b, _, none, none, by omega, rfl, ha, hb, rfl, rfl, rfl, rfl, rfl⟩
  · rintro pc k L st hp ⟨rfl, t, h, l, y, l9, l10, ht, rfl, hh, hl, rfl, rfl, rfl, rfl, he⟩
    refine pk_le 100 t (fun h1 => ?_) (fun h1 => ?_)
    · obtain rfl : t = 100 := by omega
      rw [← he] at hK
      exact hK
    refine And.intro (fun h2 => ?_) (fun h2 => ?_)
    · have h2 := (lg_cmp_eq _ _).mp h2
      have hz : l = 0 := (pk_lEQ (a := l) (b := 0) (by omega) (by omega)).mp h2
      rw [hz, euI_0] at he
      rw [← he] at hK
      exact hK
    · have hz : l ≠ 0 := fun z => h2 ((lg_cmp_eq _ _).mpr (by rw [z]; rfl))
      refine And.intro (fun z => hz ((pk_lEQ (a := l) (b := 0) (by omega) (by omega)).mp z)) ?_
      have hr : lN h - lN h / lN l * lN l = lN (h % l) := pk_lRem (by omega) (by omega) (by omega)
      rw [hr]
      have hm : h % l < l := Nat.mod_lt _ (by omega)
      refine Exists.intro (100 - (t + 1)) ⟨by show _ < _; omega, rfl, t + 1, l, h % l, _, _, _, by omega, rfl, hl, by omega, rfl, rfl, rfl, nI_1 t, ?_⟩
      rw [← he, show 100 - t = (100 - (t + 1)) + 1 by omega, euI_s hz]
set_option maxRecDepth 100000 in
set_option maxHeartbeats 4000000 in
theorem m_X7_commonDivisor (l : Launch) : ip_Met l yX7_commonDivisor cX7_commonDivisor 11 (some .long) (ip_rm 0) C_X7_commonDivisor := ip_met tb_X7_commonDivisor 400 (by decide +kernel) fl_X7_ok cn_X7_ok (ip_cs0) ck_X7_commonDivisor rfl p_X7_commonDivisor
-- Euclid's way is short
def fibo : Nat → Nat
  | 0 => 0
  | 1 => 1
  | n + 2 => fibo n + fibo (n + 1)
theorem eu_gcd : ∀ (n h l : Nat), (euI n (h, l)).2 = 0 → (euI n (h, l)).1 = Nat.gcd h l
  | 0, h, l, e => by
    have e : l = 0 := e
    subst e
    simp [euI]
  | n + 1, h, l, e => by
    by_cases hl : l = 0
    · subst hl; rw [euI_0]; simp
    · rw [euI_s hl] at e ⊢
      rw [eu_gcd n l (h % l) e, Nat.gcd_comm l, ← Nat.gcd_rec, Nat.gcd_comm]
theorem eu_fib : ∀ (n h l : Nat), l ≤ h → (euI n (h, l)).2 ≠ 0 → fibo (n + 1) ≤ l ∧ fibo (n + 2) ≤ h
  | 0, h, l, hl, e => by
    have e : l ≠ 0 := e
    have e1 : fibo (0 + 1) = 1 := rfl
    have e2 : fibo (0 + 2) = 1 := rfl
    rw [e1, e2]
    omega
  | n + 1, h, l, hl, e => by
    by_cases hz : l = 0
    · subst hz; rw [euI_0] at e; exact absurd rfl e
    · rw [euI_s hz] at e
      have hm : h % l < l := Nat.mod_lt _ (by omega)
      obtain ⟨i1, i2⟩ := eu_fib n l (h % l) (by omega) e
      refine ⟨i2, ?_⟩
      have hd : h % l + l ≤ h := by
        have h1 := Nat.div_add_mod h l
        have h2 : 1 ≤ h / l := (Nat.one_le_div_iff (by omega)).mpr hl
        have h3 : l * 1 ≤ l * (h / l) := Nat.mul_le_mul_left l h2
        omega
      show fibo (n + 1) + fibo (n + 2) ≤ h
      omega
def fibP : Nat → Nat × Nat
  | 0 => (0, 1)
  | n + 1 => ((fibP n).2, (fibP n).1 + (fibP n).2)
theorem fibP_ok : ∀ n, fibP n = (fibo n, fibo (n + 1))
  | 0 => rfl
  | n + 1 => by rw [fibP, fibP_ok n]; rfl
theorem fib100 : 2 ^ 62 < (fibP 101).1 := by decide +kernel
theorem eu_100 {h l : Nat} (hl : l ≤ h) (hb : l < 2 ^ 62) : (euI 100 (h, l)).1 = Nat.gcd h l := by
  by_cases e : (euI 100 (h, l)).2 = 0
  · exact eu_gcd 100 h l e
  · obtain ⟨i1, -⟩ := eu_fib 100 h l hl e
    have h1 := fib100
    rw [fibP_ok] at h1
    have h1 : 2 ^ 62 < fibo 101 := h1
    have i1 : fibo 101 ≤ l := i1
    exact absurd i1 (by omega)
/-- a share in least terms -/
def lst2 (u d : Nat) (w : Nat) : Nat := (if w = 0 then u else d) / Nat.gcd u d
def C_X7_inLeastTerms : ip_C := fun vs hp K => ∃ u d w : Nat, u ≤ d ∧ 0 < d ∧ d < 2 ^ 62 ∧ w < 2 ∧ vs = [.long (lN u), .long (lN d), .int (nI w)] ∧ K (some (.long (lN (lst2 u d w)))) hp
def cs_X7_inLeastTerms : List ip_G := [(292, 2, 0, C_X7_commonDivisor)]
theorem p_X7_inLeastTerms : ip_Pf fl_X7 cn_X7 cs_X7_inLeastTerms (some .long) tb_X7_inLeastTerms 9 C_X7_inLeastTerms := ip_pf0 (by
  rintro _ hp K ⟨u, d, w, hud, hd, hb, hw, rfl, hK⟩
  refine ⟨Nat.le_of_ble_eq_true rfl, ?_⟩
  have hg : (euI 100 (d, u)).1 = Nat.gcd u d := by rw [eu_100 hud (by omega), Nat.gcd_comm]
  have hg0 : 0 < Nat.gcd u d := Nat.gcd_pos_of_pos_right u hd
  have hgl : Nat.gcd u d ≤ d := Nat.gcd_le_right u hd
  refine Exists.intro d ⟨u, hb, by omega, rfl, ?_⟩
  rw [hg]
  have hne : ¬ lN (Nat.gcd u d) = Int64.ofNat 0 := fun z => by
    have := (pk_lEQ (a := Nat.gcd u d) (b := 0) (by omega) (by omega)).mp z
    omega
  refine pk_ne w 0 (fun h => ?_) (fun h => ?_)
  · refine And.intro (fun _ => ?_) (fun h2 => absurd ((lg_cmp_eq _ _).mp h2) hne)
    refine And.intro hne ?_
    rw [pk_lDiv (by omega) hg0 (by omega)]
    rw [lst2, if_neg h] at hK
    exact hK
  · refine And.intro (fun _ => ?_) (fun h2 => absurd ((lg_cmp_eq _ _).mp h2) hne)
    refine And.intro hne ?_
    rw [pk_lDiv (by omega) hg0 (by omega)]
    rw [lst2, if_pos h] at hK
    exact hK)
set_option maxRecDepth 100000 in
set_option maxHeartbeats 4000000 in
theorem m_X7_inLeastTerms (l : Launch) : ip_Met l yX7_inLeastTerms cX7_inLeastTerms 9 (some .long) (ip_rm 1) C_X7_inLeastTerms := ip_met tb_X7_inLeastTerms 400 (by decide +kernel) fl_X7_ok cn_X7_ok (ip_cs1 (ip_gsS (m_X7_commonDivisor l) (ip_in [466, 467, 32, 468] (by decide +kernel) (by decide +kernel)) ⟨by decide +kernel, by decide +kernel, by decide +kernel⟩ ⟨rfl, rfl, Nat.le_of_ble_eq_true rfl, Nat.le_of_ble_eq_true rfl⟩) (ip_cs0)) ck_X7_inLeastTerms rfl p_X7_inLeastTerms
-- odds
def oddC (S : Nat → Nat) (p q : Nat) : Nat := fb_ct (fun aw => heldS S (fun m => S (50 + m) == p && aw.testBit m) q) (2 ^ S 3)
def r_odds (S : Nat → Nat) (p q w : Int32) : Int64 := if ¬ inI p (S 2) ∨ ¬ inI q 6 ∨ ¬ inI w 2 then -9223372036854775808 else lN (lst2 (oddC S (nt p) (nt q)) (2 ^ S 3) (nt w))
def C_X7_odds : ip_C := fun vs hp K => ∃ tc S G, ∃ p q w : Int32, vs = [.ref 0, .int p, .int q, .int w] ∧ hp = hpC tc S G ∧ wfC S G ∧ K (some (.long (r_odds S p q w))) hp
def cs_X7_odds : List ip_G := [(107, 2, 1, C_X0_hasParish), (110, 1, 0, C_X7_isQuestion), (176, 1, 0, C_X7_isWhich), (226, 2, 1, C_X0_menIn), (229, 2, 1, C_X0_dangersBy), (113, 2, 0, C_X7_holds), (191, 3, 0, C_X7_inLeastTerms)]
theorem and16 {a b : Nat} (ha : a < 16) : a &&& b < 16 := Nat.lt_of_le_of_lt (and_le a b) ha
def I_X7_odds (tc : Int32) (S : Nat → Nat) (G : Nat → Nat → Int32) (p q w : Nat) : Nat → Nat → ip_P := fun pc k L st hp => pc = 56 ∧ ∃ (t : Nat) (x y z : Int32), t ≤ 2 ^ S 3 ∧ k = 2 ^ S 3 - t ∧ z = nI (2 ^ S 3) ∧ L = [some (.ref 0), some (.int (nI p)), some (.int (nI q)), some (.int (nI w)), some (.int z), some (.int (nI (bs (S 3) (fun m => S (50 + m) == p)))), some (.int x), some (.int y)] ∧ st = [] ∧ hp = hpC tc S G ∧ x = nI (fb_ct (fun aw => heldS S (fun m => S (50 + m) == p && aw.testBit m) q) t) ∧ y = nI t
set_option maxHeartbeats 4000000 in
theorem p_X7_odds : ip_Pf fl_X7 cn_X7 cs_X7_odds (some .long) tb_X7_odds 8 C_X7_odds := by
  rintro _ _ K ⟨tc, S, G, p, q, w, rfl, rfl, hwf, hK⟩
  have w2 := hwf.1.2.1
  have w3 := hwf.1.2.2.1
  have hpow : 2 ^ S 3 ≤ 16 := Nat.pow_le_pow_right (n := 2) (by omega) w3
  have hpow0 : 0 < 2 ^ S 3 := Nat.pow_pos (by decide)
  refine ⟨Nat.le_of_ble_eq_true rfl, fun pc k L st hp => (inI p (S 2) ∧ inI q 6 ∧ inI w 2) ∧ I_X7_odds tc S G (nt p) (nt q) (nt w) pc k L st hp, ?_, ?_⟩
  · have lost : ¬ inI p (S 2) ∨ ¬ inI q 6 ∨ ¬ inI w 2 → K (some (.long (-9223372036854775808))) (hpC tc S G) := fun h => by rw [r_odds, if_pos h] at hK; exact hK
    clear hK
    refine Exists.intro tc ⟨S, G, p, rfl, rfl, w2, fun b hb => ?_⟩
    refine ip_bt (fun h => ?_) (fun h => ?_)
    · exact lost (Or.inl (fun z => by rw [hb.mpr z] at h; cases h))
    have hin1 : inI p (S 2) := hb.mp h
    refine Exists.intro q ⟨rfl, fun b2 hb2 => ?_⟩
    refine ip_bt (fun h2 => ?_) (fun h2 => ?_)
    · exact lost (Or.inr (Or.inl (fun z => by rw [hb2.mpr z] at h2; cases h2)))
    have hin2 : inI q 6 := hb2.mp h2
    refine Exists.intro w ⟨rfl, fun b3 hb3 => ?_⟩
    refine ip_bn (fun h3 => ?_) (fun h3 => ?_)
    rotate_left
    · exact lost (Or.inr (Or.inr (fun z => by rw [hb3.mpr z] at h3; cases h3)))
    have hin3 : inI w 2 := hb3.mp h3
    have hpre : inI p (S 2) ∧ inI q 6 ∧ inI w 2 := ⟨hin1, hin2, hin3⟩
    clear hb hb2 hb3 lost
    obtain ⟨i, hi, rfl, ei⟩ := ti_of hin1.1
    obtain ⟨j, hj, rfl, ej⟩ := ti_of hin2.1
    obtain ⟨l, hl, rfl, el⟩ := ti_of hin3.1
    rw [nt_n hi, nt_n hj, nt_n hl]
    have hs := sh1 ⟨S 3, by omega⟩
    simp only at hs
    refine Exists.intro tc ⟨S, G, i, hi, rfl, rfl, hwf.1, ?_⟩
    exact Exists.intro _ ⟨trivial, hpre, rfl, 0, _, _, _, by omega, rfl, hs, rfl, rfl, rfl, rfl, rfl⟩
  · rintro pc k L st hp ⟨hpre, hI⟩
    obtain ⟨hin1, hin2, hin3⟩ := id hpre
    rw [r_odds, if_neg (fun z => z.elim (fun y => y hin1) (fun z => z.elim (fun y => y hin2) (fun y => y hin3)))] at hK
    have l2 := (inI_nt hin2).1
    have l3 := (inI_nt hin3).1
    generalize nt p = p at hI hK ⊢
    generalize nt q = q at hI hK l2 ⊢
    generalize nt w = w at hI hK l3 ⊢
    obtain ⟨rfl, t, x, y, z, ht, rfl, rfl, rfl, rfl, rfl, rfl, rfl⟩ := hI
    refine pk_le (2 ^ S 3) t (fun h => ?_) (fun h => ?_)
    · obtain rfl : t = 2 ^ S 3 := by omega
      have hc : oddC S p q ≤ 2 ^ S 3 := fb_ct_le _ _
      refine Exists.intro (oddC S p q) ⟨2 ^ S 3, w, hc, hpow0, by omega, l3, (by show [Value.long (nI (oddC S p q)).toInt64, Value.long (nI (2 ^ S 3)).toInt64, Value.int (nI w)] = _; rw [nI_l (Nat.lt_of_le_of_lt hc (by omega)), nI_l (by omega)]), hK⟩
    · have ha : nI (bs (S 3) (fun m => S (50 + m) == p)) &&& nI t = nI (bs (S 3) (fun m => S (50 + m) == p) &&& t) := fa_and _ _
      refine Exists.intro tc ⟨S, G, bs (S 3) (fun m => S (50 + m) == p) &&& t, and16 (bs16 hwf.1 _), (by show [Value.ref 10, Value.int (nI (bs (S 3) (fun m => S (50 + m) == p)) &&& nI t)] = _; rw [ha]), rfl, hwf.1, ?_⟩
      refine Exists.intro (dgs S (fun m => (bs (S 3) (fun m => S (50 + m) == p) &&& t).testBit m)) ⟨q, dgs_lt S _, l2, rfl, ?_⟩
      have e : (dgs S (fun m => (bs (S 3) (fun m => S (50 + m) == p) &&& t).testBit m)).testBit q = !heldS S (fun m => S (50 + m) == p && t.testBit m) q := by
        rw [dgs_cong (p' := fun m => S (50 + m) == p && t.testBit m) (fun m hm => by rw [Nat.testBit_and, bs_bit]; simp [hm])]
        unfold dgs
        rw [bs_bit]
        simp [l2]
      rw [e]
      refine ip_bn (fun h3 => ?_) (fun h3 => ?_)
      · have h3 : heldS S (fun m => S (50 + m) == p && t.testBit m) q = false := by simpa using h3
        exact Exists.intro (2 ^ S 3 - (t + 1)) ⟨by show _ < _; omega, hpre, rfl, t + 1, _, _, _, by omega, rfl, rfl, rfl, rfl, rfl, by rw [fb_ct_succ, h3]; simp, nI_1 t⟩
      · have h3 : heldS S (fun m => S (50 + m) == p && t.testBit m) q = true := by simpa using h3
        exact Exists.intro (2 ^ S 3 - (t + 1)) ⟨by show _ < _; omega, hpre, rfl, t + 1, _, _, _, by omega, rfl, rfl, rfl, rfl, rfl, by rw [fb_ct_succ, h3, nI_1]; simp, nI_1 t⟩
set_option maxRecDepth 100000 in
set_option maxHeartbeats 4000000 in
theorem m_X7_odds (l : Launch) : ip_Met l yX7_odds cX7_odds 8 (some .long) (ip_rm 2) C_X7_odds := ip_met tb_X7_odds 400 (by decide +kernel) fl_X7_ok cn_X7_ok (ip_cs1 (ip_gsV (m_X0_hasParish l) (ip_in [303, 304, 305, 33, 306] (by decide +kernel) (by decide +kernel)) rfl ⟨by decide +kernel, by decide +kernel, by decide +kernel⟩ ⟨rfl, rfl, Nat.le_of_ble_eq_true rfl, Nat.le_of_ble_eq_true rfl⟩) (ip_cs1 (ip_gsS (m_X7_isQuestion l) (ip_in [315, 316, 32, 317] (by decide +kernel) (by decide +kernel)) ⟨by decide +kernel, by decide +kernel, by decide +kernel⟩ ⟨rfl, rfl, Nat.le_of_ble_eq_true rfl, Nat.le_of_ble_eq_true rfl⟩) (ip_cs1 (ip_gsS (m_X7_isWhich l) (ip_in [458, 459, 32, 460] (by decide +kernel) (by decide +kernel)) ⟨by decide +kernel, by decide +kernel, by decide +kernel⟩ ⟨rfl, rfl, Nat.le_of_ble_eq_true rfl, Nat.le_of_ble_eq_true rfl⟩) (ip_cs1 (ip_gsV (m_X0_menIn l) (ip_in [543, 342, 343, 33, 344] (by decide +kernel) (by decide +kernel)) rfl ⟨by decide +kernel, by decide +kernel, by decide +kernel⟩ ⟨rfl, rfl, Nat.le_of_ble_eq_true rfl, Nat.le_of_ble_eq_true rfl⟩) (ip_cs1 (ip_gsV (m_X0_dangersBy l) (ip_in [544, 346, 347, 33, 348] (by decide +kernel) (by decide +kernel)) rfl ⟨by decide +kernel, by decide +kernel, by decide +kernel⟩ ⟨rfl, rfl, Nat.le_of_ble_eq_true rfl, Nat.le_of_ble_eq_true rfl⟩) (ip_cs1 (ip_gsS (m_X7_holds l) (ip_in [318, 319, 32, 320] (by decide +kernel) (by decide +kernel)) ⟨by decide +kernel, by decide +kernel, by decide +kernel⟩ ⟨rfl, rfl, Nat.le_of_ble_eq_true rfl, Nat.le_of_ble_eq_true rfl⟩) (ip_cs1 (ip_gsS (m_X7_inLeastTerms l) (ip_in [463, 464, 32, 465] (by decide +kernel) (by decide +kernel)) ⟨by decide +kernel, by decide +kernel, by decide +kernel⟩ ⟨rfl, rfl, Nat.le_of_ble_eq_true rfl, Nat.le_of_ble_eq_true rfl⟩) (ip_cs0)))))))) ck_X7_odds rfl p_X7_odds
