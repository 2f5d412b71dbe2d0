/-! ===== hearStorm, storm, teach ===== -/
def hsR (S : Nat → Nat) (G : Nat → Nat → Int32) (sh ln i n : Int32) (w : Bool) : Int32 × Nat := if ¬ inI sh 4 then (-1, 0) else if ¬ inI ln 3 ∨ n.toInt < 0 ∨ 20 < n.toInt ∨ w = false then (-2, 0) else if fo S (nt sh) ln.toInt i.toInt (2 * n.toInt) ≠ 0 then (-10 - nI (fo S (nt sh) ln.toInt i.toInt (2 * n.toInt)), fo S (nt sh) ln.toInt i.toInt (2 * n.toInt)) else if S 2 = 0 then (-3, 0) else (pairR S G (nt sh) (nt i) (nt n), 0)
/-- the storm's row stands in the cells from a on -/
def stormOk (S : Nat → Nat) (G : Nat → Nat → Int32) (k a n : Nat) : Prop := k < 4 ∧ n ≤ 20 ∧ a + 2 * n ≤ S (30 + k) ∧ S 2 ≠ 0 ∧ ∀ t, t < n → inI (G k (a + 2 * t)) (S 2) ∧ inI (G k (a + 2 * t + 1)) 6
def C_X7_hearStorm : ip_C := fun vs hp K => ∃ tc S G, ∃ (sh ln i n : Int32) (w : Bool), vs = [.ref 0, .int sh, .int ln, .int i, .int n, .int (ip_bi w)] ∧ hp = hpC tc S G ∧ wfH S ∧ S 2 ≤ 6 ∧
  ((hsR S G sh ln i n w).1 ≠ 0 → ∀ x f g, K (some (.int (hsR S G sh ln i n w).1)) (hpC tc (va_up (va_up S 0 (hsR S G sh ln i n w).2) 5 x) (va_up (va_up G 7 f) 8 g))) ∧
  ((hsR S G sh ln i n w) = (0, 0) → stormOk S G (nt sh) (nt i) (nt n) → w = true → ∀ f g, (∀ t, t < nt n → f t = G (nt sh) (nt i + 2 * t) ∧ g t = G (nt sh) (nt i + 2 * t + 1)) → K (some (.int 0)) (hpC tc (va_up (va_up S 0 0) 5 (nt n)) (va_up (va_up G 7 f) 8 g)))
def cs_X7_hearStorm : List ip_G := [(50, 2, 7, C_X7_sheetOf), (54, 1, 0, C_X7_isLane), (58, 4, 5, C_X5_faultOf), (62, 2, 7, C_X7_faulty), (100, 1, 1, C_X0_isThere), (276, 4, 7, C_X7_hearPairs)]
theorem pairR_0 (S : Nat → Nat) (G : Nat → Nat → Int32) (k a n x : Nat) : pairR (va_up S 0 x) G k a n = pairR S G k a n := rfl
theorem t2n {n : Int32} (h : 0 ≤ n.toInt) (h2 : n.toInt ≤ 20) : (2 * n).toInt = 2 * n.toInt := by
  have t2 : (2 : Int32).toInt = 2 := by decide
  rw [fb_mulI (by rw [t2]; omega) (by rw [t2]; omega), t2]
theorem neg10 : ∀ f : Fin 5, f.val ≠ 0 → ¬ (-10 : Int32) - nI f.val = 0 := by decide +kernel
set_option maxHeartbeats 4000000 in
theorem p_X7_hearStorm : ip_Pf fl_X7 cn_X7 cs_X7_hearStorm (some .int) tb_X7_hearStorm 8 C_X7_hearStorm := ip_pf0 (by
  rintro _ _ K ⟨tc, S, G, sh, ln, i, n, w, rfl, rfl, hwh, w2, hK1, hK0⟩
  refine ⟨Nat.le_of_ble_eq_true rfl, ?_⟩
  refine Exists.intro tc ⟨va_up S 0 0, G, sh, rfl, rfl, fun hn => ?_, fun j hj e => ?_⟩
  · have e : hsR S G sh ln i n w = (-1, 0) := by rw [hsR, if_pos hn]
    rw [e] at hK1
    exact hK1 (by decide) (S 5) (G 7) (G 8)
  subst e
  have hs4 : inI (nI j) 4 := inI_n hj (by omega)
  have ej : nt (nI j) = j := nt_n (by omega)
  have hw0 := wfH_0 hwh 0
  have k2 : ¬ inI ln 3 ∨ n.toInt < 0 ∨ 20 < n.toInt ∨ w = false → K (some (.int (-2))) (hpC tc (va_up S 0 0) G) := fun h => by
    have e : hsR S G (nI j) ln i n w = (-2, 0) := by rw [hsR, if_neg (not_not_intro hs4), if_pos h]
    rw [e] at hK1
    exact hK1 (by decide) (S 5) (G 7) (G 8)
  refine Exists.intro ln ⟨rfl, fun b hb => ?_⟩
  refine ip_bt (fun h => ?_) (fun h => ?_)
  · exact k2 (Or.inl (fun z => by rw [hb.mpr z] at h; cases h))
  have hl : inI ln 3 := hb.mp h
  refine bz_lt n.toInt 0 (fun h1 => ?_) (fun h1 => ?_)
  · exact k2 (Or.inr (Or.inl h1))
  refine bz_lt 20 n.toInt (fun h2 => ?_) (fun h2 => ?_)
  · exact k2 (Or.inr (Or.inr (Or.inl h2)))
  refine ip_bn (fun h3 => ?_) (fun h3 => ?_)
  rotate_left
  · exact k2 (Or.inr (Or.inr (Or.inr h3)))
  have hno : ¬ (¬ inI ln 3 ∨ n.toInt < 0 ∨ 20 < n.toInt ∨ w = false) := fun z => by
    rcases z with z | z | z | z
    · exact z hl
    · omega
    · omega
    · rw [h3] at z; cases z
  have e2 := t2n h1 h2
  have ef : fo (va_up S 0 0) j ln.toInt i.toInt (2 * n).toInt = fo S j ln.toInt i.toInt (2 * n.toInt) := by rw [fo_0, e2]
  have hf4 := fo_le S j ln.toInt i.toInt (2 * n.toInt)
  have b0 : ∀ {X Y : Prop}, (fo S j ln.toInt i.toInt (2 * n.toInt) = 0 → X) → (fo S j ln.toInt i.toInt (2 * n.toInt) ≠ 0 → Y) → (nI (fo (va_up S 0 0) j ln.toInt i.toInt (2 * n).toInt) = 0 → X) ∧ (¬ nI (fo (va_up S 0 0) j ln.toInt i.toInt (2 * n).toInt) = 0 → Y) := fun f g => by rw [ef]; exact pk_eq _ 0 f g
  have kf : fo S j ln.toInt i.toInt (2 * n.toInt) ≠ 0 → K (some (.int (-10 - nI (fo (va_up S 0 0) j ln.toInt i.toInt (2 * n).toInt)))) (hpC tc (va_up (va_up S 0 0) 0 (fo (va_up S 0 0) j ln.toInt i.toInt (2 * n).toInt)) G) := fun h => by
    have e : hsR S G (nI j) ln i n w = (-10 - nI (fo S j ln.toInt i.toInt (2 * n.toInt)), fo S j ln.toInt i.toInt (2 * n.toInt)) := by rw [hsR, if_neg (not_not_intro hs4), if_neg hno, ej, if_pos h]
    rw [e] at hK1
    rw [ef]
    exact hK1 (neg10 ⟨fo S j ln.toInt i.toInt (2 * n.toInt), Nat.lt_succ_of_le hf4⟩ h) (S 5) (G 7) (G 8)
  have k3 : fo S j ln.toInt i.toInt (2 * n.toInt) = 0 → S 2 = 0 → K (some (.int (-3))) (hpC tc (va_up S 0 0) G) := fun h h5 => by
    have e : hsR S G (nI j) ln i n w = (-3, 0) := by rw [hsR, if_neg (not_not_intro hs4), if_neg hno, ej, if_neg (not_not_intro h), if_pos h5]
    rw [e] at hK1
    exact hK1 (by decide) (S 5) (G 7) (G 8)
  have kp : fo S j ln.toInt i.toInt (2 * n.toInt) = 0 → S 2 ≠ 0 → ∃ a m : Nat, i = nI a ∧ n = nI m ∧ m ≤ 20 ∧ a + 2 * m ≤ S (30 + j) ∧
      (pairR S G j a m ≠ 0 → ∀ x f g, K (some (.int (pairR S G j a m))) (hpC tc (va_up (va_up S 0 0) 5 x) (va_up (va_up G 7 f) 8 g))) ∧
      (pairR S G j a m = 0 → (∀ t, t < m → inI (G j (a + 2 * t)) (S 2) ∧ inI (G j (a + 2 * t + 1)) 6) → ∀ f g, (∀ t, t < m → f t = G j (a + 2 * t) ∧ g t = G j (a + 2 * t + 1)) → K (some (.int 0)) (hpC tc (va_up (va_up S 0 0) 5 m) (va_up (va_up G 7 f) 8 g))) := fun h h5 => by
    obtain ⟨z1, z2, z3, z4, z5⟩ := fo_zero h
    obtain ⟨a, ha, rfl, ea⟩ := ti_of z4
    obtain ⟨m, hm, rfl, em⟩ := ti_of h1
    have e : hsR S G (nI j) ln (nI a) (nI m) w = (pairR S G j a m, 0) := by rw [hsR, if_neg (not_not_intro hs4), if_neg hno, ej, if_neg (not_not_intro h), if_neg h5, nt_n ha, nt_n hm]
    rw [e, nt_n ha, nt_n hm, ej] at hK0
    rw [e] at hK1
    refine ⟨a, m, rfl, rfl, by omega, by omega, fun h6 => hK1 h6, fun h6 h7 f g hfg => hK0 (by rw [h6]) ⟨hj, by omega, by omega, h5, h7⟩ h3 f g hfg⟩
  clear hK1 hK0 k2
  have hz30 : ∀ m a : Nat, a + 2 * m ≤ S (30 + j) → a + 2 * m ≤ va_up S 0 0 (30 + j) := fun m a hh => by rw [up0 S 0 (by omega)]; exact hh
  rcases four hj with rfl | rfl | rfl | rfl
  all_goals
    refine Exists.intro tc ⟨va_up S 0 0, G, _, ln, i, 2 * n, hj, rfl, rfl, hw0, ?_⟩
    refine b0 (fun h4 => ?_) (fun h4 => ?_)
    rotate_left
    · exact Exists.intro tc ⟨va_up S 0 0, G, _, rfl, rfl, kf h4⟩
    refine Exists.intro tc ⟨va_up S 0 0, G, rfl, rfl, w2, ?_⟩
    refine ip_bt (fun h5 => ?_) (fun h5 => ?_)
    · have h5 : ¬ 0 < S 2 := of_decide_eq_false h5
      exact k3 h4 (by omega)
    · have h5 : 0 < S 2 := of_decide_eq_true h5
      obtain ⟨a, m, rfl, rfl, hm, ham, q1, q0⟩ := kp h4 (by omega)
      exact Exists.intro tc ⟨va_up S 0 0, G, _, a, m, hj, hm, hz30 m a ham, rfl, rfl, hw0, w2, q1, q0⟩)
set_option maxRecDepth 100000 in
set_option maxHeartbeats 4000000 in
theorem m_X7_hearStorm (l : Launch) : ip_Met l yX7_hearStorm cX7_hearStorm 8 (some .int) (ip_rm 3) C_X7_hearStorm := ip_met tb_X7_hearStorm 400 (by decide +kernel) fl_X7_ok cn_X7_ok (ip_cs1 (ip_gsV (m_X7_sheetOf l) (ip_in [230, 232, 0, 32, 233] (by decide +kernel) (by decide +kernel)) rfl ⟨by decide +kernel, by decide +kernel, by decide +kernel⟩ ⟨rfl, rfl, Nat.le_of_ble_eq_true rfl, Nat.le_of_ble_eq_true rfl⟩) (ip_cs1 (ip_gsS (m_X7_isLane l) (ip_in [234, 235, 32, 236] (by decide +kernel) (by decide +kernel)) ⟨by decide +kernel, by decide +kernel, by decide +kernel⟩ ⟨rfl, rfl, Nat.le_of_ble_eq_true rfl, Nat.le_of_ble_eq_true rfl⟩) (ip_cs1 (ip_gsV (m_X5_faultOf l) (ip_in [237, 238, 239, 38, 240] (by decide +kernel) (by decide +kernel)) rfl ⟨by decide +kernel, by decide +kernel, by decide +kernel⟩ ⟨rfl, rfl, Nat.le_of_ble_eq_true rfl, Nat.le_of_ble_eq_true rfl⟩) (ip_cs1 (ip_gsV (m_X7_faulty l) (ip_in [245, 247, 1, 32, 248] (by decide +kernel) (by decide +kernel)) rfl ⟨by decide +kernel, by decide +kernel, by decide +kernel⟩ ⟨rfl, rfl, Nat.le_of_ble_eq_true rfl, Nat.le_of_ble_eq_true rfl⟩) (ip_cs1 (ip_gsV (m_X0_isThere l) (ip_in [295, 296, 297, 33, 298] (by decide +kernel) (by decide +kernel)) rfl ⟨by decide +kernel, by decide +kernel, by decide +kernel⟩ ⟨rfl, rfl, Nat.le_of_ble_eq_true rfl, Nat.le_of_ble_eq_true rfl⟩) (ip_cs1 (ip_gsV (m_X7_hearPairs l) (ip_in [365, 367, 3, 32, 368] (by decide +kernel) (by decide +kernel)) rfl ⟨by decide +kernel, by decide +kernel, by decide +kernel⟩ ⟨rfl, rfl, Nat.le_of_ble_eq_true rfl, Nat.le_of_ble_eq_true rfl⟩) (ip_cs0))))))) ck_X7_hearStorm rfl p_X7_hearStorm
theorem stk_cong {S S' : Nat → Nat} {p q : Nat} (h1 : S' 1 = S 1) (h3 : S' 3 = S 3) (hm : ∀ m, m < S 3 → S' (40 + m) = S (40 + m) ∧ S' (50 + m) = S (50 + m) ∧ S' (60 + m) = S (60 + m)) : stk S' p q = stk S p q := by
  unfold stk heldS
  rw [h1, h3]
  congr 1
  exact held_cong (fun m h => ⟨(hm m h).1, (hm m h).2.2, by rw [(hm m h).2.1]⟩)
theorem up05 {S : Nat → Nat} {x y j : Nat} (h : j ≠ 0) (h2 : j ≠ 5) : va_up (va_up S 0 x) 5 y j = S j := by simp only [va_up]; rw [if_neg h2, if_neg h]
theorem stk_05 (S : Nat → Nat) (x y p q : Nat) : stk (va_up (va_up S 0 x) 5 y) p q = stk S p q := stk_cong rfl rfl (fun m _ => ⟨up05 (by omega) (by omega), up05 (by omega) (by omega), up05 (by omega) (by omega)⟩)
theorem wfM_05 {S : Nat → Nat} (h : wfM S) (x y : Nat) : wfM (va_up (va_up S 0 x) 5 y) := by
  obtain ⟨a, b, c, d⟩ := h
  refine ⟨a, b, c, fun m hm => ?_⟩
  rw [up05 (by omega) (by omega), up05 (by omega) (by omega), up05 (by omega) (by omega)]
  exact d m hm
/-- pair t of a storm: struck -/
def stP (S : Nat → Nat) (G : Nat → Nat → Int32) (k a t : Nat) : Bool := stk S (nt (G k (a + 2 * t))) (nt (G k (a + 2 * t + 1)))
def spP (G : Nat → Nat → Int32) (k a t : Nat) : Nat := nt (G k (a + 2 * t))
theorem heard {S : Nat → Nat} {G : Nat → Nat → Int32} {k a n x : Nat} {f g : Nat → Int32} (hwf : wfM S) (h : stormOk S G k a n) (hfg : ∀ t, t < n → f t = G k (a + 2 * t) ∧ g t = G k (a + 2 * t + 1)) : wfM (va_up (va_up S 0 x) 5 n) ∧ wfT (va_up (va_up S 0 x) 5 n) (va_up (va_up G 7 f) 8 g) ∧ (∀ t, t < n → stT (va_up (va_up S 0 x) 5 n) (va_up (va_up G 7 f) 8 g) t = stP S G k a t ∧ pN (va_up (va_up G 7 f) 8 g 7) t = spP G k a t) := by
  obtain ⟨hk, hn, han, h2, hp⟩ := h
  have hS2 := hwf.2.1
  have key : ∀ t, t < n → pN f t = nt (G k (a + 2 * t)) ∧ pN g t = nt (G k (a + 2 * t + 1)) := fun t ht => by
    unfold pN
    rw [(hfg t ht).1, (hfg t ht).2]
    exact ⟨rfl, rfl⟩
  refine ⟨wfM_05 hwf x n, ⟨hn, fun t ht => ?_⟩, fun t ht => ?_⟩
  · obtain ⟨q1, q2⟩ := hp t ht
    obtain ⟨k1, k2⟩ := key t ht
    obtain ⟨l1, m1⟩ := inI_nt q1
    obtain ⟨l2, m2⟩ := inI_nt q2
    show f t = nI (pN f t) ∧ pN f t < 6 ∧ g t = nI (pN g t) ∧ pN g t < 6
    rw [k1, k2, (hfg t ht).1, (hfg t ht).2]
    exact ⟨m1, by omega, m2, l2⟩
  · obtain ⟨k1, k2⟩ := key t ht
    refine ⟨?_, k1⟩
    show stk (va_up (va_up S 0 x) 5 n) (pN f t) (pN g t) = _
    rw [stk_05, k1, k2]
    rfl
def q_storm (S : Nat → Nat) (G : Nat → Nat → Int32) (sh ln i n w : Int32) : Int32 × Nat := if (hsR S G sh ln i n (decide (0 ≤ w.toInt ∧ w.toInt ≤ 2))).1 ≠ 0 then hsR S G sh ln i n (decide (0 ≤ w.toInt ∧ w.toInt ≤ 2)) else if w.toInt = 0 then (nI (fb_ct (stP S G (nt sh) (nt i)) (nt n)), 0) else if w.toInt = 1 then (ob (lst (stP S G (nt sh) (nt i)) (nt n)), 0) else (nI (bs 6 (fun p => anyb (nt n) (fun t => stP S G (nt sh) (nt i) t && spP G (nt sh) (nt i) t == p))), 0)
def C_X7_storm : ip_C := fun vs hp K => ∃ tc S G, ∃ (sh ln i n w : Int32), vs = [.ref 0, .int sh, .int ln, .int i, .int n, .int w] ∧ hp = hpC tc S G ∧ wfC S G ∧ ∀ x f g, K (some (.int (q_storm S G sh ln i n w).1)) (hpC tc (va_up (va_up S 0 (q_storm S G sh ln i n w).2) 5 x) (va_up (va_up G 7 f) 8 g))
def cs_X7_storm : List ip_G := [(129, 6, 7, C_X7_hearStorm), (133, 2, 6, C_X6_countIn), (137, 2, 6, C_X6_firstIn), (140, 2, 6, C_X6_struckIn)]
theorem lst_cong {f g : Nat → Bool} : ∀ {n : Nat}, (∀ i, i < n → f i = g i) → lst f n = lst g n
  | 0, _ => rfl
  | n + 1, h => by simp only [lst]; rw [lst_cong (fun i hi => h i (by omega)), h n (by omega)]
set_option maxHeartbeats 4000000 in
theorem p_X7_storm : ip_Pf fl_X7 cn_X7 cs_X7_storm (some .int) tb_X7_storm 7 C_X7_storm := ip_pf0 (by
  rintro _ _ K ⟨tc, S, G, sh, ln, i, n, w, rfl, rfl, hwf, hK⟩
  refine ⟨Nat.le_of_ble_eq_true rfl, ?_⟩
  have bad : (hsR S G sh ln i n (decide (0 ≤ w.toInt ∧ w.toInt ≤ 2))).1 ≠ 0 → ∀ x f g, K (some (.int (hsR S G sh ln i n (decide (0 ≤ w.toInt ∧ w.toInt ≤ 2))).1)) (hpC tc (va_up (va_up S 0 (hsR S G sh ln i n (decide (0 ≤ w.toInt ∧ w.toInt ≤ 2))).2) 5 x) (va_up (va_up G 7 f) 8 g)) := fun h x f g => by
    have := hK x f g
    rw [q_storm, if_pos h] at this
    exact this
  have good0 : hsR S G sh ln i n (decide (0 ≤ w.toInt ∧ w.toInt ≤ 2)) = (0, 0) → w.toInt = 0 → ∀ x f g, K (some (.int (nI (fb_ct (stP S G (nt sh) (nt i)) (nt n))))) (hpC tc (va_up (va_up S 0 0) 5 x) (va_up (va_up G 7 f) 8 g)) := fun h h1 x f g => by
    have := hK x f g
    rw [q_storm, h, if_neg (by decide), if_pos h1] at this
    exact this
  have good1 : hsR S G sh ln i n (decide (0 ≤ w.toInt ∧ w.toInt ≤ 2)) = (0, 0) → w.toInt ≠ 0 → w.toInt = 1 → ∀ x f g, K (some (.int (ob (lst (stP S G (nt sh) (nt i)) (nt n))))) (hpC tc (va_up (va_up S 0 0) 5 x) (va_up (va_up G 7 f) 8 g)) := fun h h1 h2 x f g => by
    have := hK x f g
    rw [q_storm, h, if_neg (by decide), if_neg h1, if_pos h2] at this
    exact this
  have good2 : hsR S G sh ln i n (decide (0 ≤ w.toInt ∧ w.toInt ≤ 2)) = (0, 0) → w.toInt ≠ 0 → w.toInt ≠ 1 → ∀ x f g, K (some (.int (nI (bs 6 (fun p => anyb (nt n) (fun t => stP S G (nt sh) (nt i) t && spP G (nt sh) (nt i) t == p)))))) (hpC tc (va_up (va_up S 0 0) 5 x) (va_up (va_up G 7 f) 8 g)) := fun h h1 h2 x f g => by
    have := hK x f g
    rw [q_storm, h, if_neg (by decide), if_neg h1, if_neg h2] at this
    exact this
  clear hK
  refine bz_lt w.toInt 0 (fun h => ?_) (fun h => ?_)
  · have hw : decide (0 ≤ w.toInt ∧ w.toInt ≤ 2) = false := decide_eq_false (by omega)
    rw [hw] at bad
    refine Exists.intro tc ⟨S, G, sh, ln, i, n, false, rfl, rfl, hwf.2.1, hwf.1.2.1, fun hb x f g => ?_, fun _ _ h2 => by cases h2⟩
    exact And.intro (fun h3 => absurd h3 hb) (fun _ => bad hb x f g)
  refine bz_lt 2 w.toInt (fun h2 => ?_) (fun h2 => ?_)
  · have hw : decide (0 ≤ w.toInt ∧ w.toInt ≤ 2) = false := decide_eq_false (by omega)
    rw [hw] at bad
    refine Exists.intro tc ⟨S, G, sh, ln, i, n, false, rfl, rfl, hwf.2.1, hwf.1.2.1, fun hb x f g => ?_, fun _ _ h3 => by cases h3⟩
    exact And.intro (fun h3 => absurd h3 hb) (fun _ => bad hb x f g)
  have hw : decide (0 ≤ w.toInt ∧ w.toInt ≤ 2) = true := decide_eq_true (by omega)
  rw [hw] at bad good0 good1 good2
  refine Exists.intro tc ⟨S, G, sh, ln, i, n, true, rfl, rfl, hwf.2.1, hwf.1.2.1, fun hb x f g => ?_, fun h0 hok _ f g hfg => ?_⟩
  · exact And.intro (fun h3 => absurd h3 hb) (fun _ => bad hb x f g)
  refine And.intro (fun _ => ?_) (fun h3 => absurd rfl h3)
  obtain ⟨v1, v2, v3⟩ := heard (x := 0) hwf.1 hok hfg
  refine bz_ne w.toInt 0 (fun h3 => ?_) (fun h3 => ?_)
  · refine bz_ne w.toInt 1 (fun h4 => ?_) (fun h4 => ?_)
    · have kk := good2 h0 h3 h4 (nt n) f g
      have e : bs 6 (fun p => anyb (nt n) (fun t => stT (va_up (va_up S 0 0) 5 (nt n)) (va_up (va_up G 7 f) 8 g) t && pN (va_up (va_up G 7 f) 8 g 7) t == p)) = bs 6 (fun p => anyb (nt n) (fun t => stP S G (nt sh) (nt i) t && spP G (nt sh) (nt i) t == p)) := bs_cong (fun p _ => anyb_cong (fun t ht => by rw [(v3 t ht).1, (v3 t ht).2]))
      rw [← e] at kk
      exact Exists.intro tc ⟨_, _, rfl, rfl, v1, v2, kk⟩
    · have kk := good1 h0 h3 h4 (nt n) f g
      refine Exists.intro tc ⟨_, _, rfl, rfl, v1, v2, fun t ht h5 h6 => ?_, fun h5 => ?_⟩
      · have ht : t < nt n := ht
        have e : lst (stP S G (nt sh) (nt i)) (nt n) = some t := lst_some (f := stP S G (nt sh) (nt i)) (by have e1 := (v3 t ht).1; rw [h5] at e1; exact e1.symm) (fun j hj => by have e1 := (v3 j (Nat.lt_trans hj ht)).1; rw [h6 j hj] at e1; exact e1.symm) ht
        rw [e] at kk
        exact kk
      · have h5 : ∀ j, j < nt n → stT (va_up (va_up S 0 0) 5 (nt n)) (va_up (va_up G 7 f) 8 g) j = false := h5
        have e : lst (stP S G (nt sh) (nt i)) (nt n) = none := lst_none (f := stP S G (nt sh) (nt i)) (fun j hj => by have e1 := (v3 j hj).1; rw [h5 j hj] at e1; exact e1.symm)
        rw [e] at kk
        exact kk
  · have kk := good0 h0 h3 (nt n) f g
    have e : fb_ct (stT (va_up (va_up S 0 0) 5 (nt n)) (va_up (va_up G 7 f) 8 g)) (nt n) = fb_ct (stP S G (nt sh) (nt i)) (nt n) := fb_ct_cong (fun t ht => (v3 t ht).1)
    rw [← e] at kk
    exact Exists.intro tc ⟨_, _, rfl, rfl, v1, v2, kk⟩)
set_option maxRecDepth 100000 in
set_option maxHeartbeats 4000000 in
theorem m_X7_storm (l : Launch) : ip_Met l yX7_storm cX7_storm 7 (some .int) (ip_rm 5) C_X7_storm := ip_met tb_X7_storm 400 (by decide +kernel) fl_X7_ok cn_X7_ok (ip_cs1 (ip_gsV (m_X7_hearStorm l) (ip_in [361, 363, 2, 32, 364] (by decide +kernel) (by decide +kernel)) rfl ⟨by decide +kernel, by decide +kernel, by decide +kernel⟩ ⟨rfl, rfl, Nat.le_of_ble_eq_true rfl, Nat.le_of_ble_eq_true rfl⟩) (ip_cs1 (ip_gsV (m_X6_countIn l) (ip_in [374, 375, 376, 36, 377] (by decide +kernel) (by decide +kernel)) rfl ⟨by decide +kernel, by decide +kernel, by decide +kernel⟩ ⟨rfl, rfl, Nat.le_of_ble_eq_true rfl, Nat.le_of_ble_eq_true rfl⟩) (ip_cs1 (ip_gsV (m_X6_firstIn l) (ip_in [379, 380, 381, 36, 382] (by decide +kernel) (by decide +kernel)) rfl ⟨by decide +kernel, by decide +kernel, by decide +kernel⟩ ⟨rfl, rfl, Nat.le_of_ble_eq_true rfl, Nat.le_of_ble_eq_true rfl⟩) (ip_cs1 (ip_gsV (m_X6_struckIn l) (ip_in [383, 384, 385, 36, 386] (by decide +kernel) (by decide +kernel)) rfl ⟨by decide +kernel, by decide +kernel, by decide +kernel⟩ ⟨rfl, rfl, Nat.le_of_ble_eq_true rfl, Nat.le_of_ble_eq_true rfl⟩) (ip_cs0))))) ck_X7_storm rfl p_X7_storm
