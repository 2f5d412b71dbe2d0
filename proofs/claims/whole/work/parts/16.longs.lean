/-! ===== sets of sets, as longs ===== -/
theorem ls_or {a s : Nat} (ha : a < 2 ^ s) (hs : s < 64) : lN a ||| (Int64.ofNat 1 <<< ((nI s).toInt64 &&& 63)) = lN (a + 2 ^ s) := by
  have h1 : (Int64.ofNat 1 <<< ((nI s).toInt64 &&& 63)) = lN (2 ^ s) := by
    have := wb_shl 1 hs
    rw [Nat.one_mul] at this
    exact this
  have h2 : 2 ^ s < 2 ^ 64 := wb_lt2 hs
  rw [h1, wb_or (by omega) h2]
  congr 1
  apply Nat.eq_of_testBit_eq
  intro i
  rw [Nat.testBit_or, Nat.testBit_two_pow, show a + 2 ^ s = 2 ^ s + a by omega]
  rcases Nat.lt_trichotomy i s with h | h | h
  · rw [Nat.testBit_two_pow_add_gt h]
    simp [show ¬ s = i by omega]
  · subst h
    rw [Nat.testBit_two_pow_add_eq, Nat.testBit_lt_two_pow ha]
    simp
  · have a1 : 2 ^ (s + 1) ≤ 2 ^ i := Nat.pow_le_pow_right (by decide) h
    rw [Nat.pow_succ] at a1
    rw [Nat.testBit_lt_two_pow (show 2 ^ s + a < 2 ^ i by omega), Nat.testBit_lt_two_pow (show a < 2 ^ i by omega)]
    simp [show ¬ s = i by omega]
theorem ls_bit (n : Nat) {s : Nat} (hs : s < 64) : ((lN n >>> ((nI s).toInt64 &&& 63)) &&& Int64.ofNat 1 = Int64.ofNat 0) ↔ n.testBit s = false := by
  rw [wb_c s hs]
  have e : ((lN n >>> lN s) &&& Int64.ofNat 1).toBitVec = ((BitVec.ofNat 64 n).sshiftRight s) &&& 1#64 := by
    rw [Int64.toBitVec_and, Int64.toBitVec_shiftRight, wb_tb, wb_tb, wb_sm s hs]
    rw [BitVec.sshiftRight_eq', BitVec.toNat_ofNat, Nat.mod_eq_of_lt (by omega)]
    rfl
  have b0 : (((BitVec.ofNat 64 n).sshiftRight s) &&& 1#64).getLsbD 0 = n.testBit s := by
    have e2 : (BitVec.ofNat 64 n).getLsbD s = n.testBit s := by rw [BitVec.getLsbD, BitVec.toNat_ofNat, Nat.testBit_mod_two_pow]; simp [hs]
    rw [BitVec.getLsbD_and, BitVec.getLsbD_sshiftRight]
    simp [hs]
    rw [← BitVec.getLsbD_eq_getElem, e2]
  constructor
  · intro h
    have h2 : ((lN n >>> lN s) &&& Int64.ofNat 1).toBitVec = 0#64 := by rw [h]; rfl
    rw [e] at h2
    rw [← b0, h2]
    rfl
  · intro h
    apply wb_inj
    rw [e]
    show _ = 0#64
    apply BitVec.eq_of_getLsbD_eq
    intro i hi
    by_cases hz : i = 0
    · subst hz
      rw [b0, h]
      rfl
    · simp [hz]
def C_X7_holdsSet : ip_C := fun vs hp K => ∃ n s : Nat, s < 64 ∧ vs = [.long (lN n), .int (nI s)] ∧ K (some (.int (ip_bi (n.testBit s)))) hp
def cs_X7_holdsSet : List ip_G := []
theorem p_X7_holdsSet : ip_Pf fl_X7 cn_X7 cs_X7_holdsSet (some .boolean) tb_X7_holdsSet 3 C_X7_holdsSet := ip_pf0 (by
  rintro _ hp K ⟨n, s, hs, rfl, hK⟩
  refine ⟨Nat.le_of_ble_eq_true rfl, ?_⟩
  refine And.intro (fun h => ?_) (fun h => ?_)
  · rw [(ls_bit n hs).mp ((lg_cmp_eq _ _).mp h)] at hK
    exact And.intro rfl hK
  · rw [ts_t (fun q => h ((lg_cmp_eq _ _).mpr ((ls_bit n hs).mpr q)))] at hK
    exact And.intro rfl hK)
set_option maxRecDepth 100000 in
set_option maxHeartbeats 4000000 in
theorem m_X7_holdsSet (l : Launch) : ip_Met l yX7_holdsSet cX7_holdsSet 3 (some .boolean) (ip_rm 0) C_X7_holdsSet := ip_met tb_X7_holdsSet 400 (by decide +kernel) fl_X7_ok cn_X7_ok (ip_cs0) ck_X7_holdsSet rfl p_X7_holdsSet
-- what may be so: the truth
theorem wfM_tr {S : Nat → Nat} (h : wfM S) {x : Nat} (hx : x < 64) : wfM (va_up S 1 x) := by
  obtain ⟨a, b, c, d⟩ := h
  refine ⟨hx, b, c, fun m hm => ?_⟩
  have e1 : va_up S 1 x (40 + m) = S (40 + m) := by simp only [va_up]; rw [if_neg (by omega)]
  have e2 : va_up S 1 x (50 + m) = S (50 + m) := by simp only [va_up]; rw [if_neg (by omega)]
  have e3 : va_up S 1 x (60 + m) = S (60 + m) := by simp only [va_up]; rw [if_neg (by omega)]
  rw [e1, e2, e3]
  exact d m hm
theorem wfM_kd {S : Nat → Nat} (h : wfM S) {m0 x : Nat} (hm : m0 < 4) (hx : x ≤ 2) : wfM (va_up S (40 + m0) x) := by
  obtain ⟨a, b, c, d⟩ := h
  have e : ∀ j, j ≠ 40 + m0 → va_up S (40 + m0) x j = S j := fun j hj => by simp only [va_up]; rw [if_neg hj]
  refine ⟨by rw [e 1 (by omega)]; exact a, by rw [e 2 (by omega)]; exact b, by rw [e 3 (by omega)]; exact c, fun m hm => ?_⟩
  rw [e (50 + m) (by omega), e (60 + m) (by omega)]
  refine ⟨?_, (d m hm).2⟩
  by_cases hz : m = m0
  · subst hz; simp [va_up, hx]
  · rw [e (40 + m) (by omega)]; exact (d m hm).1
theorem wfM_pl {S : Nat → Nat} (h : wfM S) {m0 x : Nat} (hm : m0 < 4) (hx : x < 6) : wfM (va_up S (50 + m0) x) := by
  obtain ⟨a, b, c, d⟩ := h
  have e : ∀ j, j ≠ 50 + m0 → va_up S (50 + m0) x j = S j := fun j hj => by simp only [va_up]; rw [if_neg hj]
  refine ⟨by rw [e 1 (by omega)]; exact a, by rw [e 2 (by omega)]; exact b, by rw [e 3 (by omega)]; exact c, fun m hm => ?_⟩
  rw [e (40 + m) (by omega), e (60 + m) (by omega)]
  refine ⟨(d m hm).1, ?_, (d m hm).2.2⟩
  by_cases hz : m = m0
  · subst hz; simp [va_up, hx]
  · rw [e (50 + m) (by omega)]; exact (d m hm).2.1
theorem wfM_li {S : Nat → Nat} (h : wfM S) {m0 x : Nat} (hm : m0 < 4) (hx : x < 64) : wfM (va_up S (60 + m0) x) := by
  obtain ⟨a, b, c, d⟩ := h
  have e : ∀ j, j ≠ 60 + m0 → va_up S (60 + m0) x j = S j := fun j hj => by simp only [va_up]; rw [if_neg hj]
  refine ⟨by rw [e 1 (by omega)]; exact a, by rw [e 2 (by omega)]; exact b, by rw [e 3 (by omega)]; exact c, fun m hm => ?_⟩
  rw [e (40 + m) (by omega), e (50 + m) (by omega)]
  refine ⟨(d m hm).1, (d m hm).2.1, ?_⟩
  by_cases hz : m = m0
  · subst hz; simp [va_up, hx]
  · rw [e (60 + m) (by omega)]; exact (d m hm).2.2
theorem wfR_up {S : Nat → Nat} {G : Nat → Nat → Int32} (h : wfR S G) {j x : Nat} (hj : j ≠ 4) : wfR (va_up S j x) G := by
  have e : va_up S j x 4 = S 4 := by simp only [va_up]; rw [if_neg (by omega)]
  unfold wfR
  rw [e]
  exact h
theorem wfT_up {S : Nat → Nat} {G : Nat → Nat → Int32} (h : wfT S G) {j x : Nat} (hj : j ≠ 5) : wfT (va_up S j x) G := by
  have e : va_up S j x 5 = S 5 := by simp only [va_up]; rw [if_neg (by omega)]
  unfold wfT
  rw [e]
  exact h
def C_X4_likelyTruths : ip_C := fun vs hp K => ∃ tc S G, vs = [.ref 16, .ref 10] ∧ hp = hpC tc S G ∧ wfM S ∧ wfR S G ∧ K (some (.long (lN (bs 64 (fun s => allSo (va_up S 1 s) G))))) hp
def cs_X4_likelyTruths : List ip_G := [(35, 2, 4, C_X4_allSoIn)]
def I_X4_likelyTruths (tc : Int32) (S : Nat → Nat) (G : Nat → Nat → Int32) : Nat → Nat → ip_P := fun pc k L st hp => pc = 10 ∧ ∃ (s z : Nat) (x : Int64) (y : Int32), s ≤ 64 ∧ k = 64 - s ∧ L = [some (.ref 16), some (.ref 10), some (.int (nI (S 1))), some (.long x), none, some (.int y)] ∧ st = [] ∧ hp = hpC tc (va_up S 1 z) G ∧ x = lN (bs s (fun s => allSo (va_up S 1 s) G)) ∧ y = nI s
set_option maxHeartbeats 4000000 in
theorem p_X4_likelyTruths : ip_Pf fl_X4 [] cs_X4_likelyTruths (some .long) tb_X4_likelyTruths 6 C_X4_likelyTruths := by
  rintro _ _ K ⟨tc, S, G, rfl, rfl, hwf, hwr, hK⟩
  refine ⟨Nat.le_of_ble_eq_true rfl, I_X4_likelyTruths tc S G, ?_, ?_⟩
  · exact Exists.intro 64 ⟨trivial, rfl, 0, S 1, _, _, by omega, rfl, rfl, rfl, rfl, rfl, rfl⟩
  · rintro pc k L st hp ⟨rfl, s, z, x, y, hs, rfl, rfl, rfl, rfl, rfl, rfl⟩
    refine pk_le 64 s (fun h => ?_) (fun h => ?_)
    · obtain rfl : s = 64 := by omega
      exact hK
    have h1 : allSo (va_up S 1 s) G = true → lN (bs s (fun s => allSo (va_up S 1 s) G)) ||| (Int64.ofNat 1 <<< ((nI s).toInt64 &&& 63)) = lN (bs (s + 1) (fun s => allSo (va_up S 1 s) G)) := fun h3 => by rw [ls_or (bs_lt _ s) h]; simp [bs, h3]
    refine Exists.intro tc ⟨va_up S 1 s, G, rfl, rfl, wfM_tr hwf h, wfR_up hwr (by decide), ?_⟩
    refine ip_bt (fun h3 => ?_) (fun h3 => ?_)
    · exact Exists.intro (64 - (s + 1)) ⟨by show _ < _; omega, rfl, s + 1, s, _, _, by omega, rfl, rfl, rfl, rfl, by simp [bs, h3], nI_1 s⟩
    · exact Exists.intro (64 - (s + 1)) ⟨by show _ < _; omega, rfl, s + 1, s, _, _, by omega, rfl, rfl, rfl, rfl, h1 h3, nI_1 s⟩
set_option maxRecDepth 100000 in
set_option maxHeartbeats 4000000 in
theorem m_X4_likelyTruths (l : Launch) : ip_Met l yX4_likelyTruths cX4_likelyTruths 6 (some .long) (ip_rm 5) C_X4_likelyTruths := ip_met tb_X4_likelyTruths 400 (by decide +kernel) fl_X4_ok ip_cn0 (ip_cs1 (ip_gsV (m_X4_allSoIn l) (ip_in [498, 499, 500, 35, 501] (by decide +kernel) (by decide +kernel)) rfl ⟨by decide +kernel, by decide +kernel, by decide +kernel⟩ ⟨rfl, rfl, Nat.le_of_ble_eq_true rfl, Nat.le_of_ble_eq_true rfl⟩) (ip_cs0)) ck_X4_likelyTruths rfl p_X4_likelyTruths
def C_X4_likelyLists : ip_C := fun vs hp K => ∃ tc S G, ∃ m : Nat, m < 4 ∧ vs = [.ref 16, .ref 10, .ref (12 + m)] ∧ hp = hpC tc S G ∧ wfM S ∧ wfR S G ∧ K (some (.long (lN (bs 64 (fun s => allSo (va_up S (60 + m) s) G))))) hp
def cs_X4_likelyLists : List ip_G := [(35, 2, 4, C_X4_allSoIn)]
def I_X4_likelyLists (tc : Int32) (S : Nat → Nat) (G : Nat → Nat → Int32) (m : Nat) : Nat → Nat → ip_P := fun pc k L st hp => pc = 11 ∧ ∃ (s z : Nat) (x : Int64) (y : Int32), s ≤ 64 ∧ k = 64 - s ∧ L = [some (.ref 16), some (.ref 10), some (.ref (12 + m)), some (.int (nI (S (60 + m)))), some (.long x), none, some (.int y)] ∧ st = [] ∧ hp = hpC tc (va_up S (60 + m) z) G ∧ x = lN (bs s (fun s => allSo (va_up S (60 + m) s) G)) ∧ y = nI s
set_option maxHeartbeats 4000000 in
theorem p_X4_likelyLists : ip_Pf fl_X4 [] cs_X4_likelyLists (some .long) tb_X4_likelyLists 7 C_X4_likelyLists := by
  rintro _ _ K ⟨tc, S, G, m, hm, rfl, rfl, hwf, hwr, hK⟩
  refine ⟨Nat.le_of_ble_eq_true rfl, I_X4_likelyLists tc S G m, ?_, ?_⟩
  · rcases four hm with rfl | rfl | rfl | rfl
    · exact Exists.intro 64 ⟨trivial, rfl, 0, S 60, _, _, by omega, rfl, rfl, rfl, rfl, rfl, rfl⟩
    · exact Exists.intro 64 ⟨trivial, rfl, 0, S 61, _, _, by omega, rfl, rfl, rfl, rfl, rfl, rfl⟩
    · exact Exists.intro 64 ⟨trivial, rfl, 0, S 62, _, _, by omega, rfl, rfl, rfl, rfl, rfl, rfl⟩
    · exact Exists.intro 64 ⟨trivial, rfl, 0, S 63, _, _, by omega, rfl, rfl, rfl, rfl, rfl, rfl⟩
  · rintro pc k L st hp ⟨rfl, s, z, x, y, hs, rfl, rfl, rfl, rfl, rfl, rfl⟩
    have hend : 64 ≤ s → K (some (.long (lN (bs s (fun s => allSo (va_up S (60 + m) s) G))))) (hpC tc S G) := fun h => by
      obtain rfl : s = 64 := by omega
      exact hK
    have hn : s < 64 → ∀ (x : Int64) (y : Int32), x = lN (bs (s + 1) (fun s => allSo (va_up S (60 + m) s) G)) → y = nI (s + 1) → ∃ k, ip_lt k (some (64 - s)) ∧ I_X4_likelyLists tc S G m 11 k [some (.ref 16), some (.ref 10), some (.ref (12 + m)), some (.int (nI (S (60 + m)))), some (.long x), none, some (.int y)] [] (hpC tc (va_up S (60 + m) s) G) := fun h x y hx hy => ⟨64 - (s + 1), by show _ < _; omega, rfl, s + 1, s, x, y, by omega, rfl, rfl, rfl, rfl, hx, hy⟩
    have h0 : allSo (va_up S (60 + m) s) G = false → lN (bs s (fun s => allSo (va_up S (60 + m) s) G)) = lN (bs (s + 1) (fun s => allSo (va_up S (60 + m) s) G)) := fun h3 => by simp [bs, h3]
    have h1 : s < 64 → allSo (va_up S (60 + m) s) G = true → lN (bs s (fun s => allSo (va_up S (60 + m) s) G)) ||| (Int64.ofNat 1 <<< ((nI s).toInt64 &&& 63)) = lN (bs (s + 1) (fun s => allSo (va_up S (60 + m) s) G)) := fun h h3 => by rw [ls_or (bs_lt _ s) h]; simp [bs, h3]
    have w1 : s < 64 → wfM (va_up S (60 + m) s) := fun h => wfM_li hwf hm h
    have w2 : wfR (va_up S (60 + m) s) G := wfR_up hwr (by omega)
    have h9 : nI s + 1 = nI (s + 1) := nI_1 s
    rcases four hm with rfl | rfl | rfl | rfl
    all_goals
      refine pk_le 64 s (fun h => ?_) (fun h => ?_)
      · exact hend h
      refine Exists.intro tc ⟨va_up S _ s, G, rfl, rfl, w1 h, w2, ?_⟩
      refine ip_bt (fun h3 => ?_) (fun h3 => ?_)
      · exact hn h _ _ (h0 h3) h9
      · exact hn h _ _ (h1 h h3) h9
set_option maxRecDepth 100000 in
set_option maxHeartbeats 4000000 in
theorem m_X4_likelyLists (l : Launch) : ip_Met l yX4_likelyLists cX4_likelyLists 7 (some .long) (ip_rm 5) C_X4_likelyLists := ip_met tb_X4_likelyLists 400 (by decide +kernel) fl_X4_ok ip_cn0 (ip_cs1 (ip_gsV (m_X4_allSoIn l) (ip_in [498, 499, 500, 35, 501] (by decide +kernel) (by decide +kernel)) rfl ⟨by decide +kernel, by decide +kernel, by decide +kernel⟩ ⟨rfl, rfl, Nat.le_of_ble_eq_true rfl, Nat.le_of_ble_eq_true rfl⟩) (ip_cs0)) ck_X4_likelyLists rfl p_X4_likelyLists
def C_X4_likelyParishes : ip_C := fun vs hp K => ∃ tc S G, ∃ m : Nat, m < 4 ∧ vs = [.ref 16, .ref 10, .ref (12 + m)] ∧ hp = hpC tc S G ∧ wfM S ∧ wfR S G ∧ K (some (.int (nI (bs (S 2) (fun p => allSo (va_up S (50 + m) p) G))))) hp
def cs_X4_likelyParishes : List ip_G := [(35, 2, 4, C_X4_allSoIn)]
def I_X4_likelyParishes (tc : Int32) (S : Nat → Nat) (G : Nat → Nat → Int32) (m : Nat) : Nat → Nat → ip_P := fun pc k L st hp => pc = 11 ∧ ∃ (s z : Nat) (x : Int32) (y : Int32), s ≤ S 2 ∧ k = 64 - s ∧ L = [some (.ref 16), some (.ref 10), some (.ref (12 + m)), some (.int (nI (S (50 + m)))), some (.int x), some (.int y)] ∧ st = [] ∧ hp = hpC tc (va_up S (50 + m) z) G ∧ x = nI (bs s (fun s => allSo (va_up S (50 + m) s) G)) ∧ y = nI s
set_option maxHeartbeats 4000000 in
theorem p_X4_likelyParishes : ip_Pf fl_X4 [] cs_X4_likelyParishes (some .int) tb_X4_likelyParishes 6 C_X4_likelyParishes := by
  rintro _ _ K ⟨tc, S, G, m, hm, rfl, rfl, hwf, hwr, hK⟩
  have hS2 := hwf.2.1
  refine ⟨Nat.le_of_ble_eq_true rfl, I_X4_likelyParishes tc S G m, ?_, ?_⟩
  · rcases four hm with rfl | rfl | rfl | rfl
    · exact Exists.intro 64 ⟨trivial, rfl, 0, S 50, _, _, by omega, rfl, rfl, rfl, rfl, rfl, rfl⟩
    · exact Exists.intro 64 ⟨trivial, rfl, 0, S 51, _, _, by omega, rfl, rfl, rfl, rfl, rfl, rfl⟩
    · exact Exists.intro 64 ⟨trivial, rfl, 0, S 52, _, _, by omega, rfl, rfl, rfl, rfl, rfl, rfl⟩
    · exact Exists.intro 64 ⟨trivial, rfl, 0, S 53, _, _, by omega, rfl, rfl, rfl, rfl, rfl, rfl⟩
  · rintro pc k L st hp ⟨rfl, s, z, x, y, hs, rfl, rfl, rfl, rfl, rfl, rfl⟩
    have hend : S 2 ≤ s → K (some (.int (nI (bs s (fun s => allSo (va_up S (50 + m) s) G))))) (hpC tc S G) := fun h => by
      obtain rfl : s = S 2 := by omega
      exact hK
    have hbr : ∀ {X Y : Prop}, (S 2 ≤ s → X) → (s < S 2 → Y) → (nI (S 2) ≤ nI s → X) ∧ (¬ nI (S 2) ≤ nI s → Y) := fun f g => pk_le (S 2) s f g
    have hn : s < S 2 → ∀ (x : Int32) (y : Int32), x = nI (bs (s + 1) (fun s => allSo (va_up S (50 + m) s) G)) → y = nI (s + 1) → ∃ k, ip_lt k (some (64 - s)) ∧ I_X4_likelyParishes tc S G m 11 k [some (.ref 16), some (.ref 10), some (.ref (12 + m)), some (.int (nI (S (50 + m)))), some (.int x), some (.int y)] [] (hpC tc (va_up S (50 + m) s) G) := fun h x y hx hy => ⟨64 - (s + 1), by show _ < _; omega, rfl, s + 1, s, x, y, by omega, rfl, rfl, rfl, rfl, hx, hy⟩
    have h0 : allSo (va_up S (50 + m) s) G = false → nI (bs s (fun s => allSo (va_up S (50 + m) s) G)) = nI (bs (s + 1) (fun s => allSo (va_up S (50 + m) s) G)) := fun h3 => by simp [bs, h3]
    have h1 : allSo (va_up S (50 + m) s) G = true → nI (bs s (fun s => allSo (va_up S (50 + m) s) G)) ||| ((1 : Int32) <<< (nI s &&& 31)) = nI (bs (s + 1) (fun s => allSo (va_up S (50 + m) s) G)) := fun h3 => by rw [or_bit (bs_lt _ s) (by omega)]; simp [bs, h3]
    have w1 : s < S 2 → wfM (va_up S (50 + m) s) := fun h => wfM_pl hwf hm (by omega)
    have w2 : wfR (va_up S (50 + m) s) G := wfR_up hwr (by omega)
    have h9 : nI s + 1 = nI (s + 1) := nI_1 s
    rcases four hm with rfl | rfl | rfl | rfl
    all_goals
      refine hbr (fun h => ?_) (fun h => ?_)
      · exact hend h
      refine Exists.intro tc ⟨va_up S _ s, G, rfl, rfl, w1 h, w2, ?_⟩
      refine ip_bt (fun h3 => ?_) (fun h3 => ?_)
      · exact hn h _ _ (h0 h3) h9
      · exact hn h _ _ (h1 h3) h9
set_option maxRecDepth 100000 in
set_option maxHeartbeats 4000000 in
theorem m_X4_likelyParishes (l : Launch) : ip_Met l yX4_likelyParishes cX4_likelyParishes 6 (some .int) (ip_rm 5) C_X4_likelyParishes := ip_met tb_X4_likelyParishes 400 (by decide +kernel) fl_X4_ok ip_cn0 (ip_cs1 (ip_gsV (m_X4_allSoIn l) (ip_in [498, 499, 500, 35, 501] (by decide +kernel) (by decide +kernel)) rfl ⟨by decide +kernel, by decide +kernel, by decide +kernel⟩ ⟨rfl, rfl, Nat.le_of_ble_eq_true rfl, Nat.le_of_ble_eq_true rfl⟩) (ip_cs0)) ck_X4_likelyParishes rfl p_X4_likelyParishes
def C_X4_likelyKinds : ip_C := fun vs hp K => ∃ tc S G, ∃ m : Nat, m < 4 ∧ vs = [.ref 16, .ref 10, .ref (12 + m)] ∧ hp = hpC tc S G ∧ wfM S ∧ wfR S G ∧ K (some (.int (nI (bs 3 (fun p => allSo (va_up S (40 + m) p) G))))) hp
def cs_X4_likelyKinds : List ip_G := [(35, 2, 4, C_X4_allSoIn)]
def I_X4_likelyKinds (tc : Int32) (S : Nat → Nat) (G : Nat → Nat → Int32) (m : Nat) : Nat → Nat → ip_P := fun pc k L st hp => pc = 11 ∧ ∃ (s z : Nat) (x : Int32) (y : Int32), s ≤ 3 ∧ k = 64 - s ∧ L = [some (.ref 16), some (.ref 10), some (.ref (12 + m)), some (.int (nI (S (40 + m)))), some (.int x), some (.int y)] ∧ st = [] ∧ hp = hpC tc (va_up S (40 + m) z) G ∧ x = nI (bs s (fun s => allSo (va_up S (40 + m) s) G)) ∧ y = nI s
set_option maxHeartbeats 4000000 in
theorem p_X4_likelyKinds : ip_Pf fl_X4 [] cs_X4_likelyKinds (some .int) tb_X4_likelyKinds 6 C_X4_likelyKinds := by
  rintro _ _ K ⟨tc, S, G, m, hm, rfl, rfl, hwf, hwr, hK⟩
  refine ⟨Nat.le_of_ble_eq_true rfl, I_X4_likelyKinds tc S G m, ?_, ?_⟩
  · rcases four hm with rfl | rfl | rfl | rfl
    · exact Exists.intro 64 ⟨trivial, rfl, 0, S 40, _, _, by omega, rfl, rfl, rfl, rfl, rfl, rfl⟩
    · exact Exists.intro 64 ⟨trivial, rfl, 0, S 41, _, _, by omega, rfl, rfl, rfl, rfl, rfl, rfl⟩
    · exact Exists.intro 64 ⟨trivial, rfl, 0, S 42, _, _, by omega, rfl, rfl, rfl, rfl, rfl, rfl⟩
    · exact Exists.intro 64 ⟨trivial, rfl, 0, S 43, _, _, by omega, rfl, rfl, rfl, rfl, rfl, rfl⟩
  · rintro pc k L st hp ⟨rfl, s, z, x, y, hs, rfl, rfl, rfl, rfl, rfl, rfl⟩
    have hend : 3 ≤ s → K (some (.int (nI (bs s (fun s => allSo (va_up S (40 + m) s) G))))) (hpC tc S G) := fun h => by
      obtain rfl : s = 3 := by omega
      exact hK
    have hbr : ∀ {X Y : Prop}, (3 ≤ s → X) → (s < 3 → Y) → (nI 3 ≤ nI s → X) ∧ (¬ nI 3 ≤ nI s → Y) := fun f g => pk_le 3 s f g
    have hn : s < 3 → ∀ (x : Int32) (y : Int32), x = nI (bs (s + 1) (fun s => allSo (va_up S (40 + m) s) G)) → y = nI (s + 1) → ∃ k, ip_lt k (some (64 - s)) ∧ I_X4_likelyKinds tc S G m 11 k [some (.ref 16), some (.ref 10), some (.ref (12 + m)), some (.int (nI (S (40 + m)))), some (.int x), some (.int y)] [] (hpC tc (va_up S (40 + m) s) G) := fun h x y hx hy => ⟨64 - (s + 1), by show _ < _; omega, rfl, s + 1, s, x, y, by omega, rfl, rfl, rfl, rfl, hx, hy⟩
    have h0 : allSo (va_up S (40 + m) s) G = false → nI (bs s (fun s => allSo (va_up S (40 + m) s) G)) = nI (bs (s + 1) (fun s => allSo (va_up S (40 + m) s) G)) := fun h3 => by simp [bs, h3]
    have h1 : allSo (va_up S (40 + m) s) G = true → nI (bs s (fun s => allSo (va_up S (40 + m) s) G)) ||| ((1 : Int32) <<< (nI s &&& 31)) = nI (bs (s + 1) (fun s => allSo (va_up S (40 + m) s) G)) := fun h3 => by rw [or_bit (bs_lt _ s) (by omega)]; simp [bs, h3]
    have w1 : s < 3 → wfM (va_up S (40 + m) s) := fun h => wfM_kd hwf hm (by omega)
    have w2 : wfR (va_up S (40 + m) s) G := wfR_up hwr (by omega)
    have h9 : nI s + 1 = nI (s + 1) := nI_1 s
    rcases four hm with rfl | rfl | rfl | rfl
    all_goals
      refine hbr (fun h => ?_) (fun h => ?_)
      · exact hend h
      refine Exists.intro tc ⟨va_up S _ s, G, rfl, rfl, w1 h, w2, ?_⟩
      refine ip_bt (fun h3 => ?_) (fun h3 => ?_)
      · exact hn h _ _ (h0 h3) h9
      · exact hn h _ _ (h1 h3) h9
set_option maxRecDepth 100000 in
set_option maxHeartbeats 4000000 in
theorem m_X4_likelyKinds (l : Launch) : ip_Met l yX4_likelyKinds cX4_likelyKinds 6 (some .int) (ip_rm 5) C_X4_likelyKinds := ip_met tb_X4_likelyKinds 400 (by decide +kernel) fl_X4_ok ip_cn0 (ip_cs1 (ip_gsV (m_X4_allSoIn l) (ip_in [498, 499, 500, 35, 501] (by decide +kernel) (by decide +kernel)) rfl ⟨by decide +kernel, by decide +kernel, by decide +kernel⟩ ⟨rfl, rfl, Nat.le_of_ble_eq_true rfl, Nat.le_of_ble_eq_true rfl⟩) (ip_cs0)) ck_X4_likelyKinds rfl p_X4_likelyKinds
