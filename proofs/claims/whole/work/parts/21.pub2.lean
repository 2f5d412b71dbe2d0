/-! ===== more of the class's calls ===== -/
def r_answer (S : Nat → Nat) (m q : Int32) : Int32 := if ¬ inI m (S 3) then -1 else if ¬ inI q 6 then -2 else if ar (S 1) (S (40 + nt m)) (S (60 + nt m)) (nt q) then ip_bi ((S 1).testBit (nt q)) else if aw (S 1) (S (40 + nt m)) (S (60 + nt m)) (nt q) then 1 - ip_bi ((S 1).testBit (nt q)) else -9
def C_X7_answer : ip_C := fun vs hp K => ∃ tc S G, ∃ m q : Int32, vs = [.ref 0, .int m, .int q] ∧ hp = hpC tc S G ∧ wfC S G ∧ K (some (.int (r_answer S m q))) hp
def cs_X7_answer : List ip_G := [(82, 2, 1, C_X0_manOf), (110, 1, 0, C_X7_isQuestion), (113, 2, 0, C_X7_holds), (117, 2, 2, C_X2_rightBy), (120, 2, 2, C_X2_wrongBy)]
set_option maxHeartbeats 4000000 in
theorem p_X7_answer : ip_Pf fl_X7 cn_X7 cs_X7_answer (some .int) tb_X7_answer 5 C_X7_answer := ip_pf0 (by
  rintro _ _ K ⟨tc, S, G, m, q, rfl, rfl, hwf, hK⟩
  refine ⟨Nat.le_of_ble_eq_true rfl, ?_⟩
  obtain ⟨w1, w2, w3, w4⟩ := hwf.1
  refine Exists.intro tc ⟨S, G, m, rfl, rfl, w3, fun hn => ?_, fun i hi e => ?_⟩
  · rw [r_answer, if_pos hn] at hK; exact hK
  subst e
  have hm := inI_n hi (by omega)
  rw [r_answer, if_neg (not_not_intro hm), nt_n (by omega)] at hK
  have hi4 : i < 4 := by omega
  obtain ⟨k1, k2, k3⟩ := w4 i hi4
  refine Exists.intro q ⟨rfl, fun b hb => ?_⟩
  refine ip_bn (fun h => ?_) (fun h => ?_)
  · have hin2 : inI q 6 := hb.mp h
    rw [if_neg (not_not_intro hin2)] at hK
    obtain ⟨j, hj, rfl, ej⟩ := ti_of hin2.1
    rw [nt_n hj] at hK
    have l2 : j < 6 := by have := hin2.2; omega
    have r1 := rb_lt (kd := S (40 + i)) w1 k3
    have r2 := wb_lt (kd := S (40 + i)) w1 k3
    have e1 := rb_bit (tr := S 1) (kd := S (40 + i)) (li := S (60 + i)) j
    have e2 := wbs_bit (kd := S (40 + i)) w1 k3 l2
    have ka : ∀ c : Bool, (S 1).testBit j = c → (rb (S 1) (S (40 + i)) (S (60 + i))).testBit j = true → K (some (.int (ip_bi c))) (hpC tc S G) := fun c ec h => by rw [e1] at h; rw [if_pos h, ec] at hK; exact hK
    have kb : ∀ c : Bool, (S 1).testBit j = c → (rb (S 1) (S (40 + i)) (S (60 + i))).testBit j = false → (wb (S 1) (S (40 + i)) (S (60 + i))).testBit j = true → K (some (.int (1 - ip_bi c))) (hpC tc S G) := fun c ec h h2 => by rw [e1] at h; rw [e2] at h2; rw [if_neg (by rw [h]; simp), if_pos h2, ec] at hK; exact hK
    have kc : (rb (S 1) (S (40 + i)) (S (60 + i))).testBit j = false → (wb (S 1) (S (40 + i)) (S (60 + i))).testBit j = false → K (some (.int (-9))) (hpC tc S G) := fun h h2 => by rw [e1] at h; rw [e2] at h2; rw [if_neg (by rw [h]; simp), if_neg (by rw [h2]; simp)] at hK; exact hK
    clear hK hb hin2 ej hj hm e1 e2
    refine Exists.intro (S 1) ⟨j, w1, l2, rfl, ?_⟩
    refine ip_bt (fun h3 => ?_) (fun h3 => ?_)
    · rcases four hi4 with rfl | rfl | rfl | rfl
      all_goals
        refine Exists.intro tc ⟨S, G, _, S 1, hi4, rfl, rfl, hwf.1, ?_⟩
        refine Exists.intro _ ⟨j, r1, l2, rfl, ?_⟩
        refine ip_bt (fun h4 => ?_) (fun h4 => ?_)
        · refine Exists.intro tc ⟨S, G, _, S 1, hi4, w1, rfl, rfl, hwf.1, ?_⟩
          refine Exists.intro _ ⟨j, r2, l2, rfl, ?_⟩
          refine ip_bt (fun h5 => ?_) (fun h5 => ?_)
          · exact kc h4 h5
          · exact kb false h3 h4 h5
        · exact ka false h3 h4
    · rcases four hi4 with rfl | rfl | rfl | rfl
      all_goals
        refine Exists.intro tc ⟨S, G, _, S 1, hi4, rfl, rfl, hwf.1, ?_⟩
        refine Exists.intro _ ⟨j, r1, l2, rfl, ?_⟩
        refine ip_bt (fun h4 => ?_) (fun h4 => ?_)
        · refine Exists.intro tc ⟨S, G, _, S 1, hi4, w1, rfl, rfl, hwf.1, ?_⟩
          refine Exists.intro _ ⟨j, r2, l2, rfl, ?_⟩
          refine ip_bt (fun h5 => ?_) (fun h5 => ?_)
          · exact kc h4 h5
          · exact kb true h3 h4 h5
        · exact ka true h3 h4
  · have hin : ¬ inI q 6 := fun z => by rw [hb.mpr z] at h; cases h
    rw [if_pos hin] at hK
    exact hK)
set_option maxRecDepth 100000 in
set_option maxHeartbeats 4000000 in
theorem m_X7_answer (l : Launch) : ip_Met l yX7_answer cX7_answer 5 (some .int) (ip_rm 1) C_X7_answer := ip_met tb_X7_answer 400 (by decide +kernel) fl_X7_ok cn_X7_ok (ip_cs1 (ip_gsV (m_X0_manOf l) (ip_in [284, 285, 286, 33, 287] (by decide +kernel) (by decide +kernel)) rfl ⟨by decide +kernel, by decide +kernel, by decide +kernel⟩ ⟨rfl, rfl, Nat.le_of_ble_eq_true rfl, Nat.le_of_ble_eq_true rfl⟩) (ip_cs1 (ip_gsS (m_X7_isQuestion l) (ip_in [315, 316, 32, 317] (by decide +kernel) (by decide +kernel)) ⟨by decide +kernel, by decide +kernel, by decide +kernel⟩ ⟨rfl, rfl, Nat.le_of_ble_eq_true rfl, Nat.le_of_ble_eq_true rfl⟩) (ip_cs1 (ip_gsS (m_X7_holds l) (ip_in [318, 319, 32, 320] (by decide +kernel) (by decide +kernel)) ⟨by decide +kernel, by decide +kernel, by decide +kernel⟩ ⟨rfl, rfl, Nat.le_of_ble_eq_true rfl, Nat.le_of_ble_eq_true rfl⟩) (ip_cs1 (ip_gsV (m_X2_rightBy l) (ip_in [321, 322, 323, 34, 324] (by decide +kernel) (by decide +kernel)) rfl ⟨by decide +kernel, by decide +kernel, by decide +kernel⟩ ⟨rfl, rfl, Nat.le_of_ble_eq_true rfl, Nat.le_of_ble_eq_true rfl⟩) (ip_cs1 (ip_gsV (m_X2_wrongBy l) (ip_in [325, 326, 327, 34, 328] (by decide +kernel) (by decide +kernel)) rfl ⟨by decide +kernel, by decide +kernel, by decide +kernel⟩ ⟨rfl, rfl, Nat.le_of_ble_eq_true rfl, Nat.le_of_ble_eq_true rfl⟩) (ip_cs0)))))) ck_X7_answer rfl p_X7_answer
def q_reading (S : Nat → Nat) (G : Nat → Nat → Int32) (p q : Int32) (b : Bool) : Int32 × (Nat → Nat) × (Nat → Nat → Int32) := if ¬ inI p (S 2) then (-1, S, G) else if ¬ inI q 6 then (-2, S, G) else if S 4 = 8 then (-4, S, G) else (nI (S 4), va_up S 4 (S 4 + 1), va_up (va_up (va_up G 4 (upd (G 4) (S 4) p)) 5 (upd (G 5) (S 4) q)) 6 (upd (G 6) (S 4) (ip_bi b)))
def C_X7_reading : ip_C := fun vs hp K => ∃ tc S G, ∃ (p q : Int32) (b : Bool), vs = [.ref 0, .int p, .int q, .int (ip_bi b)] ∧ hp = hpC tc S G ∧ wfC S G ∧ K (some (.int (q_reading S G p q b).1)) (hpC tc (q_reading S G p q b).2.1 (q_reading S G p q b).2.2)
def cs_X7_reading : List ip_G := [(107, 2, 1, C_X0_hasParish), (110, 1, 0, C_X7_isQuestion), (198, 4, 4, C_X4_note)]
theorem p_X7_reading : ip_Pf fl_X7 cn_X7 cs_X7_reading (some .int) tb_X7_reading 4 C_X7_reading := ip_pf0 (by
  rintro _ _ K ⟨tc, S, G, p, q, bb, rfl, rfl, hwf, hK⟩
  refine ⟨Nat.le_of_ble_eq_true rfl, ?_⟩
  have w2 := hwf.1.2.1
  have w4 := hwf.2.2.1.1
  refine Exists.intro tc ⟨S, G, p, rfl, rfl, w2, fun b hb => ?_⟩
  refine ip_bn (fun h => ?_) (fun h => ?_)
  · have hin : inI p (S 2) := hb.mp h
    rw [q_reading, if_neg (not_not_intro hin)] at hK
    refine Exists.intro q ⟨rfl, fun b2 hb2 => ?_⟩
    refine ip_bn (fun h2 => ?_) (fun h2 => ?_)
    · have hin2 : inI q 6 := hb2.mp h2
      rw [if_neg (not_not_intro hin2)] at hK
      refine Exists.intro tc ⟨S, G, p, q, bb, rfl, rfl, w4, fun h8 => ?_, fun h8 hp' e => ?_⟩
      · rw [if_pos h8] at hK
        refine And.intro (fun _ => hK) (fun z => absurd rfl z)
      · rw [if_neg (by omega)] at hK
        subst e
        have hs : nI (S 4 + 1) - 1 = nI (S 4) := nI_pred (S 4)
        have hK' : K (some (.int (nI (S 4 + 1) - 1))) (hpC tc (va_up S 4 (S 4 + 1)) (va_up (va_up (va_up G 4 (upd (G 4) (S 4) p)) 5 (upd (G 5) (S 4) q)) 6 (upd (G 6) (S 4) (ip_bi bb)))) := by rw [hs]; exact hK
        refine And.intro (fun z => absurd z (by decide)) (fun _ => hK')
    · have hin2 : ¬ inI q 6 := fun z => by rw [hb2.mpr z] at h2; cases h2
      rw [if_pos hin2] at hK
      exact hK
  · have hin : ¬ inI p (S 2) := fun z => by rw [hb.mpr z] at h; cases h
    rw [q_reading, if_pos hin] at hK
    exact hK)
set_option maxRecDepth 100000 in
set_option maxHeartbeats 4000000 in
theorem m_X7_reading (l : Launch) : ip_Met l yX7_reading cX7_reading 4 (some .int) (ip_rm 1) C_X7_reading := ip_met tb_X7_reading 400 (by decide +kernel) fl_X7_ok cn_X7_ok (ip_cs1 (ip_gsV (m_X0_hasParish l) (ip_in [303, 304, 305, 33, 306] (by decide +kernel) (by decide +kernel)) rfl ⟨by decide +kernel, by decide +kernel, by decide +kernel⟩ ⟨rfl, rfl, Nat.le_of_ble_eq_true rfl, Nat.le_of_ble_eq_true rfl⟩) (ip_cs1 (ip_gsS (m_X7_isQuestion l) (ip_in [315, 316, 32, 317] (by decide +kernel) (by decide +kernel)) ⟨by decide +kernel, by decide +kernel, by decide +kernel⟩ ⟨rfl, rfl, Nat.le_of_ble_eq_true rfl, Nat.le_of_ble_eq_true rfl⟩) (ip_cs1 (ip_gsV (m_X4_note l) (ip_in [482, 483, 484, 35, 485] (by decide +kernel) (by decide +kernel)) rfl ⟨by decide +kernel, by decide +kernel, by decide +kernel⟩ ⟨rfl, rfl, Nat.le_of_ble_eq_true rfl, Nat.le_of_ble_eq_true rfl⟩) (ip_cs0)))) ck_X7_reading rfl p_X7_reading
def r_stood (S : Nat → Nat) (G : Nat → Nat → Int32) (m : Int32) : Int32 := if ¬ inI m (S 3) then -1 else nI (bs (S 2) (fun p => allSo (va_up S (50 + nt m) p) G))
def C_X7_stood : ip_C := fun vs hp K => ∃ tc S G, ∃ m : Int32, vs = [.ref 0, .int m] ∧ hp = hpC tc S G ∧ wfC S G ∧ K (some (.int (r_stood S G m))) hp
def cs_X7_stood : List ip_G := [(82, 2, 1, C_X0_manOf), (215, 3, 4, C_X4_likelyParishes)]
theorem p_X7_stood : ip_Pf fl_X7 cn_X7 cs_X7_stood (some .int) tb_X7_stood 3 C_X7_stood := ip_pf0 (by
  rintro _ _ K ⟨tc, S, G, m, rfl, rfl, hwf, hK⟩
  refine ⟨Nat.le_of_ble_eq_true rfl, ?_⟩
  have w3 := hwf.1.2.2.1
  refine Exists.intro tc ⟨S, G, m, rfl, rfl, w3, fun hn => ?_, fun i hi e => ?_⟩
  · rw [r_stood, if_pos hn] at hK; exact hK
  subst e
  have hm := inI_n hi (by omega)
  rw [r_stood, if_neg (not_not_intro hm), nt_n (by omega)] at hK
  exact Exists.intro tc ⟨S, G, i, by omega, rfl, rfl, hwf.1, hwf.2.2.1, hK⟩)
set_option maxRecDepth 100000 in
set_option maxHeartbeats 4000000 in
theorem m_X7_stood (l : Launch) : ip_Met l yX7_stood cX7_stood 3 (some .int) (ip_rm 6) C_X7_stood := ip_met tb_X7_stood 400 (by decide +kernel) fl_X7_ok cn_X7_ok (ip_cs1 (ip_gsV (m_X0_manOf l) (ip_in [284, 285, 286, 33, 287] (by decide +kernel) (by decide +kernel)) rfl ⟨by decide +kernel, by decide +kernel, by decide +kernel⟩ ⟨rfl, rfl, Nat.le_of_ble_eq_true rfl, Nat.le_of_ble_eq_true rfl⟩) (ip_cs1 (ip_gsV (m_X4_likelyParishes l) (ip_in [519, 520, 521, 35, 522] (by decide +kernel) (by decide +kernel)) rfl ⟨by decide +kernel, by decide +kernel, by decide +kernel⟩ ⟨rfl, rfl, Nat.le_of_ble_eq_true rfl, Nat.le_of_ble_eq_true rfl⟩) (ip_cs0))) ck_X7_stood rfl p_X7_stood
def r_kinds (S : Nat → Nat) (G : Nat → Nat → Int32) (m : Int32) : Int32 := if ¬ inI m (S 3) then -1 else nI (bs 3 (fun p => allSo (va_up S (40 + nt m) p) G))
def C_X7_kinds : ip_C := fun vs hp K => ∃ tc S G, ∃ m : Int32, vs = [.ref 0, .int m] ∧ hp = hpC tc S G ∧ wfC S G ∧ K (some (.int (r_kinds S G m))) hp
def cs_X7_kinds : List ip_G := [(82, 2, 1, C_X0_manOf), (219, 3, 4, C_X4_likelyKinds)]
theorem p_X7_kinds : ip_Pf fl_X7 cn_X7 cs_X7_kinds (some .int) tb_X7_kinds 3 C_X7_kinds := ip_pf0 (by
  rintro _ _ K ⟨tc, S, G, m, rfl, rfl, hwf, hK⟩
  refine ⟨Nat.le_of_ble_eq_true rfl, ?_⟩
  have w3 := hwf.1.2.2.1
  refine Exists.intro tc ⟨S, G, m, rfl, rfl, w3, fun hn => ?_, fun i hi e => ?_⟩
  · rw [r_kinds, if_pos hn] at hK; exact hK
  subst e
  have hm := inI_n hi (by omega)
  rw [r_kinds, if_neg (not_not_intro hm), nt_n (by omega)] at hK
  exact Exists.intro tc ⟨S, G, i, by omega, rfl, rfl, hwf.1, hwf.2.2.1, hK⟩)
set_option maxRecDepth 100000 in
set_option maxHeartbeats 4000000 in
theorem m_X7_kinds (l : Launch) : ip_Met l yX7_kinds cX7_kinds 3 (some .int) (ip_rm 6) C_X7_kinds := ip_met tb_X7_kinds 400 (by decide +kernel) fl_X7_ok cn_X7_ok (ip_cs1 (ip_gsV (m_X0_manOf l) (ip_in [284, 285, 286, 33, 287] (by decide +kernel) (by decide +kernel)) rfl ⟨by decide +kernel, by decide +kernel, by decide +kernel⟩ ⟨rfl, rfl, Nat.le_of_ble_eq_true rfl, Nat.le_of_ble_eq_true rfl⟩) (ip_cs1 (ip_gsV (m_X4_likelyKinds l) (ip_in [527, 528, 529, 35, 530] (by decide +kernel) (by decide +kernel)) rfl ⟨by decide +kernel, by decide +kernel, by decide +kernel⟩ ⟨rfl, rfl, Nat.le_of_ble_eq_true rfl, Nat.le_of_ble_eq_true rfl⟩) (ip_cs0))) ck_X7_kinds rfl p_X7_kinds
theorem ct_bs (f : Nat → Bool) : fb_ct (fun i => (bs 64 f).testBit i) 64 = fb_ct f 64 := fb_ct_cong (fun i hi => by rw [bs_bit]; simp [hi])
def r_knew (S : Nat → Nat) (G : Nat → Nat → Int32) (m w : Int32) : Int32 := if ¬ inI m (S 3) then -1 else if w.toInt = 0 then nI (fb_ct (fun s => allSo (va_up S (60 + nt m) s) G) 64) else if w.toInt = 1 then ob (fqB (fun s => allSo (va_up S (60 + nt m) s) G) 64) else -2
def C_X7_knew : ip_C := fun vs hp K => ∃ tc S G, ∃ m w : Int32, vs = [.ref 0, .int m, .int w] ∧ hp = hpC tc S G ∧ wfC S G ∧ K (some (.int (r_knew S G m w))) hp
def cs_X7_knew : List ip_G := [(82, 2, 1, C_X0_manOf), (222, 3, 4, C_X4_likelyLists), (206, 1, 0, C_J13_bitCount), (157, 1, 0, C_X7_fewestQuestions)]
theorem p_X7_knew : ip_Pf fl_X7 cn_X7 cs_X7_knew (some .int) tb_X7_knew 6 C_X7_knew := ip_pf0 (by
  rintro _ _ K ⟨tc, S, G, m, w, rfl, rfl, hwf, hK⟩
  refine ⟨Nat.le_of_ble_eq_true rfl, ?_⟩
  have w3 := hwf.1.2.2.1
  refine Exists.intro tc ⟨S, G, m, rfl, rfl, w3, fun hn => ?_, fun i hi e => ?_⟩
  · rw [r_knew, if_pos hn] at hK; exact hK
  subst e
  have hm := inI_n hi (by omega)
  rw [r_knew, if_neg (not_not_intro hm), nt_n (by omega)] at hK
  have hl : bs 64 (fun s => allSo (va_up S (60 + i) s) G) < 2 ^ 64 := bs_lt _ 64
  have e0 := ct_bs (fun s => allSo (va_up S (60 + i) s) G)
  refine bz_eq w.toInt 0 (fun h => ?_) (fun h => ?_)
  · rw [if_pos h, ← e0] at hK
    refine Exists.intro tc ⟨S, G, i, by omega, rfl, rfl, hwf.1, hwf.2.2.1, ?_⟩
    refine bz_ne w.toInt 0 (fun h2 => absurd h h2) (fun _ => ?_)
    exact Exists.intro _ ⟨hl, rfl, hK⟩
  refine bz_eq w.toInt 1 (fun h1 => ?_) (fun h1 => ?_)
  · rw [if_neg h, if_pos h1] at hK
    refine Exists.intro tc ⟨S, G, i, by omega, rfl, rfl, hwf.1, hwf.2.2.1, ?_⟩
    refine bz_ne w.toInt 0 (fun h2 => ?_) (fun h2 => absurd h2 h)
    exact Exists.intro _ ⟨rfl, hK⟩
  · rw [if_neg h, if_neg h1] at hK
    exact hK)
set_option maxRecDepth 100000 in
set_option maxHeartbeats 4000000 in
theorem m_X7_knew (l : Launch) : ip_Met l yX7_knew cX7_knew 6 (some .int) (ip_rm 6) C_X7_knew := ip_met tb_X7_knew 400 (by decide +kernel) fl_X7_ok cn_X7_ok (ip_cs1 (ip_gsV (m_X0_manOf l) (ip_in [284, 285, 286, 33, 287] (by decide +kernel) (by decide +kernel)) rfl ⟨by decide +kernel, by decide +kernel, by decide +kernel⟩ ⟨rfl, rfl, Nat.le_of_ble_eq_true rfl, Nat.le_of_ble_eq_true rfl⟩) (ip_cs1 (ip_gsV (m_X4_likelyLists l) (ip_in [535, 536, 537, 35, 538] (by decide +kernel) (by decide +kernel)) rfl ⟨by decide +kernel, by decide +kernel, by decide +kernel⟩ ⟨rfl, rfl, Nat.le_of_ble_eq_true rfl, Nat.le_of_ble_eq_true rfl⟩) (ip_cs1 (ip_gsS (m_J13_bitCount l) (ip_in [503, 504, 45, 505] (by decide +kernel) (by decide +kernel)) ⟨by decide +kernel, by decide +kernel, by decide +kernel⟩ ⟨rfl, rfl, Nat.le_of_ble_eq_true rfl, Nat.le_of_ble_eq_true rfl⟩) (ip_cs1 (ip_gsS (m_X7_fewestQuestions l) (ip_in [427, 428, 32, 429] (by decide +kernel) (by decide +kernel)) ⟨by decide +kernel, by decide +kernel, by decide +kernel⟩ ⟨rfl, rfl, Nat.le_of_ble_eq_true rfl, Nat.le_of_ble_eq_true rfl⟩) (ip_cs0))))) ck_X7_knew rfl p_X7_knew
def r_truths (S : Nat → Nat) (G : Nat → Nat → Int32) (w : Int32) : Int32 := if ¬ (w.toInt = 0 ∨ w.toInt = 1 ∨ (10 ≤ w.toInt ∧ w.toInt ≤ 15)) then -2 else if S 2 = 0 then -3 else if w.toInt = 0 then nI (fb_ct (fun s => allSo (va_up S 1 s) G) 64) else if w.toInt = 1 then ob (lst (fun s => allSo (va_up S 1 s) G) 64) else nI (fb_ct (fun s => allSo (va_up S 1 s) G && s.testBit (w.toInt.toNat - 10)) 64)
def C_X7_truths : ip_C := fun vs hp K => ∃ tc S G, ∃ w : Int32, vs = [.ref 0, .int w] ∧ hp = hpC tc S G ∧ wfC S G ∧ K (some (.int (r_truths S G w))) hp
def cs_X7_truths : List ip_G := [(110, 1, 0, C_X7_isQuestion), (100, 1, 1, C_X0_isThere), (202, 2, 4, C_X4_likelyTruths), (206, 1, 0, C_J13_bitCount), (208, 2, 0, C_X7_countHolding), (212, 1, 0, C_X7_leastOf)]
set_option maxHeartbeats 4000000 in
theorem p_X7_truths : ip_Pf fl_X7 cn_X7 cs_X7_truths (some .int) tb_X7_truths 5 C_X7_truths := ip_pf0 (by
  rintro _ _ K ⟨tc, S, G, w, rfl, rfl, hwf, hK⟩
  refine ⟨Nat.le_of_ble_eq_true rfl, ?_⟩
  have w2 := hwf.1.2.1
  have hl : bs 64 (fun s => allSo (va_up S 1 s) G) < 2 ^ 64 := bs_lt _ 64
  have e0 := ct_bs (fun s => allSo (va_up S 1 s) G)
  have hr := fb_rng w
  have k2 : ¬ (w.toInt = 0 ∨ w.toInt = 1 ∨ (10 ≤ w.toInt ∧ w.toInt ≤ 15)) → K (some (.int (-2))) (hpC tc S G) := fun h => by rw [r_truths, if_pos h] at hK; exact hK
  have k3 : (w.toInt = 0 ∨ w.toInt = 1 ∨ (10 ≤ w.toInt ∧ w.toInt ≤ 15)) → S 2 = 0 → K (some (.int (-3))) (hpC tc S G) := fun h h2 => by rw [r_truths, if_neg (not_not_intro h), if_pos h2] at hK; exact hK
  have k0 : S 2 ≠ 0 → w.toInt = 0 → K (some (.int (nI (fb_ct (fun i => (bs 64 (fun s => allSo (va_up S 1 s) G)).testBit i) 64)))) (hpC tc S G) := fun h h2 => by rw [r_truths, if_neg (not_not_intro (Or.inl h2)), if_neg h, if_pos h2, ← e0] at hK; exact hK
  have k1 : S 2 ≠ 0 → w.toInt = 1 → K (some (.int (ob (lst (fun s => allSo (va_up S 1 s) G) 64)))) (hpC tc S G) := fun h h2 => by rw [r_truths, if_neg (not_not_intro (Or.inr (Or.inl h2))), if_neg h, if_neg (by omega), if_pos h2] at hK; exact hK
  have k10 : S 2 ≠ 0 → (10 ≤ w.toInt ∧ w.toInt ≤ 15) → K (some (.int (nI (fb_ct (fun s => allSo (va_up S 1 s) G && s.testBit (w.toInt.toNat - 10)) 64)))) (hpC tc S G) := fun h h2 => by rw [r_truths, if_neg (not_not_intro (Or.inr (Or.inr h2))), if_neg h, if_neg (by omega), if_neg (by omega)] at hK; exact hK
  clear hK
  have t10 : (10 : Int32).toInt = 10 := by decide
  refine bz_lt w.toInt 10 (fun h => ?_) (fun h => ?_)
  · refine bz_eq w.toInt 0 (fun h1 => ?_) (fun h1 => ?_)
    · refine Exists.intro tc ⟨S, G, rfl, rfl, w2, ?_⟩
      refine ip_bn (fun h2 => ?_) (fun h2 => ?_)
      · have h2 := of_decide_eq_true h2
        refine Exists.intro tc ⟨S, G, rfl, rfl, hwf.1, hwf.2.2.1, ?_⟩
        refine bz_ne w.toInt 0 (fun h3 => absurd h1 h3) (fun _ => ?_)
        exact Exists.intro _ ⟨hl, rfl, k0 (by omega) h1⟩
      · have h2 := of_decide_eq_false h2
        exact k3 (Or.inl h1) (by omega)
    refine bz_eq w.toInt 1 (fun h2 => ?_) (fun h2 => ?_)
    · refine Exists.intro tc ⟨S, G, rfl, rfl, w2, ?_⟩
      refine ip_bn (fun h3 => ?_) (fun h3 => ?_)
      · have h3 := of_decide_eq_true h3
        refine Exists.intro tc ⟨S, G, rfl, rfl, hwf.1, hwf.2.2.1, ?_⟩
        refine bz_ne w.toInt 0 (fun _ => ?_) (fun h4 => absurd h4 h1)
        refine And.intro (fun _ => ?_) (fun h5 => absurd rfl h5)
        exact Exists.intro _ ⟨rfl, k1 (by omega) h2⟩
      · have h3 := of_decide_eq_false h3
        exact k3 (Or.inr (Or.inl h2)) (by omega)
    · refine And.intro (fun h5 => absurd rfl h5) (fun _ => ?_)
      exact k2 (by omega)
  have hs : (w - 10).toInt = w.toInt - 10 := by rw [fb_subI (by rw [t10]; omega) (by rw [t10]; omega), t10]
  refine Exists.intro (w - 10) ⟨rfl, fun b hb => ?_⟩
  rw [hs] at hb
  refine ip_bt (fun h1 => ?_) (fun h1 => ?_)
  · have hno : ¬ (0 ≤ w.toInt - 10 ∧ w.toInt - 10 < 6) := fun z => by rw [hb.mpr z] at h1; cases h1
    refine bz_eq w.toInt 0 (fun h2 => absurd h (by omega)) (fun h2 => ?_)
    refine bz_eq w.toInt 1 (fun h3 => absurd h (by omega)) (fun h3 => ?_)
    refine And.intro (fun h5 => absurd rfl h5) (fun _ => ?_)
    exact k2 (by omega)
  · have hyes := hb.mp h1
    refine bz_eq w.toInt 0 (fun h2 => absurd h (by omega)) (fun h2 => ?_)
    refine bz_eq w.toInt 1 (fun h3 => absurd h (by omega)) (fun h3 => ?_)
    refine And.intro (fun _ => ?_) (fun h5 => absurd h5 (by decide))
    refine Exists.intro tc ⟨S, G, rfl, rfl, w2, ?_⟩
    refine ip_bn (fun h4 => ?_) (fun h4 => ?_)
    · have h4 := of_decide_eq_true h4
      refine Exists.intro tc ⟨S, G, rfl, rfl, hwf.1, hwf.2.2.1, ?_⟩
      refine bz_ne w.toInt 0 (fun _ => ?_) (fun h5 => absurd h5 h2)
      refine And.intro (fun h5 => absurd h5 (by decide)) (fun _ => ?_)
      have e1 : w - 10 = nI (w.toInt.toNat - 10) := by rw [fa_eq, hs, ti_n (by omega)]; omega
      exact Exists.intro _ ⟨w.toInt.toNat - 10, by omega, (by show [Value.long (lN _), Value.int (w - 10)] = _; rw [e1]), k10 (by omega) (by omega)⟩
    · have h4 := of_decide_eq_false h4
      exact k3 (Or.inr (Or.inr (by omega))) (by omega))
set_option maxRecDepth 100000 in
set_option maxHeartbeats 4000000 in
theorem m_X7_truths (l : Launch) : ip_Met l yX7_truths cX7_truths 5 (some .int) (ip_rm 6) C_X7_truths := ip_met tb_X7_truths 400 (by decide +kernel) fl_X7_ok cn_X7_ok (ip_cs1 (ip_gsS (m_X7_isQuestion l) (ip_in [315, 316, 32, 317] (by decide +kernel) (by decide +kernel)) ⟨by decide +kernel, by decide +kernel, by decide +kernel⟩ ⟨rfl, rfl, Nat.le_of_ble_eq_true rfl, Nat.le_of_ble_eq_true rfl⟩) (ip_cs1 (ip_gsV (m_X0_isThere l) (ip_in [295, 296, 297, 33, 298] (by decide +kernel) (by decide +kernel)) rfl ⟨by decide +kernel, by decide +kernel, by decide +kernel⟩ ⟨rfl, rfl, Nat.le_of_ble_eq_true rfl, Nat.le_of_ble_eq_true rfl⟩) (ip_cs1 (ip_gsV (m_X4_likelyTruths l) (ip_in [494, 495, 496, 35, 497] (by decide +kernel) (by decide +kernel)) rfl ⟨by decide +kernel, by decide +kernel, by decide +kernel⟩ ⟨rfl, rfl, Nat.le_of_ble_eq_true rfl, Nat.le_of_ble_eq_true rfl⟩) (ip_cs1 (ip_gsS (m_J13_bitCount l) (ip_in [503, 504, 45, 505] (by decide +kernel) (by decide +kernel)) ⟨by decide +kernel, by decide +kernel, by decide +kernel⟩ ⟨rfl, rfl, Nat.le_of_ble_eq_true rfl, Nat.le_of_ble_eq_true rfl⟩) (ip_cs1 (ip_gsS (m_X7_countHolding l) (ip_in [509, 510, 32, 511] (by decide +kernel) (by decide +kernel)) ⟨by decide +kernel, by decide +kernel, by decide +kernel⟩ ⟨rfl, rfl, Nat.le_of_ble_eq_true rfl, Nat.le_of_ble_eq_true rfl⟩) (ip_cs1 (ip_gsS (m_X7_leastOf l) (ip_in [512, 513, 32, 514] (by decide +kernel) (by decide +kernel)) ⟨by decide +kernel, by decide +kernel, by decide +kernel⟩ ⟨rfl, rfl, Nat.le_of_ble_eq_true rfl, Nat.le_of_ble_eq_true rfl⟩) (ip_cs0))))))) ck_X7_truths rfl p_X7_truths
def q_tell (tc : Int32) (S : Nat → Nat) (m : Int32) : Int32 × Int32 := if ¬ inI m (S 3) then (-1, tc) else if S (40 + nt m) = 1 then (nI (S (50 + nt m)) + 100, 31 * (31 * tc + 2) + 1) else if S (40 + nt m) = 2 then (nI (S (50 + nt m)) + 100 + nI (S (50 + nt m)), 31 * (31 * (31 * (31 * tc + 3) + 2) + 1) + 1) else (nI (S (50 + nt m)), 31 * tc + 1)
def C_X7_tell : ip_C := fun vs hp K => ∃ tc S G, ∃ m : Int32, vs = [.ref 0, .int m] ∧ hp = hpC tc S G ∧ wfC S G ∧ K (some (.int (q_tell tc S m).1)) (hpC (q_tell tc S m).2 S G)
def cs_X7_tell : List ip_G := [(82, 2, 1, C_X0_manOf), (259, 2, 7, C_X7_spitefulTells), (263, 2, 7, C_X7_boldTells), (266, 2, 7, C_X7_manTells)]
theorem p_X7_tell : ip_Pf fl_X7 cn_X7 cs_X7_tell (some .int) tb_X7_tell 3 C_X7_tell := ip_pf0 (by
  rintro _ _ K ⟨tc, S, G, m, rfl, rfl, hwf, hK⟩
  refine ⟨Nat.le_of_ble_eq_true rfl, ?_⟩
  obtain ⟨w1, w2, w3, w4⟩ := hwf.1
  refine Exists.intro tc ⟨S, G, m, rfl, rfl, w3, fun hn => ?_, fun i hi e => ?_⟩
  · rw [q_tell, if_pos hn] at hK; exact hK
  subst e
  have hm := inI_n hi (by omega)
  rw [q_tell, if_neg (not_not_intro hm), nt_n (by omega)] at hK
  have hi4 : i < 4 := by omega
  obtain ⟨k1, -, -⟩ := w4 i hi4
  have hsw : ∀ {X Y Z : Prop}, (S (40 + i) = 1 → X) → (S (40 + i) = 2 → Y) → (S (40 + i) = 0 → Z) → ((1 : Int) = (nI (S (40 + i))).toInt → X) ∧ (¬ (1 : Int) = (nI (S (40 + i))).toInt → ((2 : Int) = (nI (S (40 + i))).toInt → Y) ∧ (¬ (2 : Int) = (nI (S (40 + i))).toInt → Z)) := fun f1 f2 f0 => sw12 k1 f1 f2 f0
  have e1 : S (40 + i) = 1 → C_X7_boldTells [.ref 0, .ref (12 + i)] (hpC tc S G) (fun r hp => K r hp) := fun h => ⟨tc, S, G, i, hi4, rfl, rfl, by rw [if_pos h] at hK; exact hK⟩
  have e2 : S (40 + i) = 2 → C_X7_spitefulTells [.ref 0, .ref (12 + i)] (hpC tc S G) (fun r hp => K r hp) := fun h => ⟨tc, S, G, i, hi4, rfl, rfl, by rw [if_neg (by omega), if_pos h] at hK; exact hK⟩
  have e0 : S (40 + i) = 0 → C_X7_manTells [.ref 0, .ref (12 + i)] (hpC tc S G) (fun r hp => K r hp) := fun h => ⟨tc, S, G, i, hi4, rfl, rfl, by rw [if_neg (by omega), if_neg (by omega)] at hK; exact hK⟩
  rcases four hi4 with rfl | rfl | rfl | rfl
  · refine hsw (fun h => ?_) (fun h => ?_) (fun h => ?_)
    · obtain ⟨a, b, c, d, d1, d2, d3, d4⟩ := e1 h
      exact Exists.intro a ⟨b, c, d, d1, d2, d3, d4⟩
    · obtain ⟨a, b, c, d, d1, d2, d3, d4⟩ := e2 h
      exact Exists.intro a ⟨b, c, d, d1, d2, d3, d4⟩
    · obtain ⟨a, b, c, d, d1, d2, d3, d4⟩ := e0 h
      exact Exists.intro a ⟨b, c, d, d1, d2, d3, d4⟩
  · refine hsw (fun h => ?_) (fun h => ?_) (fun h => ?_)
    · obtain ⟨a, b, c, d, d1, d2, d3, d4⟩ := e1 h
      exact Exists.intro a ⟨b, c, d, d1, d2, d3, d4⟩
    · obtain ⟨a, b, c, d, d1, d2, d3, d4⟩ := e2 h
      exact Exists.intro a ⟨b, c, d, d1, d2, d3, d4⟩
    · obtain ⟨a, b, c, d, d1, d2, d3, d4⟩ := e0 h
      exact Exists.intro a ⟨b, c, d, d1, d2, d3, d4⟩
  · refine hsw (fun h => ?_) (fun h => ?_) (fun h => ?_)
    · obtain ⟨a, b, c, d, d1, d2, d3, d4⟩ := e1 h
      exact Exists.intro a ⟨b, c, d, d1, d2, d3, d4⟩
    · obtain ⟨a, b, c, d, d1, d2, d3, d4⟩ := e2 h
      exact Exists.intro a ⟨b, c, d, d1, d2, d3, d4⟩
    · obtain ⟨a, b, c, d, d1, d2, d3, d4⟩ := e0 h
      exact Exists.intro a ⟨b, c, d, d1, d2, d3, d4⟩
  · refine hsw (fun h => ?_) (fun h => ?_) (fun h => ?_)
    · obtain ⟨a, b, c, d, d1, d2, d3, d4⟩ := e1 h
      exact Exists.intro a ⟨b, c, d, d1, d2, d3, d4⟩
    · obtain ⟨a, b, c, d, d1, d2, d3, d4⟩ := e2 h
      exact Exists.intro a ⟨b, c, d, d1, d2, d3, d4⟩
    · obtain ⟨a, b, c, d, d1, d2, d3, d4⟩ := e0 h
      exact Exists.intro a ⟨b, c, d, d1, d2, d3, d4⟩)
set_option maxRecDepth 100000 in
set_option maxHeartbeats 4000000 in
theorem m_X7_tell (l : Launch) : ip_Met l yX7_tell cX7_tell 3 (some .int) (ip_rm 4) C_X7_tell := ip_met tb_X7_tell 400 (by decide +kernel) fl_X7_ok cn_X7_ok (ip_cs1 (ip_gsV (m_X0_manOf l) (ip_in [284, 285, 286, 33, 287] (by decide +kernel) (by decide +kernel)) rfl ⟨by decide +kernel, by decide +kernel, by decide +kernel⟩ ⟨rfl, rfl, Nat.le_of_ble_eq_true rfl, Nat.le_of_ble_eq_true rfl⟩) (ip_cs1 (ip_gsV (m_X7_spitefulTells l) (ip_in [582, 584, 5, 32, 585] (by decide +kernel) (by decide +kernel)) rfl ⟨by decide +kernel, by decide +kernel, by decide +kernel⟩ ⟨rfl, rfl, Nat.le_of_ble_eq_true rfl, Nat.le_of_ble_eq_true rfl⟩) (ip_cs1 (ip_gsV (m_X7_boldTells l) (ip_in [590, 592, 7, 32, 593] (by decide +kernel) (by decide +kernel)) rfl ⟨by decide +kernel, by decide +kernel, by decide +kernel⟩ ⟨rfl, rfl, Nat.le_of_ble_eq_true rfl, Nat.le_of_ble_eq_true rfl⟩) (ip_cs1 (ip_gsV (m_X7_manTells l) (ip_in [594, 596, 8, 32, 597] (by decide +kernel) (by decide +kernel)) rfl ⟨by decide +kernel, by decide +kernel, by decide +kernel⟩ ⟨rfl, rfl, Nat.le_of_ble_eq_true rfl, Nat.le_of_ble_eq_true rfl⟩) (ip_cs0))))) ck_X7_tell rfl p_X7_tell
def q_hail (tc : Int32) (S : Nat → Nat) (m : Int32) : Int32 × Int32 := if ¬ inI m (S 3) then (-1, tc) else if S (40 + nt m) = 2 then (60, 31 * tc + 5) else (m, 31 * tc + 4)
def C_X7_hail : ip_C := fun vs hp K => ∃ tc S G, ∃ m : Int32, vs = [.ref 0, .int m] ∧ hp = hpC tc S G ∧ wfC S G ∧ K (some (.int (q_hail tc S m).1)) (hpC (q_hail tc S m).2 S G)
def cs_X7_hail : List ip_G := [(82, 2, 1, C_X0_manOf), (269, 2, 7, C_X7_begin)]
theorem p_X7_hail : ip_Pf fl_X7 cn_X7 cs_X7_hail (some .int) tb_X7_hail 3 C_X7_hail := ip_pf0 (by
  rintro _ _ K ⟨tc, S, G, m, rfl, rfl, hwf, hK⟩
  refine ⟨Nat.le_of_ble_eq_true rfl, ?_⟩
  obtain ⟨w1, w2, w3, w4⟩ := hwf.1
  refine Exists.intro tc ⟨S, G, m, rfl, rfl, w3, fun hn => ?_, fun i hi e => ?_⟩
  · rw [q_hail, if_pos hn] at hK; exact hK
  subst e
  have hm := inI_n hi (by omega)
  rw [q_hail, if_neg (not_not_intro hm), nt_n (by omega)] at hK
  have hi4 : i < 4 := by omega
  obtain ⟨k1, -, -⟩ := w4 i hi4
  have b1 : ∀ {X Y : Prop}, (S (40 + i) ≠ 2 → X) → (S (40 + i) = 2 → Y) → (¬ nI (S (40 + i)) = 2 → X) ∧ (nI (S (40 + i)) = 2 → Y) := fun f g => pk_ne _ 2 f g
  have kn : S (40 + i) ≠ 2 → K (some (.int (nI i))) (hpC (31 * tc + 4) S G) := fun h => by rw [if_neg h] at hK; exact hK
  have ky : S (40 + i) = 2 → K (some (.int 60)) (hpC (31 * tc + 5) S G) := fun h => by rw [if_pos h] at hK; exact hK
  rcases four hi4 with rfl | rfl | rfl | rfl
  all_goals
    refine b1 (fun h => ?_) (fun h => ?_)
    · exact Exists.intro tc ⟨S, G, 4, rfl, rfl, kn h⟩
    · exact Exists.intro tc ⟨S, G, 5, rfl, rfl, ky h⟩)
set_option maxRecDepth 100000 in
set_option maxHeartbeats 4000000 in
theorem m_X7_hail (l : Launch) : ip_Met l yX7_hail cX7_hail 3 (some .int) (ip_rm 1) C_X7_hail := ip_met tb_X7_hail 400 (by decide +kernel) fl_X7_ok cn_X7_ok (ip_cs1 (ip_gsV (m_X0_manOf l) (ip_in [284, 285, 286, 33, 287] (by decide +kernel) (by decide +kernel)) rfl ⟨by decide +kernel, by decide +kernel, by decide +kernel⟩ ⟨rfl, rfl, Nat.le_of_ble_eq_true rfl, Nat.le_of_ble_eq_true rfl⟩) (ip_cs1 (ip_gsV (m_X7_begin l) (ip_in [586, 588, 6, 32, 589] (by decide +kernel) (by decide +kernel)) rfl ⟨by decide +kernel, by decide +kernel, by decide +kernel⟩ ⟨rfl, rfl, Nat.le_of_ble_eq_true rfl, Nat.le_of_ble_eq_true rfl⟩) (ip_cs0))) ck_X7_hail rfl p_X7_hail
def q_as (S : Nat → Nat) (m k : Int32) : Int32 × (Nat → Nat) := if ¬ inI m (S 3) then (-1, va_up S 0 0) else if ¬ inI k 3 then (-2, va_up S 0 0) else if k.toInt ≤ S (40 + nt m) then (1, va_up S 0 0) else (-12, va_up S 0 2)
def C_X7_as : ip_C := fun vs hp K => ∃ tc S G, ∃ m k : Int32, vs = [.ref 0, .int m, .int k] ∧ hp = hpC tc S G ∧ wfC S G ∧ K (some (.int (q_as S m k).1)) (hpC tc (q_as S m k).2 G)
def cs_X7_as : List ip_G := [(82, 2, 1, C_X0_manOf), (62, 2, 7, C_X7_faulty)]
theorem p_X7_as : ip_Pf fl_X7 cn_X7 cs_X7_as (some .int) tb_X7_as 4 C_X7_as := ip_pf0 (by
  rintro _ _ K ⟨tc, S, G, m, k, rfl, rfl, hwf, hK⟩
  refine ⟨Nat.le_of_ble_eq_true rfl, ?_⟩
  obtain ⟨w1, w2, w3, w4⟩ := hwf.1
  refine Exists.intro tc ⟨va_up S 0 0, G, m, rfl, rfl, w3, fun hn => ?_, fun i hi e => ?_⟩
  · rw [q_as, if_pos (show ¬ inI m (S 3) from hn)] at hK; exact hK
  subst e
  have hi : i < S 3 := hi
  have hm := inI_n hi (by omega)
  rw [q_as, if_neg (not_not_intro hm), nt_n (by omega)] at hK
  have hi4 : i < 4 := by omega
  obtain ⟨k1, -, -⟩ := w4 i hi4
  have hcode : (-10 : Int32) - nI 2 = -12 := by decide
  have kk : k.toInt ≤ S (40 + i) → inI k 3 → K (some (.int 1)) (hpC tc (va_up S 0 0) G) := fun h h2 => by rw [if_neg (not_not_intro h2), if_pos h] at hK; exact hK
  have kf : ¬ k.toInt ≤ S (40 + i) → inI k 3 → K (some (.int (-10 - nI 2))) (hpC tc (va_up (va_up S 0 0) 0 2) G) := fun h h2 => by
    rw [if_neg (not_not_intro h2), if_neg h] at hK
    rw [hcode, show va_up (va_up S 0 0) 0 2 = va_up S 0 2 from bx_uu S 0 0 2]; exact hK
  have b1 : ∀ {X Y : Prop}, ((S (40 + i) : Int) < k.toInt → X) → (k.toInt ≤ S (40 + i) → Y) → (nI (S (40 + i)) < k → X) ∧ (¬ nI (S (40 + i)) < k → Y) := fun f g => bz_lt _ _ f g (ti_n (by omega)) rfl
  refine bz_lt k.toInt 0 (fun h => ?_) (fun h => ?_)
  · rw [if_pos (fun z => by have := z.1; omega)] at hK; exact hK
  refine bz_lt k.toInt 3 (fun h2 => ?_) (fun h2 => ?_)
  · rcases four hi4 with rfl | rfl | rfl | rfl
    all_goals
      refine b1 (fun h3 => ?_) (fun h3 => ?_)
      · exact Exists.intro tc ⟨va_up S 0 0, G, 2, rfl, rfl, kf (by omega) ⟨h, h2⟩⟩
      · exact kk h3 ⟨h, h2⟩
  · rw [if_pos (fun z => by have := z.2; omega)] at hK; exact hK)
set_option maxRecDepth 100000 in
set_option maxHeartbeats 4000000 in
theorem m_X7_as (l : Launch) : ip_Met l yX7_as cX7_as 4 (some .int) (ip_rm 1) C_X7_as := ip_met tb_X7_as 400 (by decide +kernel) fl_X7_ok cn_X7_ok (ip_cs1 (ip_gsV (m_X0_manOf l) (ip_in [284, 285, 286, 33, 287] (by decide +kernel) (by decide +kernel)) rfl ⟨by decide +kernel, by decide +kernel, by decide +kernel⟩ ⟨rfl, rfl, Nat.le_of_ble_eq_true rfl, Nat.le_of_ble_eq_true rfl⟩) (ip_cs1 (ip_gsV (m_X7_faulty l) (ip_in [245, 247, 1, 32, 248] (by decide +kernel) (by decide +kernel)) rfl ⟨by decide +kernel, by decide +kernel, by decide +kernel⟩ ⟨rfl, rfl, Nat.le_of_ble_eq_true rfl, Nat.le_of_ble_eq_true rfl⟩) (ip_cs0))) ck_X7_as rfl p_X7_as
