/-! ===== the class's own calls, the plain ones ===== -/
abbrev inI (a : Int32) (n : Nat) : Prop := 0 ≤ a.toInt ∧ a.toInt < n
def nt (a : Int32) : Nat := a.toInt.toNat
theorem nt_n {n : Nat} (h : n < 2147483648) : nt (nI n) = n := by unfold nt; rw [ti_n h]; omega
theorem inI_nt {a : Int32} {n : Nat} (h : inI a n) : nt a < n ∧ a = nI (nt a) := by
  obtain ⟨j, hj, rfl, e⟩ := ti_of h.1
  rw [nt_n hj]
  exact ⟨by have := h.2; omega, rfl⟩
theorem inI_n {j n : Nat} (h : j < n) (hn : n < 2147483648) : inI (nI j) n := by unfold inI; rw [ti_n (by omega)]; omega
def wfC (S : Nat → Nat) (G : Nat → Nat → Int32) : Prop := wfM S ∧ wfH S ∧ wfR S G ∧ S 0 ≤ 4 ∧ (S 2 = 0 ↔ S 3 = 0) ∧ S 2 ≠ 1
def C_X7_sheetOf : ip_C := fun vs hp K => ∃ tc S G, ∃ k : Int32, vs = [.ref 0, .int k] ∧ hp = hpC tc S G ∧ (¬ inI k 4 → K (some .null) hp) ∧ ∀ j : Nat, j < 4 → k = nI j → K (some (.ref (2 + 2 * j))) hp
def cs_X7_sheetOf : List ip_G := []
theorem p_X7_sheetOf : ip_Pf fl_X7 cn_X7 cs_X7_sheetOf (some (.object "ThunderAsks$Sheet")) tb_X7_sheetOf 2 C_X7_sheetOf := ip_pf0 (by
  rintro _ _ K ⟨tc, S, G, k, rfl, rfl, hK, hK2⟩
  refine ⟨Nat.le_of_ble_eq_true rfl, ?_⟩
  refine bz_lt k.toInt 0 (fun h => ?_) (fun h => ?_)
  · exact hK (fun q => by have := q.1; omega)
  refine bz_lt k.toInt 4 (fun h3 => ?_) (fun h3 => ?_)
  · obtain ⟨j, -, rfl, hj⟩ := ti_of h
    have hj4 : j < 4 := by omega
    have hk := hK2 j hj4 rfl
    have hin : vp_in (nI j) 4 := pk_in j 4 (by omega)
    rcases four hj4 with rfl | rfl | rfl | rfl
    all_goals exact And.intro hin hk
  · exact hK (fun q => by have := q.2; omega))
set_option maxRecDepth 100000 in
set_option maxHeartbeats 4000000 in
theorem m_X7_sheetOf (l : Launch) : ip_Met l yX7_sheetOf cX7_sheetOf 2 (some (.object "ThunderAsks$Sheet")) (ip_rm 0) C_X7_sheetOf := ip_met tb_X7_sheetOf 400 (by decide +kernel) fl_X7_ok cn_X7_ok (ip_cs0) ck_X7_sheetOf rfl p_X7_sheetOf
def C_X7_faulty : ip_C := fun vs hp K => ∃ tc S G, ∃ f : Nat, vs = [.ref 0, .int (nI f)] ∧ hp = hpC tc S G ∧ K (some (.int (-10 - nI f))) (hpC tc (va_up S 0 f) G)
def cs_X7_faulty : List ip_G := []
theorem p_X7_faulty : ip_Pf fl_X7 cn_X7 cs_X7_faulty (some .int) tb_X7_faulty 2 C_X7_faulty := ip_pf0 (by
  rintro _ _ K ⟨tc, S, G, f, rfl, rfl, hK⟩
  exact ⟨Nat.le_of_ble_eq_true rfl, hK⟩)
set_option maxRecDepth 100000 in
set_option maxHeartbeats 4000000 in
theorem m_X7_faulty (l : Launch) : ip_Met l yX7_faulty cX7_faulty 2 (some .int) (ip_rm 0) C_X7_faulty := ip_met tb_X7_faulty 400 (by decide +kernel) fl_X7_ok cn_X7_ok (ip_cs0) ck_X7_faulty rfl p_X7_faulty
def C_X7_begin : ip_C := fun vs hp K => ∃ tc S G, ∃ b : Int32, vs = [.ref 0, .int b] ∧ hp = hpC tc S G ∧ K none (hpC (31 * tc + b) S G)
def cs_X7_begin : List ip_G := []
theorem p_X7_begin : ip_Pf fl_X7 cn_X7 cs_X7_begin none tb_X7_begin 2 C_X7_begin := ip_pf0 (by
  rintro _ _ K ⟨tc, S, G, b, rfl, rfl, hK⟩
  exact ⟨Nat.le_of_ble_eq_true rfl, hK⟩)
set_option maxRecDepth 100000 in
set_option maxHeartbeats 4000000 in
theorem m_X7_begin (l : Launch) : ip_Met l yX7_begin cX7_begin 2 none (ip_rm 0) C_X7_begin := ip_met tb_X7_begin 400 (by decide +kernel) fl_X7_ok cn_X7_ok (ip_cs0) ck_X7_begin rfl p_X7_begin
def C_X7_manTells : ip_C := fun vs hp K => ∃ tc S G, ∃ m : Nat, m < 4 ∧ vs = [.ref 0, .ref (12 + m)] ∧ hp = hpC tc S G ∧ K (some (.int (nI (S (50 + m))))) (hpC (31 * tc + 1) S G)
def cs_X7_manTells : List ip_G := [(269, 2, 7, C_X7_begin)]
theorem p_X7_manTells : ip_Pf fl_X7 cn_X7 cs_X7_manTells (some .int) tb_X7_manTells 2 C_X7_manTells := ip_pf0 (by
  rintro _ _ K ⟨tc, S, G, m, hm, rfl, rfl, hK⟩
  refine ⟨Nat.le_of_ble_eq_true rfl, ?_⟩
  refine Exists.intro tc ⟨S, G, 1, rfl, rfl, ?_⟩
  rcases four hm with rfl | rfl | rfl | rfl
  all_goals exact hK)
set_option maxRecDepth 100000 in
set_option maxHeartbeats 4000000 in
theorem m_X7_manTells (l : Launch) : ip_Met l yX7_manTells cX7_manTells 2 (some .int) (ip_rm 1) C_X7_manTells := ip_met tb_X7_manTells 400 (by decide +kernel) fl_X7_ok cn_X7_ok (ip_cs1 (ip_gsV (m_X7_begin l) (ip_in [586, 588, 6, 32, 589] (by decide +kernel) (by decide +kernel)) rfl ⟨by decide +kernel, by decide +kernel, by decide +kernel⟩ ⟨rfl, rfl, Nat.le_of_ble_eq_true rfl, Nat.le_of_ble_eq_true rfl⟩) (ip_cs0)) ck_X7_manTells rfl p_X7_manTells
def C_X7_boldTells : ip_C := fun vs hp K => ∃ tc S G, ∃ m : Nat, m < 4 ∧ vs = [.ref 0, .ref (12 + m)] ∧ hp = hpC tc S G ∧ K (some (.int (nI (S (50 + m)) + 100))) (hpC (31 * (31 * tc + 2) + 1) S G)
def cs_X7_boldTells : List ip_G := [(269, 2, 7, C_X7_begin), (266, 2, 7, C_X7_manTells)]
theorem p_X7_boldTells : ip_Pf fl_X7 cn_X7 cs_X7_boldTells (some .int) tb_X7_boldTells 2 C_X7_boldTells := ip_pf0 (by
  rintro _ _ K ⟨tc, S, G, m, hm, rfl, rfl, hK⟩
  refine ⟨Nat.le_of_ble_eq_true rfl, ?_⟩
  refine Exists.intro tc ⟨S, G, 2, rfl, rfl, ?_⟩
  exact Exists.intro _ ⟨S, G, m, hm, rfl, rfl, hK⟩)
set_option maxRecDepth 100000 in
set_option maxHeartbeats 4000000 in
theorem m_X7_boldTells (l : Launch) : ip_Met l yX7_boldTells cX7_boldTells 2 (some .int) (ip_rm 2) C_X7_boldTells := ip_met tb_X7_boldTells 400 (by decide +kernel) fl_X7_ok cn_X7_ok (ip_cs1 (ip_gsV (m_X7_begin l) (ip_in [586, 588, 6, 32, 589] (by decide +kernel) (by decide +kernel)) rfl ⟨by decide +kernel, by decide +kernel, by decide +kernel⟩ ⟨rfl, rfl, Nat.le_of_ble_eq_true rfl, Nat.le_of_ble_eq_true rfl⟩) (ip_cs1 (ip_gsV (m_X7_manTells l) (ip_in [594, 596, 8, 32, 597] (by decide +kernel) (by decide +kernel)) rfl ⟨by decide +kernel, by decide +kernel, by decide +kernel⟩ ⟨rfl, rfl, Nat.le_of_ble_eq_true rfl, Nat.le_of_ble_eq_true rfl⟩) (ip_cs0))) ck_X7_boldTells rfl p_X7_boldTells
def C_X7_spitefulTells : ip_C := fun vs hp K => ∃ tc S G, ∃ m : Nat, m < 4 ∧ vs = [.ref 0, .ref (12 + m)] ∧ hp = hpC tc S G ∧ K (some (.int (nI (S (50 + m)) + 100 + nI (S (50 + m))))) (hpC (31 * (31 * (31 * (31 * tc + 3) + 2) + 1) + 1) S G)
def cs_X7_spitefulTells : List ip_G := [(269, 2, 7, C_X7_begin), (263, 2, 7, C_X7_boldTells), (266, 2, 7, C_X7_manTells)]
theorem p_X7_spitefulTells : ip_Pf fl_X7 cn_X7 cs_X7_spitefulTells (some .int) tb_X7_spitefulTells 3 C_X7_spitefulTells := ip_pf0 (by
  rintro _ _ K ⟨tc, S, G, m, hm, rfl, rfl, hK⟩
  refine ⟨Nat.le_of_ble_eq_true rfl, ?_⟩
  refine Exists.intro tc ⟨S, G, 3, rfl, rfl, ?_⟩
  refine Exists.intro _ ⟨S, G, m, hm, rfl, rfl, ?_⟩
  exact Exists.intro _ ⟨S, G, m, hm, rfl, rfl, hK⟩)
set_option maxRecDepth 100000 in
set_option maxHeartbeats 4000000 in
theorem m_X7_spitefulTells (l : Launch) : ip_Met l yX7_spitefulTells cX7_spitefulTells 3 (some .int) (ip_rm 3) C_X7_spitefulTells := ip_met tb_X7_spitefulTells 400 (by decide +kernel) fl_X7_ok cn_X7_ok (ip_cs1 (ip_gsV (m_X7_begin l) (ip_in [586, 588, 6, 32, 589] (by decide +kernel) (by decide +kernel)) rfl ⟨by decide +kernel, by decide +kernel, by decide +kernel⟩ ⟨rfl, rfl, Nat.le_of_ble_eq_true rfl, Nat.le_of_ble_eq_true rfl⟩) (ip_cs1 (ip_gsV (m_X7_boldTells l) (ip_in [590, 592, 7, 32, 593] (by decide +kernel) (by decide +kernel)) rfl ⟨by decide +kernel, by decide +kernel, by decide +kernel⟩ ⟨rfl, rfl, Nat.le_of_ble_eq_true rfl, Nat.le_of_ble_eq_true rfl⟩) (ip_cs1 (ip_gsV (m_X7_manTells l) (ip_in [594, 596, 8, 32, 597] (by decide +kernel) (by decide +kernel)) rfl ⟨by decide +kernel, by decide +kernel, by decide +kernel⟩ ⟨rfl, rfl, Nat.le_of_ble_eq_true rfl, Nat.le_of_ble_eq_true rfl⟩) (ip_cs0)))) ck_X7_spitefulTells rfl p_X7_spitefulTells
def C_X7_trace : ip_C := fun vs hp K => ∃ tc S G, vs = [.ref 0] ∧ hp = hpC tc S G ∧ K (some (.int tc)) hp
def cs_X7_trace : List ip_G := []
theorem p_X7_trace : ip_Pf fl_X7 cn_X7 cs_X7_trace (some .int) tb_X7_trace 1 C_X7_trace := ip_pf0 (by
  rintro _ _ K ⟨tc, S, G, rfl, rfl, hK⟩
  exact ⟨Nat.le_of_ble_eq_true rfl, hK⟩)
set_option maxRecDepth 100000 in
set_option maxHeartbeats 4000000 in
theorem m_X7_trace (l : Launch) : ip_Met l yX7_trace cX7_trace 1 (some .int) (ip_rm 0) C_X7_trace := ip_met tb_X7_trace 400 (by decide +kernel) fl_X7_ok cn_X7_ok (ip_cs0) ck_X7_trace rfl p_X7_trace
def C_X7_fault : ip_C := fun vs hp K => ∃ tc S G, vs = [.ref 0] ∧ hp = hpC tc S G ∧ K (some (.int (nI (S 0)))) hp
def cs_X7_fault : List ip_G := []
theorem p_X7_fault : ip_Pf fl_X7 cn_X7 cs_X7_fault (some .int) tb_X7_fault 1 C_X7_fault := ip_pf0 (by
  rintro _ _ K ⟨tc, S, G, rfl, rfl, hK⟩
  exact ⟨Nat.le_of_ble_eq_true rfl, hK⟩)
set_option maxRecDepth 100000 in
set_option maxHeartbeats 4000000 in
theorem m_X7_fault (l : Launch) : ip_Met l yX7_fault cX7_fault 1 (some .int) (ip_rm 0) C_X7_fault := ip_met tb_X7_fault 400 (by decide +kernel) fl_X7_ok cn_X7_ok (ip_cs0) ck_X7_fault rfl p_X7_fault
def r_many (S : Nat → Nat) (w : Int32) : Int32 := if w.toInt = 0 then nI (S 3) else if w.toInt = 1 then nI (S 2) else if w.toInt = 2 then nI (S 1) else if w.toInt = 3 then nI (S 4) else -2
def C_X7_many : ip_C := fun vs hp K => ∃ tc S G, ∃ w : Int32, vs = [.ref 0, .int w] ∧ hp = hpC tc S G ∧ K (some (.int (r_many S w))) hp
def cs_X7_many : List ip_G := []
theorem p_X7_many : ip_Pf fl_X7 cn_X7 cs_X7_many (some .int) tb_X7_many 2 C_X7_many := ip_pf0 (by
  rintro _ _ K ⟨tc, S, G, w, rfl, rfl, hK⟩
  refine ⟨Nat.le_of_ble_eq_true rfl, ?_⟩
  have k0 : w.toInt = 0 → K (some (.int (nI (S 3)))) (hpC tc S G) := fun h => by rw [r_many, if_pos h] at hK; exact hK
  have k1 : w.toInt ≠ 0 → w.toInt = 1 → K (some (.int (nI (S 2)))) (hpC tc S G) := fun h h1 => by rw [r_many, if_neg h, if_pos h1] at hK; exact hK
  have k2 : w.toInt ≠ 0 → w.toInt ≠ 1 → w.toInt = 2 → K (some (.int (nI (S 1)))) (hpC tc S G) := fun h h1 h2 => by rw [r_many, if_neg h, if_neg h1, if_pos h2] at hK; exact hK
  have k3 : w.toInt ≠ 0 → w.toInt ≠ 1 → w.toInt ≠ 2 → w.toInt = 3 → K (some (.int (nI (S 4)))) (hpC tc S G) := fun h h1 h2 h3 => by rw [r_many, if_neg h, if_neg h1, if_neg h2, if_pos h3] at hK; exact hK
  have k4 : w.toInt ≠ 0 → w.toInt ≠ 1 → w.toInt ≠ 2 → w.toInt ≠ 3 → K (some (.int (-2))) (hpC tc S G) := fun h h1 h2 h3 => by rw [r_many, if_neg h, if_neg h1, if_neg h2, if_neg h3] at hK; exact hK
  exact And.intro k0 (fun h => And.intro (k1 h) (fun h1 => And.intro (k2 h h1) (fun h2 => And.intro (k3 h h1 h2) (fun h3 => fun _ => k4 h h1 h2 h3)))))
set_option maxRecDepth 100000 in
set_option maxHeartbeats 4000000 in
theorem m_X7_many (l : Launch) : ip_Met l yX7_many cX7_many 2 (some .int) (ip_rm 0) C_X7_many := ip_met tb_X7_many 400 (by decide +kernel) fl_X7_ok cn_X7_ok (ip_cs0) ck_X7_many rfl p_X7_many
def r_ofMan (S : Nat → Nat) (m w : Int32) : Int32 := if ¬ inI m (S 3) then -1 else if w.toInt = 0 then nI (S (40 + nt m)) else if w.toInt = 1 then nI (S (50 + nt m)) else if w.toInt = 2 then nI (S (60 + nt m)) else -2
def C_X7_ofMan : ip_C := fun vs hp K => ∃ tc S G, ∃ m w : Int32, vs = [.ref 0, .int m, .int w] ∧ hp = hpC tc S G ∧ wfC S G ∧ K (some (.int (r_ofMan S m w))) hp
def cs_X7_ofMan : List ip_G := [(82, 2, 1, C_X0_manOf)]
theorem p_X7_ofMan : ip_Pf fl_X7 cn_X7 cs_X7_ofMan (some .int) tb_X7_ofMan 4 C_X7_ofMan := ip_pf0 (by
  rintro _ _ K ⟨tc, S, G, m, w, rfl, rfl, hwf, hK⟩
  refine ⟨Nat.le_of_ble_eq_true rfl, ?_⟩
  have w3 := hwf.1.2.2.1
  refine Exists.intro tc ⟨S, G, m, rfl, rfl, w3, fun hn => ?_, fun j hj e => ?_⟩
  · rw [r_ofMan, if_pos hn] at hK; exact hK
  subst e
  have hm := inI_n hj (by omega)
  rw [r_ofMan, if_neg (not_not_intro hm), nt_n (by omega)] at hK
  have k0 : w.toInt = 0 → K (some (.int (nI (S (40 + j))))) (hpC tc S G) := fun h => by rw [if_pos h] at hK; exact hK
  have k1 : w.toInt ≠ 0 → w.toInt = 1 → K (some (.int (nI (S (50 + j))))) (hpC tc S G) := fun h h1 => by rw [if_neg h, if_pos h1] at hK; exact hK
  have k2 : w.toInt ≠ 0 → w.toInt ≠ 1 → w.toInt = 2 → K (some (.int (nI (S (60 + j))))) (hpC tc S G) := fun h h1 h2 => by rw [if_neg h, if_neg h1, if_pos h2] at hK; exact hK
  have k3 : w.toInt ≠ 0 → w.toInt ≠ 1 → w.toInt ≠ 2 → K (some (.int (-2))) (hpC tc S G) := fun h h1 h2 => by rw [if_neg h, if_neg h1, if_neg h2] at hK; exact hK
  rcases four (show j < 4 by omega) with rfl | rfl | rfl | rfl
  all_goals exact And.intro k0 (fun h => And.intro (k1 h) (fun h1 => And.intro (k2 h h1) (fun h2 => fun _ => k3 h h1 h2))))
set_option maxRecDepth 100000 in
set_option maxHeartbeats 4000000 in
theorem m_X7_ofMan (l : Launch) : ip_Met l yX7_ofMan cX7_ofMan 4 (some .int) (ip_rm 1) C_X7_ofMan := ip_met tb_X7_ofMan 400 (by decide +kernel) fl_X7_ok cn_X7_ok (ip_cs1 (ip_gsV (m_X0_manOf l) (ip_in [284, 285, 286, 33, 287] (by decide +kernel) (by decide +kernel)) rfl ⟨by decide +kernel, by decide +kernel, by decide +kernel⟩ ⟨rfl, rfl, Nat.le_of_ble_eq_true rfl, Nat.le_of_ble_eq_true rfl⟩) (ip_cs0)) ck_X7_ofMan rfl p_X7_ofMan
def q_truth (S : Nat → Nat) (a : Int32) : Int32 × (Nat → Nat) := if ¬ inI a 64 then (-2, S) else if S 2 = 0 then (-3, S) else (nI (S 1), va_up S 1 (nt a))
def C_X7_truth : ip_C := fun vs hp K => ∃ tc S G, ∃ a : Int32, vs = [.ref 0, .int a] ∧ hp = hpC tc S G ∧ wfC S G ∧ K (some (.int (q_truth S a).1)) (hpC tc (q_truth S a).2 G)
def cs_X7_truth : List ip_G := [(97, 1, 0, C_X7_isSet), (100, 1, 1, C_X0_isThere)]
theorem p_X7_truth : ip_Pf fl_X7 cn_X7 cs_X7_truth (some .int) tb_X7_truth 3 C_X7_truth := ip_pf0 (by
  rintro _ _ K ⟨tc, S, G, a, rfl, rfl, hwf, hK⟩
  refine ⟨Nat.le_of_ble_eq_true rfl, ?_⟩
  refine Exists.intro a ⟨rfl, fun b hb => ?_⟩
  refine ip_bn (fun h => ?_) (fun h => ?_)
  · have hin : inI a 64 := hb.mp h
    refine Exists.intro tc ⟨S, G, rfl, rfl, hwf.1.2.1, ?_⟩
    refine ip_bn (fun h2 => ?_) (fun h2 => ?_)
    · have h2 := of_decide_eq_true h2
      rw [q_truth, if_neg (not_not_intro hin), if_neg (by omega)] at hK
      obtain ⟨-, e⟩ := inI_nt hin
      generalize nt a = j at e hK
      subst e
      exact hK
    · have h2 := of_decide_eq_false h2
      rw [q_truth, if_neg (not_not_intro hin), if_pos (by omega)] at hK
      exact hK
  · have hin : ¬ inI a 64 := fun q => by rw [hb.mpr q] at h; cases h
    rw [q_truth, if_pos hin] at hK
    exact hK)
set_option maxRecDepth 100000 in
set_option maxHeartbeats 4000000 in
theorem m_X7_truth (l : Launch) : ip_Met l yX7_truth cX7_truth 3 (some .int) (ip_rm 1) C_X7_truth := ip_met tb_X7_truth 400 (by decide +kernel) fl_X7_ok cn_X7_ok (ip_cs1 (ip_gsS (m_X7_isSet l) (ip_in [292, 293, 32, 294] (by decide +kernel) (by decide +kernel)) ⟨by decide +kernel, by decide +kernel, by decide +kernel⟩ ⟨rfl, rfl, Nat.le_of_ble_eq_true rfl, Nat.le_of_ble_eq_true rfl⟩) (ip_cs1 (ip_gsV (m_X0_isThere l) (ip_in [295, 296, 297, 33, 298] (by decide +kernel) (by decide +kernel)) rfl ⟨by decide +kernel, by decide +kernel, by decide +kernel⟩ ⟨rfl, rfl, Nat.le_of_ble_eq_true rfl, Nat.le_of_ble_eq_true rfl⟩) (ip_cs0))) ck_X7_truth rfl p_X7_truth
def q_stand (S : Nat → Nat) (m p : Int32) : Int32 × (Nat → Nat) := if ¬ inI m (S 3) then (-1, S) else if ¬ inI p (S 2) then (-1, S) else (nI (S (50 + nt m)), va_up S (50 + nt m) (nt p))
def C_X7_stand : ip_C := fun vs hp K => ∃ tc S G, ∃ m p : Int32, vs = [.ref 0, .int m, .int p] ∧ hp = hpC tc S G ∧ wfC S G ∧ K (some (.int (q_stand S m p).1)) (hpC tc (q_stand S m p).2 G)
def cs_X7_stand : List ip_G := [(82, 2, 1, C_X0_manOf), (107, 2, 1, C_X0_hasParish)]
theorem p_X7_stand : ip_Pf fl_X7 cn_X7 cs_X7_stand (some .int) tb_X7_stand 5 C_X7_stand := ip_pf0 (by
  rintro _ _ K ⟨tc, S, G, m, p, rfl, rfl, hwf, hK⟩
  refine ⟨Nat.le_of_ble_eq_true rfl, ?_⟩
  have w3 := hwf.1.2.2.1
  refine Exists.intro tc ⟨S, G, m, rfl, rfl, w3, fun hn => ?_, fun j hj e => ?_⟩
  · rw [q_stand, if_pos hn] at hK; exact hK
  subst e
  have hm := inI_n hj (by omega)
  rw [q_stand, if_neg (not_not_intro hm), nt_n (by omega)] at hK
  refine Exists.intro tc ⟨S, G, p, rfl, rfl, hwf.1.2.1, fun b hb => ?_⟩
  refine ip_bn (fun h => ?_) (fun h => ?_)
  · have hin : inI p (S 2) := hb.mp h
    rw [if_neg (not_not_intro hin)] at hK
    obtain ⟨-, e⟩ := inI_nt hin
    generalize nt p = i at e hK
    subst e
    rcases four (show j < 4 by omega) with rfl | rfl | rfl | rfl
    all_goals exact hK
  · have hin : ¬ inI p (S 2) := fun q => by rw [hb.mpr q] at h; cases h
    rw [if_pos hin] at hK
    exact hK)
set_option maxRecDepth 100000 in
set_option maxHeartbeats 4000000 in
theorem m_X7_stand (l : Launch) : ip_Met l yX7_stand cX7_stand 5 (some .int) (ip_rm 1) C_X7_stand := ip_met tb_X7_stand 400 (by decide +kernel) fl_X7_ok cn_X7_ok (ip_cs1 (ip_gsV (m_X0_manOf l) (ip_in [284, 285, 286, 33, 287] (by decide +kernel) (by decide +kernel)) rfl ⟨by decide +kernel, by decide +kernel, by decide +kernel⟩ ⟨rfl, rfl, Nat.le_of_ble_eq_true rfl, Nat.le_of_ble_eq_true rfl⟩) (ip_cs1 (ip_gsV (m_X0_hasParish l) (ip_in [303, 304, 305, 33, 306] (by decide +kernel) (by decide +kernel)) rfl ⟨by decide +kernel, by decide +kernel, by decide +kernel⟩ ⟨rfl, rfl, Nat.le_of_ble_eq_true rfl, Nat.le_of_ble_eq_true rfl⟩) (ip_cs0))) ck_X7_stand rfl p_X7_stand
def q_learn (S : Nat → Nat) (m a : Int32) : Int32 × (Nat → Nat) := if ¬ inI m (S 3) then (-1, S) else if ¬ inI a 64 then (-2, S) else (nI (S (60 + nt m)), va_up S (60 + nt m) (nt a))
def C_X7_learn : ip_C := fun vs hp K => ∃ tc S G, ∃ m a : Int32, vs = [.ref 0, .int m, .int a] ∧ hp = hpC tc S G ∧ wfC S G ∧ K (some (.int (q_learn S m a).1)) (hpC tc (q_learn S m a).2 G)
def cs_X7_learn : List ip_G := [(82, 2, 1, C_X0_manOf), (97, 1, 0, C_X7_isSet)]
theorem p_X7_learn : ip_Pf fl_X7 cn_X7 cs_X7_learn (some .int) tb_X7_learn 5 C_X7_learn := ip_pf0 (by
  rintro _ _ K ⟨tc, S, G, m, a, rfl, rfl, hwf, hK⟩
  refine ⟨Nat.le_of_ble_eq_true rfl, ?_⟩
  have w3 := hwf.1.2.2.1
  refine Exists.intro tc ⟨S, G, m, rfl, rfl, w3, fun hn => ?_, fun j hj e => ?_⟩
  · rw [q_learn, if_pos hn] at hK; exact hK
  subst e
  have hm := inI_n hj (by omega)
  rw [q_learn, if_neg (not_not_intro hm), nt_n (by omega)] at hK
  refine Exists.intro a ⟨rfl, fun b hb => ?_⟩
  refine ip_bn (fun h => ?_) (fun h => ?_)
  · have hin : inI a 64 := hb.mp h
    rw [if_neg (not_not_intro hin)] at hK
    obtain ⟨-, e⟩ := inI_nt hin
    generalize nt a = i at e hK
    subst e
    rcases four (show j < 4 by omega) with rfl | rfl | rfl | rfl
    all_goals exact hK
  · have hin : ¬ inI a 64 := fun q => by rw [hb.mpr q] at h; cases h
    rw [if_pos hin] at hK
    exact hK)
set_option maxRecDepth 100000 in
set_option maxHeartbeats 4000000 in
theorem m_X7_learn (l : Launch) : ip_Met l yX7_learn cX7_learn 5 (some .int) (ip_rm 1) C_X7_learn := ip_met tb_X7_learn 400 (by decide +kernel) fl_X7_ok cn_X7_ok (ip_cs1 (ip_gsV (m_X0_manOf l) (ip_in [284, 285, 286, 33, 287] (by decide +kernel) (by decide +kernel)) rfl ⟨by decide +kernel, by decide +kernel, by decide +kernel⟩ ⟨rfl, rfl, Nat.le_of_ble_eq_true rfl, Nat.le_of_ble_eq_true rfl⟩) (ip_cs1 (ip_gsS (m_X7_isSet l) (ip_in [292, 293, 32, 294] (by decide +kernel) (by decide +kernel)) ⟨by decide +kernel, by decide +kernel, by decide +kernel⟩ ⟨rfl, rfl, Nat.le_of_ble_eq_true rfl, Nat.le_of_ble_eq_true rfl⟩) (ip_cs0))) ck_X7_learn rfl p_X7_learn
def r_strikes (S : Nat → Nat) (p q : Int32) : Int32 := if ¬ inI p (S 2) then -1 else if ¬ inI q 6 then -2 else ip_bi (stk S (nt p) (nt q))
def C_X7_strikes : ip_C := fun vs hp K => ∃ tc S G, ∃ p q : Int32, vs = [.ref 0, .int p, .int q] ∧ hp = hpC tc S G ∧ wfC S G ∧ K (some (.int (r_strikes S p q))) hp
def cs_X7_strikes : List ip_G := [(107, 2, 1, C_X0_hasParish), (110, 1, 0, C_X7_isQuestion), (123, 3, 1, C_X0_isStruck)]
set_option maxRecDepth 100000 in
theorem p_X7_strikes : ip_Pf fl_X7 cn_X7 cs_X7_strikes (some .int) tb_X7_strikes 3 C_X7_strikes := ip_pf0 (by
  rintro _ _ K ⟨tc, S, G, p, q, rfl, rfl, hwf, hK⟩
  refine ⟨Nat.le_of_ble_eq_true rfl, ?_⟩
  have w2 := hwf.1.2.1
  refine Exists.intro tc ⟨S, G, p, rfl, rfl, w2, fun b hb => ?_⟩
  refine ip_bn (fun h => ?_) (fun h => ?_)
  · have hin : inI p (S 2) := hb.mp h
    rw [r_strikes, if_neg (not_not_intro hin)] at hK
    refine Exists.intro q ⟨rfl, fun b2 hb2 => ?_⟩
    refine ip_bn (fun h2 => ?_) (fun h2 => ?_)
    · have hin2 : inI q 6 := hb2.mp h2
      rw [if_neg (not_not_intro hin2)] at hK
      obtain ⟨i, hi, rfl, ei⟩ := ti_of hin.1
      obtain ⟨j, hj, rfl, ej⟩ := ti_of hin2.1
      rw [nt_n hi, nt_n hj] at hK
      have l2 : j < 6 := by have := hin2.2; omega
      have kk : ∀ c : Bool, stk S i j = c → K (some (.int (ip_bi c))) (hpC tc S G) := fun c e => by rw [← e]; exact hK
      refine Exists.intro tc ⟨S, G, i, j, hi, l2, rfl, rfl, hwf.1, ?_⟩
      refine ip_bt (fun h3 => ?_) (fun h3 => ?_)
      · exact kk false h3
      · exact kk true h3
    · have hin2 : ¬ inI q 6 := fun z => by rw [hb2.mpr z] at h2; cases h2
      rw [if_pos hin2] at hK
      exact hK
  · have hin : ¬ inI p (S 2) := fun z => by rw [hb.mpr z] at h; cases h
    rw [r_strikes, if_pos hin] at hK
    exact hK)
set_option maxRecDepth 100000 in
set_option maxHeartbeats 4000000 in
theorem m_X7_strikes (l : Launch) : ip_Met l yX7_strikes cX7_strikes 3 (some .int) (ip_rm 4) C_X7_strikes := ip_met tb_X7_strikes 400 (by decide +kernel) fl_X7_ok cn_X7_ok (ip_cs1 (ip_gsV (m_X0_hasParish l) (ip_in [303, 304, 305, 33, 306] (by decide +kernel) (by decide +kernel)) rfl ⟨by decide +kernel, by decide +kernel, by decide +kernel⟩ ⟨rfl, rfl, Nat.le_of_ble_eq_true rfl, Nat.le_of_ble_eq_true rfl⟩) (ip_cs1 (ip_gsS (m_X7_isQuestion l) (ip_in [315, 316, 32, 317] (by decide +kernel) (by decide +kernel)) ⟨by decide +kernel, by decide +kernel, by decide +kernel⟩ ⟨rfl, rfl, Nat.le_of_ble_eq_true rfl, Nat.le_of_ble_eq_true rfl⟩) (ip_cs1 (ip_gsV (m_X0_isStruck l) (ip_in [333, 334, 335, 33, 336] (by decide +kernel) (by decide +kernel)) rfl ⟨by decide +kernel, by decide +kernel, by decide +kernel⟩ ⟨rfl, rfl, Nat.le_of_ble_eq_true rfl, Nat.le_of_ble_eq_true rfl⟩) (ip_cs0)))) ck_X7_strikes rfl p_X7_strikes
def r_dangers (S : Nat → Nat) (p : Int32) : Int32 := if ¬ inI p (S 2) then -1 else nI (dgp S (nt p))
def C_X7_dangers : ip_C := fun vs hp K => ∃ tc S G, ∃ p : Int32, vs = [.ref 0, .int p] ∧ hp = hpC tc S G ∧ wfC S G ∧ K (some (.int (r_dangers S p))) hp
def cs_X7_dangers : List ip_G := [(107, 2, 1, C_X0_hasParish), (126, 2, 1, C_X0_dangersOf)]
theorem p_X7_dangers : ip_Pf fl_X7 cn_X7 cs_X7_dangers (some .int) tb_X7_dangers 2 C_X7_dangers := ip_pf0 (by
  rintro _ _ K ⟨tc, S, G, p, rfl, rfl, hwf, hK⟩
  refine ⟨Nat.le_of_ble_eq_true rfl, ?_⟩
  have w2 := hwf.1.2.1
  refine Exists.intro tc ⟨S, G, p, rfl, rfl, w2, fun b hb => ?_⟩
  refine ip_bt (fun h => ?_) (fun h => ?_)
  · have hin : ¬ inI p (S 2) := fun z => by rw [hb.mpr z] at h; cases h
    rw [r_dangers, if_pos hin] at hK
    exact hK
  · have hin : inI p (S 2) := hb.mp h
    rw [r_dangers, if_neg (not_not_intro hin)] at hK
    obtain ⟨l1, e1⟩ := inI_nt hin
    generalize nt p = i at e1 l1 hK
    subst e1
    exact Exists.intro tc ⟨S, G, i, by omega, rfl, rfl, hwf.1, hK⟩)
set_option maxRecDepth 100000 in
set_option maxHeartbeats 4000000 in
theorem m_X7_dangers (l : Launch) : ip_Met l yX7_dangers cX7_dangers 2 (some .int) (ip_rm 3) C_X7_dangers := ip_met tb_X7_dangers 400 (by decide +kernel) fl_X7_ok cn_X7_ok (ip_cs1 (ip_gsV (m_X0_hasParish l) (ip_in [303, 304, 305, 33, 306] (by decide +kernel) (by decide +kernel)) rfl ⟨by decide +kernel, by decide +kernel, by decide +kernel⟩ ⟨rfl, rfl, Nat.le_of_ble_eq_true rfl, Nat.le_of_ble_eq_true rfl⟩) (ip_cs1 (ip_gsV (m_X0_dangersOf l) (ip_in [356, 338, 339, 33, 340] (by decide +kernel) (by decide +kernel)) rfl ⟨by decide +kernel, by decide +kernel, by decide +kernel⟩ ⟨rfl, rfl, Nat.le_of_ble_eq_true rfl, Nat.le_of_ble_eq_true rfl⟩) (ip_cs0))) ck_X7_dangers rfl p_X7_dangers
def q_back (S : Nat → Nat) (k : Int32) : Int32 × (Nat → Nat) := if ¬ (0 ≤ k.toInt ∧ k.toInt ≤ S 4) then (-2, S) else (nI (S 4 - nt k), va_up S 4 (S 4 - nt k))
def C_X7_back : ip_C := fun vs hp K => ∃ tc S G, ∃ k : Int32, vs = [.ref 0, .int k] ∧ hp = hpC tc S G ∧ wfC S G ∧ K (some (.int (q_back S k).1)) (hpC tc (q_back S k).2 G)
def cs_X7_back : List ip_G := []
theorem p_X7_back : ip_Pf fl_X7 cn_X7 cs_X7_back (some .int) tb_X7_back 2 C_X7_back := ip_pf0 (by
  rintro _ _ K ⟨tc, S, G, k, rfl, rfl, hwf, hK⟩
  refine ⟨Nat.le_of_ble_eq_true rfl, ?_⟩
  have w4 := hwf.2.2.1.1
  refine bz_lt k.toInt 0 (fun h => ?_) (fun h => ?_)
  · rw [q_back, if_pos (by omega)] at hK; exact hK
  refine bz_le k.toInt (S 4) (fun h2 => ?_) (fun h2 => ?_)
  · rw [q_back, if_neg (by omega)] at hK
    obtain ⟨j, hj, rfl, e⟩ := ti_of h
    rw [nt_n hj] at hK
    have hs : nI (S 4) - nI j = nI (S 4 - j) := pk_sub (by omega)
    have hK' : K (some (.int (nI (S 4) - nI j))) ((hpC tc S G).set 16 (.inr (3, [.int (nI (S 4) - nI j), .ref 17, .ref 18, .ref 19]))) := by rw [hs]; exact hK
    exact hK'
  · rw [q_back, if_pos (by omega)] at hK; exact hK)
set_option maxRecDepth 100000 in
set_option maxHeartbeats 4000000 in
theorem m_X7_back (l : Launch) : ip_Met l yX7_back cX7_back 2 (some .int) (ip_rm 0) C_X7_back := ip_met tb_X7_back 400 (by decide +kernel) fl_X7_ok cn_X7_ok (ip_cs0) ck_X7_back rfl p_X7_back
