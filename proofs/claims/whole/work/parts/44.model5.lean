/-! ===== the reference: men, truth, parts ===== -/
theorem man_at {S : Nat → Nat} {R : Nat → Int32} {N : Nat → Nat → Int32} {sl i : Nat} (h : relM S R N sl) (hi : i < 4) : vp_in (nI i) 4 ∧ N 4 (nI i).toNatClampNeg = nI (S (40 + i)) ∧ N 5 (nI i).toNatClampNeg = nI (S (50 + i)) ∧ N 6 (nI i).toNatClampNeg = nI (S (60 + i)) := by
  rw [nI_clamp (n := i) (by omega)]
  exact ⟨pk_in i 4 hi, h.2.2.2.2 i hi⟩
def C_X8_ofMan : ip_C := fun vs hp K => ∃ S R N, ∃ m w : Int32, vs = [.ref 0, .int m, .int w] ∧ hp = hpM R N ∧ wfM S ∧ relM S R N 0 ∧ K (some (.int (r_ofMan S m w))) hp
def cs_X8_ofMan : List ip_G := [(125, 2, 8, C_X8_isMan)]
theorem p_X8_ofMan : ip_Pf fl_X8 cn_X8 cs_X8_ofMan (some .int) tb_X8_ofMan 3 C_X8_ofMan := ip_pf0 (by
  rintro _ _ K ⟨S, R, N, m, w, rfl, rfl, hwf, hrel, hK⟩
  refine ⟨Nat.le_of_ble_eq_true rfl, ?_⟩
  have w3 := hwf.2.2.1
  refine Exists.intro R ⟨N, m, S 3, rfl, rfl, hrel.2.2.1, w3, fun b hb => ?_⟩
  refine ip_bn (fun h => ?_) (fun h => ?_)
  · have hin : inI m (S 3) := hb.mp h
    rw [r_ofMan, if_neg (not_not_intro hin)] at hK
    obtain ⟨i, hi, rfl, ei⟩ := ti_of hin.1
    have l1 : i < 4 := by have := hin.2; omega
    obtain ⟨hv, e4, e5, e6⟩ := man_at hrel l1
    rw [nt_n hi, ← e4, ← e5, ← e6] at hK
    refine bz_ne w.toInt 0 (fun h => ?_) (fun h => ?_)
    · rw [if_neg h] at hK
      refine bz_ne w.toInt 1 (fun h => ?_) (fun h => ?_)
      · rw [if_neg h] at hK
        refine bz_ne w.toInt 2 (fun h => ?_) (fun h => ?_)
        · rw [if_neg h] at hK; exact hK
        · rw [if_pos h] at hK; exact And.intro hv hK
      · rw [if_pos h] at hK; exact And.intro hv hK
    · rw [if_pos h] at hK; exact And.intro hv hK
  · have hin : ¬ inI m (S 3) := fun z => by rw [hb.mpr z] at h; cases h
    rw [r_ofMan, if_pos hin] at hK
    exact hK)
set_option maxRecDepth 100000 in
set_option maxHeartbeats 4000000 in
theorem m_X8_ofMan (l : Launch) : ip_Met l yX8_ofMan cX8_ofMan 3 (some .int) (ip_rm 1) C_X8_ofMan := ip_met tb_X8_ofMan 400 (by decide +kernel) fl_X8_ok cn_X8_ok (ip_cs1 (ip_gsV (m_X8_isMan l) (ip_in [754, 756, 16, 39, 757] (by decide +kernel) (by decide +kernel)) rfl ⟨by decide +kernel, by decide +kernel, by decide +kernel⟩ ⟨rfl, rfl, Nat.le_of_ble_eq_true rfl, Nat.le_of_ble_eq_true rfl⟩) (ip_cs0)) ck_X8_ofMan rfl p_X8_ofMan
def C_X8_truth : ip_C := fun vs hp K => ∃ tc S G R N, ∃ a : Int32, vs = [.ref 0, .int a] ∧ hp = hpM R N ∧ wfC S G ∧ relA tc S G R N ∧ ∀ R' N', relA tc (q_truth S a).2 G R' N' → K (some (.int (q_truth S a).1)) (hpM R' N')
def cs_X8_truth : List ip_G := [(128, 1, 0, C_X8_isSet)]
theorem p_X8_truth : ip_Pf fl_X8 cn_X8 cs_X8_truth (some .int) tb_X8_truth 3 C_X8_truth := ip_pf0 (by
  rintro _ _ K ⟨tc, S, G, R, N, a, rfl, rfl, hwf, hrel, hK⟩
  refine ⟨Nat.le_of_ble_eq_true rfl, ?_⟩
  obtain ⟨m5, m6, m7, -⟩ := hrel.2.2.1
  have w3 := hwf.1.2.2.1
  have w5 := hwf.2.2.2.2.1
  refine Exists.intro a ⟨rfl, fun b hb => ?_⟩
  have b7 : ∀ {X Y : Prop}, (S 3 ≠ 0 → X) → (S 3 = 0 → Y) → (¬ R 7 = 0 → X) ∧ (R 7 = 0 → Y) := fun f g => by rw [m7]; exact pk_ne (S 3) 0 f g
  refine ip_bn (fun h => ?_) (fun h => ?_)
  · have hin : inI a 64 := hb.mp h
    rw [q_truth, if_neg (not_not_intro hin)] at hK
    refine b7 (fun h2 => ?_) (fun h2 => ?_)
    · rw [if_neg (fun z => h2 (w5.mp z))] at hK
      obtain ⟨i, hi, rfl, ei⟩ := ti_of hin.1
      rw [nt_n hi, ← m5] at hK
      exact hK (va_up R 5 (nI i)) N (relA_t i hrel)
    · rw [if_pos (w5.mpr h2)] at hK
      exact hK R N hrel
  · have hin : ¬ inI a 64 := fun z => by rw [hb.mpr z] at h; cases h
    rw [q_truth, if_pos hin] at hK
    exact hK R N hrel)
set_option maxRecDepth 100000 in
set_option maxHeartbeats 4000000 in
theorem m_X8_truth (l : Launch) : ip_Met l yX8_truth cX8_truth 3 (some .int) (ip_rm 2) C_X8_truth := ip_met tb_X8_truth 400 (by decide +kernel) fl_X8_ok cn_X8_ok (ip_cs1 (ip_gsS (m_X8_isSet l) (ip_in [762, 763, 39, 764] (by decide +kernel) (by decide +kernel)) ⟨by decide +kernel, by decide +kernel, by decide +kernel⟩ ⟨rfl, rfl, Nat.le_of_ble_eq_true rfl, Nat.le_of_ble_eq_true rfl⟩) (ip_cs0)) ck_X8_truth rfl p_X8_truth
theorem relA_p {tc : Int32} {S : Nat → Nat} {G : Nat → Nat → Int32} {R : Nat → Int32} {N : Nat → Nat → Int32} {j : Nat} (i : Nat) (hj : j < 4) (h : relA tc S G R N) : relA tc (va_up S (50 + j) i) G R (va_up N 5 (upd (N 5) (nI j).toNatClampNeg (nI i))) :=
  relA_m h (relM_p i hj h.2.2.1) (fun i hi => up_n i (by omega)) ⟨rfl, rfl, rfl, rfl, rfl, rfl⟩
theorem relA_l {tc : Int32} {S : Nat → Nat} {G : Nat → Nat → Int32} {R : Nat → Int32} {N : Nat → Nat → Int32} {j : Nat} (i : Nat) (hj : j < 4) (h : relA tc S G R N) : relA tc (va_up S (60 + j) i) G R (va_up N 6 (upd (N 6) (nI j).toNatClampNeg (nI i))) :=
  relA_m h (relM_l i hj h.2.2.1) (fun i hi => up_n i (by omega)) ⟨rfl, rfl, rfl, rfl, rfl, rfl⟩
theorem relA_k {tc : Int32} {S : Nat → Nat} {G : Nat → Nat → Int32} {R : Nat → Int32} {N : Nat → Nat → Int32} {j : Nat} (i : Nat) (hj : j < 4) (h : relA tc S G R N) : relA tc (va_up S (40 + j) i) G R (va_up N 4 (upd (N 4) (nI j).toNatClampNeg (nI i))) :=
  relA_m h (relM_k i hj h.2.2.1) (fun i hi => up_n i (by omega)) ⟨rfl, rfl, rfl, rfl, rfl, rfl⟩
def C_X8_stand : ip_C := fun vs hp K => ∃ tc S G R N, ∃ m p : Int32, vs = [.ref 0, .int m, .int p] ∧ hp = hpM R N ∧ wfC S G ∧ relA tc S G R N ∧ ∀ R' N', relA tc (q_stand S m p).2 G R' N' → K (some (.int (q_stand S m p).1)) (hpM R' N')
def cs_X8_stand : List ip_G := [(125, 2, 8, C_X8_isMan), (131, 2, 8, C_X8_isParish)]
theorem p_X8_stand : ip_Pf fl_X8 cn_X8 cs_X8_stand (some .int) tb_X8_stand 4 C_X8_stand := ip_pf0 (by
  rintro _ _ K ⟨tc, S, G, R, N, m, p, rfl, rfl, hwf, hrel, hK⟩
  refine ⟨Nat.le_of_ble_eq_true rfl, ?_⟩
  obtain ⟨m5, m6, m7, -⟩ := id hrel.2.2.1
  have w3 := hwf.1.2.2.1
  refine Exists.intro R ⟨N, m, S 3, rfl, rfl, m7, w3, fun b hb => ?_⟩
  refine ip_bt (fun h => ?_) (fun h => ?_)
  · have hin : ¬ inI m (S 3) := fun z => by rw [hb.mpr z] at h; cases h
    rw [q_stand, if_pos hin] at hK
    exact hK R N hrel
  have hin : inI m (S 3) := hb.mp h
  rw [q_stand, if_neg (not_not_intro hin)] at hK
  refine Exists.intro R ⟨N, p, S 2, rfl, rfl, m6, hwf.1.2.1, fun b2 hb2 => ?_⟩
  refine ip_bn (fun h2 => ?_) (fun h2 => ?_)
  · have hin2 : inI p (S 2) := hb2.mp h2
    rw [if_neg (not_not_intro hin2)] at hK
    obtain ⟨i, hi, rfl, ei⟩ := ti_of hin.1
    obtain ⟨j, hj, rfl, ej⟩ := ti_of hin2.1
    have l1 : i < 4 := by have := hin.2; omega
    obtain ⟨hv, e4, e5, e6⟩ := man_at hrel.2.2.1 l1
    rw [nt_n hi, nt_n hj, ← e5] at hK
    exact And.intro hv (And.intro hv (hK R _ (relA_p j l1 hrel)))
  · have hin2 : ¬ inI p (S 2) := fun z => by rw [hb2.mpr z] at h2; cases h2
    rw [if_pos hin2] at hK
    exact hK R N hrel)
set_option maxRecDepth 100000 in
set_option maxHeartbeats 4000000 in
theorem m_X8_stand (l : Launch) : ip_Met l yX8_stand cX8_stand 4 (some .int) (ip_rm 1) C_X8_stand := ip_met tb_X8_stand 400 (by decide +kernel) fl_X8_ok cn_X8_ok (ip_cs1 (ip_gsV (m_X8_isMan l) (ip_in [754, 756, 16, 39, 757] (by decide +kernel) (by decide +kernel)) rfl ⟨by decide +kernel, by decide +kernel, by decide +kernel⟩ ⟨rfl, rfl, Nat.le_of_ble_eq_true rfl, Nat.le_of_ble_eq_true rfl⟩) (ip_cs1 (ip_gsV (m_X8_isParish l) (ip_in [769, 771, 17, 39, 772] (by decide +kernel) (by decide +kernel)) rfl ⟨by decide +kernel, by decide +kernel, by decide +kernel⟩ ⟨rfl, rfl, Nat.le_of_ble_eq_true rfl, Nat.le_of_ble_eq_true rfl⟩) (ip_cs0))) ck_X8_stand rfl p_X8_stand
def C_X8_learn : ip_C := fun vs hp K => ∃ tc S G R N, ∃ m a : Int32, vs = [.ref 0, .int m, .int a] ∧ hp = hpM R N ∧ wfC S G ∧ relA tc S G R N ∧ ∀ R' N', relA tc (q_learn S m a).2 G R' N' → K (some (.int (q_learn S m a).1)) (hpM R' N')
def cs_X8_learn : List ip_G := [(125, 2, 8, C_X8_isMan), (128, 1, 0, C_X8_isSet)]
theorem p_X8_learn : ip_Pf fl_X8 cn_X8 cs_X8_learn (some .int) tb_X8_learn 4 C_X8_learn := ip_pf0 (by
  rintro _ _ K ⟨tc, S, G, R, N, m, p, rfl, rfl, hwf, hrel, hK⟩
  refine ⟨Nat.le_of_ble_eq_true rfl, ?_⟩
  obtain ⟨m5, m6, m7, -⟩ := id hrel.2.2.1
  have w3 := hwf.1.2.2.1
  refine Exists.intro R ⟨N, m, S 3, rfl, rfl, m7, w3, fun b hb => ?_⟩
  refine ip_bn (fun h => ?_) (fun h => ?_)
  · have hin : inI m (S 3) := hb.mp h
    rw [q_learn, if_neg (not_not_intro hin)] at hK
    refine Exists.intro p ⟨rfl, fun b2 hb2 => ?_⟩
    refine ip_bn (fun h2 => ?_) (fun h2 => ?_)
    · have hin2 : inI p 64 := hb2.mp h2
      rw [if_neg (not_not_intro hin2)] at hK
      obtain ⟨i, hi, rfl, ei⟩ := ti_of hin.1
      obtain ⟨j, hj, rfl, ej⟩ := ti_of hin2.1
      have l1 : i < 4 := by have := hin.2; omega
      obtain ⟨hv, e4, e5, e6⟩ := man_at hrel.2.2.1 l1
      rw [nt_n hi, nt_n hj, ← e6] at hK
      exact And.intro hv (And.intro hv (hK R _ (relA_l j l1 hrel)))
    · have hin2 : ¬ inI p 64 := fun z => by rw [hb2.mpr z] at h2; cases h2
      rw [if_pos hin2] at hK
      exact hK R N hrel
  · have hin : ¬ inI m (S 3) := fun z => by rw [hb.mpr z] at h; cases h
    rw [q_learn, if_pos hin] at hK
    exact hK R N hrel)
set_option maxRecDepth 100000 in
set_option maxHeartbeats 4000000 in
theorem m_X8_learn (l : Launch) : ip_Met l yX8_learn cX8_learn 4 (some .int) (ip_rm 2) C_X8_learn := ip_met tb_X8_learn 400 (by decide +kernel) fl_X8_ok cn_X8_ok (ip_cs1 (ip_gsV (m_X8_isMan l) (ip_in [754, 756, 16, 39, 757] (by decide +kernel) (by decide +kernel)) rfl ⟨by decide +kernel, by decide +kernel, by decide +kernel⟩ ⟨rfl, rfl, Nat.le_of_ble_eq_true rfl, Nat.le_of_ble_eq_true rfl⟩) (ip_cs1 (ip_gsS (m_X8_isSet l) (ip_in [762, 763, 39, 764] (by decide +kernel) (by decide +kernel)) ⟨by decide +kernel, by decide +kernel, by decide +kernel⟩ ⟨rfl, rfl, Nat.le_of_ble_eq_true rfl, Nat.le_of_ble_eq_true rfl⟩) (ip_cs0))) ck_X8_learn rfl p_X8_learn
def C_X8_tell : ip_C := fun vs hp K => ∃ tc S G R N, ∃ m : Int32, vs = [.ref 0, .int m] ∧ hp = hpM R N ∧ wfC S G ∧ relA tc S G R N ∧ ∀ R' N', relA (q_tell tc S m).2 S G R' N' → K (some (.int (q_tell tc S m).1)) (hpM R' N')
def cs_X8_tell : List ip_G := [(125, 2, 8, C_X8_isMan), (198, 2, 8, C_X8_begins)]
theorem twice_pl : ∀ p : Fin 6, 2 * nI p.val + 100 = nI p.val + 100 + nI p.val := by decide +kernel
theorem p_X8_tell : ip_Pf fl_X8 cn_X8 cs_X8_tell (some .int) tb_X8_tell 3 C_X8_tell := ip_pf0 (by
  rintro _ _ K ⟨tc, S, G, R, N, m, rfl, rfl, hwf, hrel, hK⟩
  refine ⟨Nat.le_of_ble_eq_true rfl, ?_⟩
  obtain ⟨m5, m6, m7, -⟩ := id hrel.2.2.1
  have hR1 := hrel.2.1
  have w3 := hwf.1.2.2.1
  refine Exists.intro R ⟨N, m, S 3, rfl, rfl, m7, w3, fun b hb => ?_⟩
  refine ip_bn (fun h => ?_) (fun h => ?_)
  · have hin : inI m (S 3) := hb.mp h
    rw [q_tell, if_neg (not_not_intro hin)] at hK
    obtain ⟨i, hi, rfl, ei⟩ := ti_of hin.1
    have l1 : i < 4 := by have := hin.2; omega
    obtain ⟨k1, k2, k3⟩ := hwf.1.2.2.2 i l1
    obtain ⟨hv, e4, e5, e6⟩ := man_at hrel.2.2.1 l1
    have tw := twice_pl ⟨S (50 + i), k2⟩
    simp only at tw
    rw [nt_n hi, ← tw, ← e5, ← hR1] at hK
    rw [← hR1] at hrel
    have t4 : (N 4 (nI i).toNatClampNeg).toInt = (S (40 + i) : Int) := by rw [e4]; exact ti_n (by omega)
    have g1 : ∀ {X Y : Prop}, (S (40 + i) = 1 → X) → (S (40 + i) ≠ 1 → Y) → ((1 : Int) = (N 4 (nI i).toNatClampNeg).toInt → X) ∧ (¬ (1 : Int) = (N 4 (nI i).toNatClampNeg).toInt → Y) := fun f g => by rw [t4]; exact ⟨fun h => f (by omega), fun h => g (by omega)⟩
    have g2 : ∀ {X Y : Prop}, (S (40 + i) = 2 → X) → (S (40 + i) ≠ 2 → Y) → ((2 : Int) = (N 4 (nI i).toNatClampNeg).toInt → X) ∧ (¬ (2 : Int) = (N 4 (nI i).toNatClampNeg).toInt → Y) := fun f g => by rw [t4]; exact ⟨fun h => f (by omega), fun h => g (by omega)⟩
    refine And.intro hv (And.intro hv ?_)
    refine g1 (fun h => ?_) (fun h => ?_)
    · rw [if_pos h] at hK
      refine Exists.intro R ⟨N, 2, rfl, rfl, ?_⟩
      refine Exists.intro _ ⟨N, 1, rfl, rfl, ?_⟩
      exact hK _ N (relA_tc _ (relA_tc _ hrel))
    rw [if_neg h] at hK
    refine g2 (fun h => ?_) (fun h => ?_)
    · rw [if_pos h] at hK
      refine Exists.intro R ⟨N, 3, rfl, rfl, ?_⟩
      refine Exists.intro _ ⟨N, 2, rfl, rfl, ?_⟩
      refine Exists.intro _ ⟨N, 1, rfl, rfl, ?_⟩
      refine Exists.intro _ ⟨N, 1, rfl, rfl, ?_⟩
      exact hK _ N (relA_tc _ (relA_tc _ (relA_tc _ (relA_tc _ hrel))))
    · rw [if_neg h] at hK
      refine Exists.intro R ⟨N, 1, rfl, rfl, ?_⟩
      exact hK _ N (relA_tc _ hrel)
  · have hin : ¬ inI m (S 3) := fun z => by rw [hb.mpr z] at h; cases h
    rw [q_tell, if_pos hin] at hK
    exact hK R N hrel)
set_option maxRecDepth 100000 in
set_option maxHeartbeats 4000000 in
theorem m_X8_tell (l : Launch) : ip_Met l yX8_tell cX8_tell 3 (some .int) (ip_rm 1) C_X8_tell := ip_met tb_X8_tell 400 (by decide +kernel) fl_X8_ok cn_X8_ok (ip_cs1 (ip_gsV (m_X8_isMan l) (ip_in [754, 756, 16, 39, 757] (by decide +kernel) (by decide +kernel)) rfl ⟨by decide +kernel, by decide +kernel, by decide +kernel⟩ ⟨rfl, rfl, Nat.le_of_ble_eq_true rfl, Nat.le_of_ble_eq_true rfl⟩) (ip_cs1 (ip_gsV (m_X8_begins l) (ip_in [927, 929, 30, 39, 930] (by decide +kernel) (by decide +kernel)) rfl ⟨by decide +kernel, by decide +kernel, by decide +kernel⟩ ⟨rfl, rfl, Nat.le_of_ble_eq_true rfl, Nat.le_of_ble_eq_true rfl⟩) (ip_cs0))) ck_X8_tell rfl p_X8_tell
def C_X8_hail : ip_C := fun vs hp K => ∃ tc S G R N, ∃ m : Int32, vs = [.ref 0, .int m] ∧ hp = hpM R N ∧ wfC S G ∧ relA tc S G R N ∧ ∀ R' N', relA (q_hail tc S m).2 S G R' N' → K (some (.int (q_hail tc S m).1)) (hpM R' N')
def cs_X8_hail : List ip_G := [(125, 2, 8, C_X8_isMan), (198, 2, 8, C_X8_begins)]
theorem p_X8_hail : ip_Pf fl_X8 cn_X8 cs_X8_hail (some .int) tb_X8_hail 2 C_X8_hail := ip_pf0 (by
  rintro _ _ K ⟨tc, S, G, R, N, m, rfl, rfl, hwf, hrel, hK⟩
  refine ⟨Nat.le_of_ble_eq_true rfl, ?_⟩
  obtain ⟨m5, m6, m7, -⟩ := id hrel.2.2.1
  have hR1 := hrel.2.1
  have w3 := hwf.1.2.2.1
  refine Exists.intro R ⟨N, m, S 3, rfl, rfl, m7, w3, fun b hb => ?_⟩
  refine ip_bn (fun h => ?_) (fun h => ?_)
  · have hin : inI m (S 3) := hb.mp h
    rw [q_hail, if_neg (not_not_intro hin)] at hK
    obtain ⟨i, hi, rfl, ei⟩ := ti_of hin.1
    have l1 : i < 4 := by have := hin.2; omega
    obtain ⟨k1, k2, k3⟩ := hwf.1.2.2.2 i l1
    obtain ⟨hv, e4, e5, e6⟩ := man_at hrel.2.2.1 l1
    rw [nt_n hi, ← hR1] at hK
    rw [← hR1] at hrel
    have g2 : ∀ {X Y : Prop}, (S (40 + i) ≠ 2 → X) → (S (40 + i) = 2 → Y) → (¬ N 4 (nI i).toNatClampNeg = 2 → X) ∧ (N 4 (nI i).toNatClampNeg = 2 → Y) := fun f g => by rw [e4]; exact pk_ne _ 2 f g
    refine And.intro hv ?_
    refine g2 (fun h => ?_) (fun h => ?_)
    · rw [if_neg h] at hK
      refine Exists.intro R ⟨N, 4, rfl, rfl, ?_⟩
      refine And.intro hv ?_
      refine g2 (fun h2 => ?_) (fun h2 => absurd h2 h)
      exact hK _ N (relA_tc _ hrel)
    · rw [if_pos h] at hK
      refine Exists.intro R ⟨N, 5, rfl, rfl, ?_⟩
      refine And.intro hv ?_
      refine g2 (fun h2 => absurd h h2) (fun h2 => ?_)
      exact hK _ N (relA_tc _ hrel)
  · have hin : ¬ inI m (S 3) := fun z => by rw [hb.mpr z] at h; cases h
    rw [q_hail, if_pos hin] at hK
    exact hK R N hrel)
set_option maxRecDepth 100000 in
set_option maxHeartbeats 4000000 in
theorem m_X8_hail (l : Launch) : ip_Met l yX8_hail cX8_hail 2 (some .int) (ip_rm 1) C_X8_hail := ip_met tb_X8_hail 400 (by decide +kernel) fl_X8_ok cn_X8_ok (ip_cs1 (ip_gsV (m_X8_isMan l) (ip_in [754, 756, 16, 39, 757] (by decide +kernel) (by decide +kernel)) rfl ⟨by decide +kernel, by decide +kernel, by decide +kernel⟩ ⟨rfl, rfl, Nat.le_of_ble_eq_true rfl, Nat.le_of_ble_eq_true rfl⟩) (ip_cs1 (ip_gsV (m_X8_begins l) (ip_in [927, 929, 30, 39, 930] (by decide +kernel) (by decide +kernel)) rfl ⟨by decide +kernel, by decide +kernel, by decide +kernel⟩ ⟨rfl, rfl, Nat.le_of_ble_eq_true rfl, Nat.le_of_ble_eq_true rfl⟩) (ip_cs0))) ck_X8_hail rfl p_X8_hail
def C_X8_as : ip_C := fun vs hp K => ∃ tc S G R N, ∃ m k : Int32, vs = [.ref 0, .int m, .int k] ∧ hp = hpM R N ∧ wfC S G ∧ relA tc S G R N ∧ ∀ R' N', relA tc (q_as S m k).2 G R' N' → K (some (.int (q_as S m k).1)) (hpM R' N')
def cs_X8_as : List ip_G := [(125, 2, 8, C_X8_isMan), (65, 3, 0, C_X8_within), (93, 2, 8, C_X8_fails)]
theorem p_X8_as : ip_Pf fl_X8 cn_X8 cs_X8_as (some .int) tb_X8_as 3 C_X8_as := ip_pf0 (by
  rintro _ _ K ⟨tc, S, G, R, N, m, k, rfl, rfl, hwf, hrel, hK⟩
  refine ⟨Nat.le_of_ble_eq_true rfl, ?_⟩
  obtain ⟨m5, m6, m7, -⟩ := id hrel.2.2.1
  have w3 := hwf.1.2.2.1
  have h0 := relA_f 0 hrel
  refine Exists.intro (va_up R 0 0) ⟨N, m, S 3, rfl, rfl, m7, w3, fun b hb => ?_⟩
  refine ip_bn (fun h => ?_) (fun h => ?_)
  · have hin : inI m (S 3) := hb.mp h
    rw [q_as, if_neg (not_not_intro hin)] at hK
    obtain ⟨i, hi, rfl, ei⟩ := ti_of hin.1
    have l1 : i < 4 := by have := hin.2; omega
    obtain ⟨k1, k2, k3⟩ := hwf.1.2.2.2 i l1
    obtain ⟨hv, e4, e5, e6⟩ := man_at hrel.2.2.1 l1
    rw [nt_n hi] at hK
    refine Exists.intro k ⟨0, 2, rfl, fun b2 hb2 => ?_⟩
    have hb2 : b2 = true ↔ inI k 3 := by
      have t0 : (0 : Int32).toInt = 0 := by decide
      have t2 : (2 : Int32).toInt = 2 := by decide
      rw [hb2, t0, t2]
      unfold inI
      omega
    have g2 : ∀ {X Y : Prop}, ((S (40 + i) : Int) < k.toInt → X) → (k.toInt ≤ S (40 + i) → Y) → (N 4 (nI i).toNatClampNeg < k → X) ∧ (¬ N 4 (nI i).toNatClampNeg < k → Y) := fun f g => by rw [e4]; exact bz_lt _ _ f g (ti_n (by omega)) rfl
    refine ip_bn (fun h2 => ?_) (fun h2 => ?_)
    · have hin2 : inI k 3 := hb2.mp h2
      rw [if_neg (not_not_intro hin2)] at hK
      refine And.intro hv ?_
      refine g2 (fun h3 => ?_) (fun h3 => ?_)
      · rw [if_neg (by omega)] at hK
        refine Exists.intro (va_up R 0 0) ⟨N, 2, rfl, rfl, ?_⟩
        exact hK (va_up R 0 (nI 2)) N (relA_f 2 hrel)
      · rw [if_pos h3] at hK
        exact hK _ N h0
    · have hin2 : ¬ inI k 3 := fun z => by rw [hb2.mpr z] at h2; cases h2
      rw [if_pos hin2] at hK
      exact hK _ N h0
  · have hin : ¬ inI m (S 3) := fun z => by rw [hb.mpr z] at h; cases h
    rw [q_as, if_pos hin] at hK
    exact hK _ N h0)
set_option maxRecDepth 100000 in
set_option maxHeartbeats 4000000 in
theorem m_X8_as (l : Launch) : ip_Met l yX8_as cX8_as 3 (some .int) (ip_rm 1) C_X8_as := ip_met tb_X8_as 400 (by decide +kernel) fl_X8_ok cn_X8_ok (ip_cs1 (ip_gsV (m_X8_isMan l) (ip_in [754, 756, 16, 39, 757] (by decide +kernel) (by decide +kernel)) rfl ⟨by decide +kernel, by decide +kernel, by decide +kernel⟩ ⟨rfl, rfl, Nat.le_of_ble_eq_true rfl, Nat.le_of_ble_eq_true rfl⟩) (ip_cs1 (ip_gsS (m_X8_within l) (ip_in [716, 717, 39, 718] (by decide +kernel) (by decide +kernel)) ⟨by decide +kernel, by decide +kernel, by decide +kernel⟩ ⟨rfl, rfl, Nat.le_of_ble_eq_true rfl, Nat.le_of_ble_eq_true rfl⟩) (ip_cs1 (ip_gsV (m_X8_fails l) (ip_in [726, 728, 10, 39, 729] (by decide +kernel) (by decide +kernel)) rfl ⟨by decide +kernel, by decide +kernel, by decide +kernel⟩ ⟨rfl, rfl, Nat.le_of_ble_eq_true rfl, Nat.le_of_ble_eq_true rfl⟩) (ip_cs0)))) ck_X8_as rfl p_X8_as
