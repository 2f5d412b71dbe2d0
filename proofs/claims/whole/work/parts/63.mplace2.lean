/-! ===== the reference: place, second part ===== -/
def C_X8_place : ip_C := fun vs hp K => ∃ tc S G R N, ∃ (kk sh ln i n : Int32), vs = [.ref 0, .int kk, .int sh, .int ln, .int i, .int n] ∧ hp = hpM R N ∧ wfC S G ∧ relA tc S G R N ∧ ∀ R' N', relA tc (va_up S 0 (q_place S G kk sh ln i n).2) G R' N' → K (some (.int (q_place S G kk sh ln i n).1)) (hpM R' N')
def cs_X8_place : List ip_G := [(82, 1, 0, C_X8_isSheet), (156, 2, 0, C_X8_isRow), (159, 5, 8, C_X8_layStorm), (166, 1, 8, C_X8_findPlaces), (125, 2, 8, C_X8_isMan)]
theorem p_X8_place : ip_Pf fl_X8 cn_X8 cs_X8_place (some .int) tb_X8_place 8 C_X8_place := ip_pf0 (by
  rintro _ _ K ⟨tc, S, G, R, N, kk, sh, ln, i, n, rfl, rfl, hwf, hrel, hK⟩
  have h0 := relA_f 0 hrel
  have w2 := hwf.1.2.1
  have w3 := hwf.1.2.2.1
  have m7 := hrel.2.2.1.2.2.1
  refine ⟨Nat.le_of_ble_eq_true rfl, ?_⟩
  refine bz_lt kk.toInt (-1) (fun h => ?_) (fun h => ?_)
  · rw [q_place, if_pos h] at hK
    exact hK _ N h0
  rw [q_place, if_neg (by omega)] at hK
  have bad : ∀ c : Int32 × Nat, hsR S G sh ln i n true = c → c.1 ≠ 0 → ∀ R' N', relA tc (va_up S 0 c.2) G R' N' → K (some (.int c.1)) (hpM R' N') := fun c e hc R' N' hr => by
    subst e
    rw [if_pos hc] at hK
    exact hK R' N' hr
  have good : hsR S G sh ln i n true = (0, 0) → ∀ r R' N', (if kk.toInt = -1 then ((nI (cP S G (nt sh) (nt i) (nt n) (amn (cP S G (nt sh) (nt i) (nt n)) (S 2 ^ S 3))), 0) : Int32 × Nat) else if inI kk (S 3) then (nI (dg (S 2) (S 3) (amn (cP S G (nt sh) (nt i) (nt n)) (S 2 ^ S 3)) (nt kk)), 0) else (-9, 0)) = (r, 0) → relA tc (va_up S 0 0) G R' N' → K (some (.int r)) (hpM R' N') := fun h r R' N' er hr => by
    rw [h, if_neg (by decide), er] at hK
    exact hK R' N' hr
  clear hK
  change ip_wp _ _ _ _ _ _ _ _ _ _ _ _ [] _
  refine Exists.intro sh ⟨rfl, fun b hb => ?_⟩
  refine ip_bn (fun h1 => ?_) (fun h1 => ?_)
  rotate_left
  · exact bad _ (hs_1 (fun z => by rw [hb.mpr z] at h1; cases h1)) (by decide) _ N h0
  have hs4 : inI sh 4 := hb.mp h1
  change ip_wp _ _ _ _ _ _ _ _ _ _ _ _ [] _
  refine Exists.intro ln ⟨n, rfl, fun b2 hb2 => ?_⟩
  refine ip_bn (fun h2 => ?_) (fun h2 => ?_)
  rotate_left
  · have hno : ¬ (inI ln 3 ∧ 0 ≤ n.toInt ∧ n.toInt ≤ 20) := fun z => by rw [hb2.mpr z] at h2; cases h2
    refine bad _ (hs_2 hs4 ?_) (by decide) _ N h0
    by_cases z : inI ln 3
    · right
      have : ¬ (0 ≤ n.toInt ∧ n.toInt ≤ 20) := fun q => hno ⟨z, q⟩
      omega
    · exact Or.inl z
  obtain ⟨hl, hn0, hn20⟩ := hb2.mp h2
  change ip_wp _ _ _ _ _ _ _ _ _ _ _ _ [] _
  rw [hs_ls hs4 hl hn0 hn20] at bad good
  obtain ⟨k, hk, rfl, ek⟩ := ti_of hs4.1
  have hk4 : k < 4 := by have := hs4.2; omega
  rw [nt_n hk] at bad good
  refine Exists.intro tc ⟨S, G, va_up R 0 0, N, k, ln, i, n, hk4, hn0, hn20, rfl, rfl, hwf, h0, fun hne R' N' hr => ?_, fun hz hok R' N' hr hlay => ?_⟩
  · exact And.intro (fun z => absurd z hne) (fun _ => bad _ rfl hne R' N' hr)
  refine And.intro (fun _ => ?_) (fun z => absurd rfl z)
  have hrm : relM S R' N' 0 := relM_0 hr.2.2.1
  have good := good hz
  clear bad
  generalize nt n = n' at *
  generalize nt i = a at *
  change ip_wp _ _ _ _ _ _ _ _ _ _ _ _ [] _
  refine Exists.intro S ⟨G, R', N', k, a, n', rfl, rfl, hwf.1, hrm, hlay, hok, fun Pl Kp Fd hPl hFd => ?_⟩
  have hr2 : relA tc (va_up S 0 0) G R' (va_up (va_up (va_up N' 5 Pl) 10 Kp) 11 Fd) := by
    refine relA_m (S := va_up S 0 0) hr ⟨hr.2.2.1.1, hr.2.2.1.2.1, hr.2.2.1.2.2.1, hr.2.2.1.2.2.2.1, fun m hm => ?_⟩ (fun _ _ => rfl) ⟨rfl, rfl, rfl, rfl, rfl, rfl⟩
    obtain ⟨q4, q5, q6⟩ := hr.2.2.1.2.2.2.2 m hm
    exact ⟨q4, by show Pl m = _; rw [hPl m hm]; exact q5, q6⟩
  generalize hN : va_up (va_up (va_up N' 5 Pl) 10 Kp) 11 Fd = N2 at *
  have hN11 : N2 11 = Fd := by rw [← hN]; rfl
  have m7' : R' 7 = nI (S 3) := hrm.2.2.1
  refine bz_ne kk.toInt (-1) (fun h3 => ?_) (fun h3 => ?_)
  · refine Exists.intro R' ⟨N2, kk, S 3, rfl, rfl, m7', w3, fun b3 hb3 => ?_⟩
    refine ip_bt (fun h4 => ?_) (fun h4 => ?_)
    · have hno : ¬ inI kk (S 3) := fun z => by rw [hb3.mpr z] at h4; cases h4
      exact good (-9) _ _ (by rw [if_neg h3, if_neg hno]) hr2
    · have hin : inI kk (S 3) := hb3.mp h4
      obtain ⟨l1, e1⟩ := inI_nt hin
      have hv : vp_in kk 4 := by rw [e1]; exact pk_in (nt kk) 4 (by omega)
      refine And.intro hv ?_
      have ek2 : kk.toNatClampNeg = nt kk := nt_cl hin.1
      rw [ek2, hN11, hFd _ l1]
      exact good _ _ _ (by rw [if_neg h3, if_pos hin]) hr2
  · exact good _ _ _ (by rw [if_pos h3]) hr2)
set_option maxRecDepth 100000 in
set_option maxHeartbeats 4000000 in
theorem m_X8_place (l : Launch) : ip_Met l yX8_place cX8_place 8 (some .int) (ip_rm 5) C_X8_place := ip_met tb_X8_place 400 (by decide +kernel) fl_X8_ok cn_X8_ok (ip_cs1 (ip_gsS (m_X8_isSheet l) (ip_in [713, 714, 39, 715] (by decide +kernel) (by decide +kernel)) ⟨by decide +kernel, by decide +kernel, by decide +kernel⟩ ⟨rfl, rfl, Nat.le_of_ble_eq_true rfl, Nat.le_of_ble_eq_true rfl⟩) (ip_cs1 (ip_gsS (m_X8_isRow l) (ip_in [812, 813, 39, 814] (by decide +kernel) (by decide +kernel)) ⟨by decide +kernel, by decide +kernel, by decide +kernel⟩ ⟨rfl, rfl, Nat.le_of_ble_eq_true rfl, Nat.le_of_ble_eq_true rfl⟩) (ip_cs1 (ip_gsV (m_X8_layStorm l) (ip_in [815, 817, 22, 39, 818] (by decide +kernel) (by decide +kernel)) rfl ⟨by decide +kernel, by decide +kernel, by decide +kernel⟩ ⟨rfl, rfl, Nat.le_of_ble_eq_true rfl, Nat.le_of_ble_eq_true rfl⟩) (ip_cs1 (ip_gsV (m_X8_findPlaces l) (ip_in [827, 829, 24, 39, 830] (by decide +kernel) (by decide +kernel)) rfl ⟨by decide +kernel, by decide +kernel, by decide +kernel⟩ ⟨rfl, rfl, Nat.le_of_ble_eq_true rfl, Nat.le_of_ble_eq_true rfl⟩) (ip_cs1 (ip_gsV (m_X8_isMan l) (ip_in [754, 756, 16, 39, 757] (by decide +kernel) (by decide +kernel)) rfl ⟨by decide +kernel, by decide +kernel, by decide +kernel⟩ ⟨rfl, rfl, Nat.le_of_ble_eq_true rfl, Nat.le_of_ble_eq_true rfl⟩) (ip_cs0)))))) ck_X8_place rfl p_X8_place
