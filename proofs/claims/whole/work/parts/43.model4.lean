/-! ===== the reference and the system side by side: relA ===== -/
def relH (S : Nat → Nat) (G : Nat → Nat → Int32) (N : Nat → Nat → Int32) : Prop := ∀ k, k < 4 → (S (10 + k) = 0 → N 1 k = -9) ∧ (S (10 + k) = 1 → N 1 k = nI (S (20 + k)) ∧ N 2 k = nI (S (30 + k)) ∧ ∀ i, i < 60 → N 3 (60 * k + i) = G k i)
def relA (tc : Int32) (S : Nat → Nat) (G : Nat → Nat → Int32) (R : Nat → Int32) (N : Nat → Nat → Int32) : Prop := R 0 = nI (S 0) ∧ R 1 = tc ∧ relM S R N 0 ∧ relR S G R N ∧ relH S G N
theorem up_n {α : Type} {f : Nat → α} {k : Nat} {v : α} (j : Nat) (h : j ≠ k) : va_up f k v j = f j := va_up_ne f v h
theorem relM_S {S S' : Nat → Nat} {R : Nat → Int32} {N : Nat → Nat → Int32} {sl : Nat} (h : relM S R N sl) (e1 : S' 1 = S 1) (e2 : S' 2 = S 2) (e3 : S' 3 = S 3) (e4 : ∀ i, 40 ≤ i → S' i = S i) : relM S' R N sl := by
  obtain ⟨m5, m6, m7, m11, mm⟩ := h
  refine ⟨by rw [e1]; exact m5, by rw [e2]; exact m6, by rw [e3]; exact m7, m11, fun m hm => ?_⟩
  rw [e4 _ (by omega), e4 _ (by omega), e4 _ (by omega)]
  exact mm m hm
theorem relH_S {S S' : Nat → Nat} {G G' : Nat → Nat → Int32} {N N' : Nat → Nat → Int32} (h : relH S G N) (e : ∀ i, 10 ≤ i → i < 40 → S' i = S i) (eG : ∀ k, k < 4 → G' k = G k) (e1 : N' 1 = N 1) (e2 : N' 2 = N 2) (e3 : N' 3 = N 3) : relH S' G' N' := by
  intro k hk
  rw [e1, e2, e3, e _ (by omega) (by omega), e _ (by omega) (by omega), e _ (by omega) (by omega), eG k hk]
  exact h k hk
theorem relA_f {tc : Int32} {S : Nat → Nat} {G : Nat → Nat → Int32} {R : Nat → Int32} {N : Nat → Nat → Int32} (f : Nat) (h : relA tc S G R N) : relA tc (va_up S 0 f) G (va_up R 0 (nI f)) N := by
  obtain ⟨h0, h1, hm, hr, hh⟩ := h
  refine ⟨rfl, h1, ?_, hr, relH_S hh (fun i h1 h2 => up_n i (by omega)) (fun _ _ => rfl) rfl rfl rfl⟩
  have := relM_S (S' := va_up S 0 f) hm rfl rfl rfl (fun i hi => up_n i (by omega))
  exact this
theorem relA_tc {tc : Int32} {S : Nat → Nat} {G : Nat → Nat → Int32} {R : Nat → Int32} {N : Nat → Nat → Int32} (x : Int32) (h : relA tc S G R N) : relA x S G (va_up R 1 x) N := by
  obtain ⟨h0, h1, hm, hr, hh⟩ := h
  exact ⟨h0, rfl, hm, hr, hh⟩
theorem relM_t {S : Nat → Nat} {R : Nat → Int32} {N : Nat → Nat → Int32} {sl : Nat} (i : Nat) (h : relM S R N sl) : relM (va_up S 1 i) (va_up R 5 (nI i)) N sl := by
  obtain ⟨m5, m6, m7, m11, mm⟩ := h
  refine ⟨rfl, m6, m7, m11, fun m hm => ?_⟩
  rw [up_n (f := S) (40 + m) (by omega), up_n (f := S) (50 + m) (by omega), up_n (f := S) (60 + m) (by omega)]
  exact mm m hm
theorem relM_k {S : Nat → Nat} {R : Nat → Int32} {N : Nat → Nat → Int32} {sl j : Nat} (i : Nat) (hj : j < 4) (h : relM S R N sl) : relM (va_up S (40 + j) i) R (va_up N 4 (upd (N 4) (nI j).toNatClampNeg (nI i))) sl := by
  obtain ⟨m5, m6, m7, m11, mm⟩ := h
  rw [nI_clamp (by omega)]
  refine ⟨by rw [up_n (f := S) 1 (by omega)]; exact m5, by rw [up_n (f := S) 2 (by omega)]; exact m6, by rw [up_n (f := S) 3 (by omega)]; exact m7, m11, fun m hm => ?_⟩
  obtain ⟨a, b, c⟩ := mm m hm
  refine ⟨?_, by rw [up_n (f := S) (50 + m) (by omega)]; exact b, by rw [up_n (f := S) (60 + m) (by omega)]; exact c⟩
  by_cases e : m = j
  · subst e; simp [va_up, upd]
  · rw [up_n (f := S) (40 + m) (by omega), ← a]; simp [va_up, upd, e]
theorem relM_p {S : Nat → Nat} {R : Nat → Int32} {N : Nat → Nat → Int32} {sl j : Nat} (i : Nat) (hj : j < 4) (h : relM S R N sl) : relM (va_up S (50 + j) i) R (va_up N 5 (upd (N 5) (nI j).toNatClampNeg (nI i))) sl := by
  obtain ⟨m5, m6, m7, m11, mm⟩ := h
  rw [nI_clamp (by omega)]
  refine ⟨by rw [up_n (f := S) 1 (by omega)]; exact m5, by rw [up_n (f := S) 2 (by omega)]; exact m6, by rw [up_n (f := S) 3 (by omega)]; exact m7, m11, fun m hm => ?_⟩
  obtain ⟨a, b, c⟩ := mm m hm
  refine ⟨by rw [up_n (f := S) (40 + m) (by omega)]; exact a, ?_, by rw [up_n (f := S) (60 + m) (by omega)]; exact c⟩
  by_cases e : m = j
  · subst e; simp [va_up, upd]
  · rw [up_n (f := S) (50 + m) (by omega), ← b]; simp [va_up, upd, e]
theorem relM_l {S : Nat → Nat} {R : Nat → Int32} {N : Nat → Nat → Int32} {sl j : Nat} (i : Nat) (hj : j < 4) (h : relM S R N sl) : relM (va_up S (60 + j) i) R (va_up N 6 (upd (N 6) (nI j).toNatClampNeg (nI i))) sl := by
  obtain ⟨m5, m6, m7, m11, mm⟩ := h
  rw [nI_clamp (by omega)]
  refine ⟨by rw [up_n (f := S) 1 (by omega)]; exact m5, by rw [up_n (f := S) 2 (by omega)]; exact m6, by rw [up_n (f := S) 3 (by omega)]; exact m7, m11, fun m hm => ?_⟩
  obtain ⟨a, b, c⟩ := mm m hm
  refine ⟨by rw [up_n (f := S) (40 + m) (by omega)]; exact a, by rw [up_n (f := S) (50 + m) (by omega)]; exact b, ?_⟩
  by_cases e : m = j
  · subst e; simp [va_up, upd]
  · rw [up_n (f := S) (60 + m) (by omega), ← c]; simp [va_up, upd, e]
theorem relA_t {tc : Int32} {S : Nat → Nat} {G : Nat → Nat → Int32} {R : Nat → Int32} {N : Nat → Nat → Int32} (i : Nat) (h : relA tc S G R N) : relA tc (va_up S 1 i) G (va_up R 5 (nI i)) N := by
  obtain ⟨h0, h1, hm, hr, hh⟩ := h
  exact ⟨h0, h1, relM_t i hm, hr, relH_S hh (fun i h1 h2 => up_n i (by omega)) (fun _ _ => rfl) rfl rfl rfl⟩
theorem relA_m {tc : Int32} {S S' : Nat → Nat} {G : Nat → Nat → Int32} {R : Nat → Int32} {N N' : Nat → Nat → Int32} (h : relA tc S G R N) (hm : relM S' R N' 0) (e : ∀ i, i < 40 → S' i = S i) (n : N' 1 = N 1 ∧ N' 2 = N 2 ∧ N' 3 = N 3 ∧ N' 14 = N 14 ∧ N' 15 = N 15 ∧ N' 16 = N 16) : relA tc S' G R N' := by
  obtain ⟨h0, h1, -, ⟨r1, r2, r3, r4⟩, hh⟩ := h
  obtain ⟨n1, n2, n3, n4, n5, n6⟩ := n
  exact ⟨by rw [e 0 (by omega)]; exact h0, h1, hm, ⟨by rw [e 4 (by omega)]; exact r1, by rw [n4]; exact r2, by rw [n5]; exact r3, by rw [n6]; exact r4⟩, relH_S hh (fun i h1 h2 => e i h2) (fun _ _ => rfl) n1 n2 n3⟩
def C_X8_many : ip_C := fun vs hp K => ∃ tc S G R N, ∃ w : Int32, vs = [.ref 0, .int w] ∧ hp = hpM R N ∧ relA tc S G R N ∧ K (some (.int (r_many S w))) hp
def cs_X8_many : List ip_G := []
theorem p_X8_many : ip_Pf fl_X8 cn_X8 cs_X8_many (some .int) tb_X8_many 2 C_X8_many := ip_pf0 (by
  rintro _ _ K ⟨tc, S, G, R, N, w, rfl, rfl, ⟨h0, h1, ⟨m5, m6, m7, m11, mm⟩, ⟨r1, r2, r3, r4⟩, hh⟩, hK⟩
  refine ⟨Nat.le_of_ble_eq_true rfl, ?_⟩
  rw [r_many, ← m5, ← m6, ← m7, ← r1] at hK
  refine bz_ne w.toInt 0 (fun h => ?_) (fun h => ?_)
  · rw [if_neg h] at hK
    refine bz_ne w.toInt 1 (fun h => ?_) (fun h => ?_)
    · rw [if_neg h] at hK
      refine bz_ne w.toInt 2 (fun h => ?_) (fun h => ?_)
      · rw [if_neg h] at hK
        refine bz_ne w.toInt 3 (fun h => ?_) (fun h => ?_)
        · rw [if_neg h] at hK; exact hK
        · rw [if_pos h] at hK; exact hK
      · rw [if_pos h] at hK; exact hK
    · rw [if_pos h] at hK; exact hK
  · rw [if_pos h] at hK; exact hK)
set_option maxRecDepth 100000 in
set_option maxHeartbeats 4000000 in
theorem m_X8_many (l : Launch) : ip_Met l yX8_many cX8_many 2 (some .int) (ip_rm 0) C_X8_many := ip_met tb_X8_many 400 (by decide +kernel) fl_X8_ok cn_X8_ok (ip_cs0) ck_X8_many rfl p_X8_many
def C_X8_strikes : ip_C := fun vs hp K => ∃ S R N, ∃ p q : Int32, vs = [.ref 0, .int p, .int q] ∧ hp = hpM R N ∧ wfM S ∧ relM S R N 0 ∧ K (some (.int (r_strikes S p q))) hp
def cs_X8_strikes : List ip_G := [(131, 2, 8, C_X8_isParish), (137, 1, 0, C_X8_isQuestion), (147, 3, 8, C_X8_isHeld)]
theorem p_X8_strikes : ip_Pf fl_X8 cn_X8 cs_X8_strikes (some .int) tb_X8_strikes 3 C_X8_strikes := ip_pf0 (by
  rintro _ _ K ⟨S, R, N, p, q, rfl, rfl, hwf, hrel, hK⟩
  refine ⟨Nat.le_of_ble_eq_true rfl, ?_⟩
  refine Exists.intro R ⟨N, p, S 2, rfl, rfl, hrel.2.1, hwf.2.1, fun b hb => ?_⟩
  refine ip_bn (fun h => ?_) (fun h => ?_)
  · have hin : inI p (S 2) := hb.mp h
    rw [r_strikes, if_neg (not_not_intro hin)] at hK
    refine Exists.intro q ⟨rfl, fun b2 hb2 => ?_⟩
    refine ip_bn (fun h2 => ?_) (fun h2 => ?_)
    · have hin2 : inI q 6 := hb2.mp h2
      rw [if_neg (not_not_intro hin2)] at hK
      obtain ⟨i, hi, rfl, ei⟩ := ti_of hin.1
      obtain ⟨j, hj, rfl, ej⟩ := ti_of hin2.1
      rw [nt_n hi, nt_n hj] at hK
      have l2 : j < 6 := by have := hin2.2; omega
      have kk : ∀ c : Bool, stk S i j = c → K (some (.int (ip_bi c))) (hpM R N) := fun c e => by rw [← e]; exact hK
      refine Exists.intro R ⟨N, S, i, j, 0, hi, l2, by decide, rfl, rfl, hwf, hrel, ?_⟩
      rw [stk_held]
      refine ip_bt (fun h3 => ?_) (fun h3 => ?_)
      · exact kk true (by simpa using h3)
      · exact kk false (by simpa using h3)
    · have hin2 : ¬ inI q 6 := fun z => by rw [hb2.mpr z] at h2; cases h2
      rw [if_pos hin2] at hK
      exact hK
  · have hin : ¬ inI p (S 2) := fun z => by rw [hb.mpr z] at h; cases h
    rw [r_strikes, if_pos hin] at hK
    exact hK)
set_option maxRecDepth 100000 in
set_option maxHeartbeats 4000000 in
theorem m_X8_strikes (l : Launch) : ip_Met l yX8_strikes cX8_strikes 3 (some .int) (ip_rm 3) C_X8_strikes := ip_met tb_X8_strikes 400 (by decide +kernel) fl_X8_ok cn_X8_ok (ip_cs1 (ip_gsV (m_X8_isParish l) (ip_in [769, 771, 17, 39, 772] (by decide +kernel) (by decide +kernel)) rfl ⟨by decide +kernel, by decide +kernel, by decide +kernel⟩ ⟨rfl, rfl, Nat.le_of_ble_eq_true rfl, Nat.le_of_ble_eq_true rfl⟩) (ip_cs1 (ip_gsS (m_X8_isQuestion l) (ip_in [781, 782, 39, 783] (by decide +kernel) (by decide +kernel)) ⟨by decide +kernel, by decide +kernel, by decide +kernel⟩ ⟨rfl, rfl, Nat.le_of_ble_eq_true rfl, Nat.le_of_ble_eq_true rfl⟩) (ip_cs1 (ip_gsV (m_X8_isHeld l) (ip_in [796, 798, 20, 39, 799] (by decide +kernel) (by decide +kernel)) rfl ⟨by decide +kernel, by decide +kernel, by decide +kernel⟩ ⟨rfl, rfl, Nat.le_of_ble_eq_true rfl, Nat.le_of_ble_eq_true rfl⟩) (ip_cs0)))) ck_X8_strikes rfl p_X8_strikes
def C_X8_dangers : ip_C := fun vs hp K => ∃ S R N, ∃ p : Int32, vs = [.ref 0, .int p] ∧ hp = hpM R N ∧ wfM S ∧ relM S R N 0 ∧ K (some (.int (r_dangers S p))) hp
def cs_X8_dangers : List ip_G := [(131, 2, 8, C_X8_isParish), (150, 2, 8, C_X8_dangersOf)]
theorem p_X8_dangers : ip_Pf fl_X8 cn_X8 cs_X8_dangers (some .int) tb_X8_dangers 2 C_X8_dangers := ip_pf0 (by
  rintro _ _ K ⟨S, R, N, p, rfl, rfl, hwf, hrel, hK⟩
  refine ⟨Nat.le_of_ble_eq_true rfl, ?_⟩
  refine Exists.intro R ⟨N, p, S 2, rfl, rfl, hrel.2.1, hwf.2.1, fun b hb => ?_⟩
  refine ip_bt (fun h => ?_) (fun h => ?_)
  · have hin : ¬ inI p (S 2) := fun z => by rw [hb.mpr z] at h; cases h
    rw [r_dangers, if_pos hin] at hK
    exact hK
  · have hin : inI p (S 2) := hb.mp h
    rw [r_dangers, if_neg (not_not_intro hin)] at hK
    obtain ⟨i, hi, rfl, ei⟩ := ti_of hin.1
    rw [nt_n hi, ← dgpM_0] at hK
    exact Exists.intro R ⟨N, S, i, 0, hi, by decide, rfl, rfl, hwf, hrel, hK⟩)
set_option maxRecDepth 100000 in
set_option maxHeartbeats 4000000 in
theorem m_X8_dangers (l : Launch) : ip_Met l yX8_dangers cX8_dangers 2 (some .int) (ip_rm 4) C_X8_dangers := ip_met tb_X8_dangers 400 (by decide +kernel) fl_X8_ok cn_X8_ok (ip_cs1 (ip_gsV (m_X8_isParish l) (ip_in [769, 771, 17, 39, 772] (by decide +kernel) (by decide +kernel)) rfl ⟨by decide +kernel, by decide +kernel, by decide +kernel⟩ ⟨rfl, rfl, Nat.le_of_ble_eq_true rfl, Nat.le_of_ble_eq_true rfl⟩) (ip_cs1 (ip_gsV (m_X8_dangersOf l) (ip_in [804, 806, 21, 39, 807] (by decide +kernel) (by decide +kernel)) rfl ⟨by decide +kernel, by decide +kernel, by decide +kernel⟩ ⟨rfl, rfl, Nat.le_of_ble_eq_true rfl, Nat.le_of_ble_eq_true rfl⟩) (ip_cs0))) ck_X8_dangers rfl p_X8_dangers
def C_X8_answer : ip_C := fun vs hp K => ∃ S R N, ∃ m q : Int32, vs = [.ref 0, .int m, .int q] ∧ hp = hpM R N ∧ wfM S ∧ relM S R N 0 ∧ K (some (.int (r_answer S m q))) hp
def cs_X8_answer : List ip_G := [(125, 2, 8, C_X8_isMan), (137, 1, 0, C_X8_isQuestion), (140, 3, 8, C_X8_answerOf)]
theorem p_X8_answer : ip_Pf fl_X8 cn_X8 cs_X8_answer (some .int) tb_X8_answer 3 C_X8_answer := ip_pf0 (by
  rintro _ _ K ⟨S, R, N, m, q, rfl, rfl, hwf, hrel, hK⟩
  refine ⟨Nat.le_of_ble_eq_true rfl, ?_⟩
  have w3 := hwf.2.2.1
  refine Exists.intro R ⟨N, m, S 3, rfl, rfl, hrel.2.2.1, w3, fun b hb => ?_⟩
  refine ip_bn (fun h => ?_) (fun h => ?_)
  · have hin : inI m (S 3) := hb.mp h
    rw [r_answer, if_neg (not_not_intro hin)] at hK
    refine Exists.intro q ⟨rfl, fun b2 hb2 => ?_⟩
    refine ip_bt (fun h2 => ?_) (fun h2 => ?_)
    · have hin2 : ¬ inI q 6 := fun z => by rw [hb2.mpr z] at h2; cases h2
      rw [if_pos hin2] at hK
      exact hK
    · have hin2 : inI q 6 := hb2.mp h2
      rw [if_neg (not_not_intro hin2)] at hK
      obtain ⟨i, hi, rfl, ei⟩ := ti_of hin.1
      obtain ⟨j, hj, rfl, ej⟩ := ti_of hin2.1
      rw [nt_n hi, nt_n hj] at hK
      have l1 : i < 4 := by have := hin.2; omega
      have l2 : j < 6 := by have := hin2.2; omega
      exact Exists.intro R ⟨N, S, i, j, 0, l1, l2, rfl, rfl, hwf, hrel, hK⟩
  · have hin : ¬ inI m (S 3) := fun z => by rw [hb.mpr z] at h; cases h
    rw [r_answer, if_pos hin] at hK
    exact hK)
set_option maxRecDepth 100000 in
set_option maxHeartbeats 4000000 in
theorem m_X8_answer (l : Launch) : ip_Met l yX8_answer cX8_answer 3 (some .int) (ip_rm 2) C_X8_answer := ip_met tb_X8_answer 400 (by decide +kernel) fl_X8_ok cn_X8_ok (ip_cs1 (ip_gsV (m_X8_isMan l) (ip_in [754, 756, 16, 39, 757] (by decide +kernel) (by decide +kernel)) rfl ⟨by decide +kernel, by decide +kernel, by decide +kernel⟩ ⟨rfl, rfl, Nat.le_of_ble_eq_true rfl, Nat.le_of_ble_eq_true rfl⟩) (ip_cs1 (ip_gsS (m_X8_isQuestion l) (ip_in [781, 782, 39, 783] (by decide +kernel) (by decide +kernel)) ⟨by decide +kernel, by decide +kernel, by decide +kernel⟩ ⟨rfl, rfl, Nat.le_of_ble_eq_true rfl, Nat.le_of_ble_eq_true rfl⟩) (ip_cs1 (ip_gsV (m_X8_answerOf l) (ip_in [784, 786, 18, 39, 787] (by decide +kernel) (by decide +kernel)) rfl ⟨by decide +kernel, by decide +kernel, by decide +kernel⟩ ⟨rfl, rfl, Nat.le_of_ble_eq_true rfl, Nat.le_of_ble_eq_true rfl⟩) (ip_cs0)))) ck_X8_answer rfl p_X8_answer
