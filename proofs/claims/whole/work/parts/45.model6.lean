/-! ===== the reference: sheets ===== -/
theorem ln_ne9 : ∀ l : Fin 3, ¬ nI l.val = -9 := by decide +kernel
theorem sh_at {S : Nat → Nat} {G N : Nat → Nat → Int32} {k : Nat} (h : relH S G N) (hw : wfH S) (hk : k < 4) : vp_in (nI k) 4 ∧ (S (10 + k) = 0 ∧ N 1 (nI k).toNatClampNeg = -9 ∨ S (10 + k) = 1 ∧ N 1 (nI k).toNatClampNeg = nI (S (20 + k)) ∧ ¬ N 1 (nI k).toNatClampNeg = -9 ∧ N 2 (nI k).toNatClampNeg = nI (S (30 + k)) ∧ (∀ i, i < 60 → N 3 (60 * k + i) = G k i) ∧ S (20 + k) ≤ 2 ∧ S (30 + k) ≤ 60) := by
  rw [nI_clamp (n := k) (by omega)]
  obtain ⟨a, b⟩ := h k hk
  obtain ⟨w1, w2, w3⟩ := hw k hk
  refine ⟨pk_in k 4 hk, ?_⟩
  by_cases e : S (10 + k) = 0
  · exact .inl ⟨e, a e⟩
  · have e1 : S (10 + k) = 1 := by omega
    obtain ⟨c1, c2, c3⟩ := b e1
    exact .inr ⟨e1, c1, by rw [c1]; exact ln_ne9 ⟨_, by omega⟩, c2, c3, w2, w3⟩
def C_X8_against : ip_C := fun vs hp K => ∃ S G R N, ∃ (k : Nat) (w i n : Int32), k < 4 ∧ vs = [.ref 0, .int (nI k), .int w, .int i, .int n] ∧ hp = hpM R N ∧ wfH S ∧ relH S G N ∧ K (some (.int (nI (fo S k w.toInt i.toInt n.toInt)))) hp
def cs_X8_against : List ip_G := []
theorem p_X8_against : ip_Pf fl_X8 cn_X8 cs_X8_against (some .int) tb_X8_against 5 C_X8_against := ip_pf0 (by
  rintro _ _ K ⟨S, G, R, N, k, w, i, n, hk, rfl, rfl, hw, hrel, hK⟩
  refine ⟨Nat.le_of_ble_eq_true rfl, ?_⟩
  obtain ⟨hv, ⟨z0, e1⟩ | ⟨z1, e1, e9, e2, -, l2, l3⟩⟩ := sh_at hrel hw hk
  · rw [fo, if_pos z0] at hK
    refine And.intro hv (And.intro (fun _ => ?_) (fun z => absurd e1 z))
    exact And.intro hv (And.intro (fun z => absurd e1 z) (fun _ => hK))
  · rw [fo, if_neg (by omega)] at hK
    have g1 : ∀ {X Y : Prop}, ((S (20 + k) : Int) = w.toInt → X) → ((S (20 + k) : Int) ≠ w.toInt → Y) → (N 1 (nI k).toNatClampNeg = w → X) ∧ (¬ N 1 (nI k).toNatClampNeg = w → Y) := fun f g => by rw [e1]; exact bz_eq _ _ f g (ti_n (by omega)) rfl
    have g2 : ∀ {X Y : Prop}, ((S (30 + k) : Int) < i.toInt → X) → (i.toInt ≤ S (30 + k) → Y) → (N 2 (nI k).toNatClampNeg < i → X) ∧ (¬ N 2 (nI k).toNatClampNeg < i → Y) := fun f g => by rw [e2]; exact bz_lt _ _ f g (ti_n (by omega)) rfl
    have g3 : ∀ {X Y : Prop}, 0 ≤ i.toInt → i.toInt ≤ S (30 + k) → (n.toInt + i.toInt ≤ S (30 + k) → X) → ((S (30 + k) : Int) < n.toInt + i.toInt → Y) → (n ≤ N 2 (nI k).toNatClampNeg - i → X) ∧ (¬ n ≤ N 2 (nI k).toNatClampNeg - i → Y) := fun h1 h2 f g => by
      obtain ⟨j, hj, rfl, ej⟩ := ti_of h1
      rw [e2, pk_sub (by omega)]
      exact bz_le n.toInt ((S (30 + k) - j : Nat) : Int) (fun z => f (by omega)) (fun z => g (by omega)) rfl (ti_n (by omega))
    refine And.intro hv (And.intro (fun z => absurd z e9) (fun _ => ?_))
    refine And.intro hv ?_
    refine g1 (fun h => ?_) (fun h => ?_)
    · rw [if_neg (not_not_intro h)] at hK
      refine And.intro hv (And.intro (fun _ => ?_) (fun z => absurd z e9))
      refine bz_le 0 n.toInt (fun h2 => ?_) (fun h2 => ?_)
      · rw [if_neg (by omega)] at hK
        refine bz_lt i.toInt 0 (fun h3 => ?_) (fun h3 => ?_)
        · rw [if_neg (by omega)] at hK
          exact hK
        refine And.intro hv ?_
        refine g2 (fun h4 => ?_) (fun h4 => ?_)
        · rw [if_neg (by omega)] at hK
          exact hK
        refine And.intro hv ?_
        refine g3 h3 h4 (fun h5 => ?_) (fun h5 => ?_)
        · rw [if_pos (by omega)] at hK
          exact hK
        · rw [if_neg (by omega)] at hK
          exact hK
      · rw [if_pos h2] at hK
        exact hK
    · rw [if_pos h] at hK
      exact hK)
set_option maxRecDepth 100000 in
set_option maxHeartbeats 4000000 in
theorem m_X8_against (l : Launch) : ip_Met l yX8_against cX8_against 5 (some .int) (ip_rm 0) C_X8_against := ip_met tb_X8_against 400 (by decide +kernel) fl_X8_ok cn_X8_ok (ip_cs0) ck_X8_against rfl p_X8_against
theorem relH_lose {S : Nat → Nat} {G N : Nat → Nat → Int32} {k : Nat} (hk : k < 4) (h : relH S G N) : relH (va_up S (10 + k) 0) G (va_up N 1 (upd (N 1) (nI k).toNatClampNeg (-9))) := by
  rw [nI_clamp (n := k) (by omega)]
  intro j hj
  obtain ⟨a, b⟩ := h j hj
  rw [up_n (f := S) (20 + j) (by omega), up_n (f := S) (30 + j) (by omega)]
  by_cases e : j = k
  · subst e
    refine ⟨fun _ => by simp [va_up, upd], fun z => ?_⟩
    rw [va_up_self] at z
    cases z
  · rw [up_n (f := S) (10 + j) (by omega)]
    have e1 : va_up N 1 (upd (N 1) k (-9)) 1 j = N 1 j := by show upd (N 1) k (-9) j = _; exact pk_un e
    rw [e1]
    exact ⟨a, b⟩
def C_X8_lose : ip_C := fun vs hp K => ∃ tc S G R N, ∃ k : Int32, vs = [.ref 0, .int k] ∧ hp = hpM R N ∧ wfC S G ∧ relA tc S G R N ∧ ∀ R' N', relA tc (q_lose S k).2 G R' N' → K (some (.int (q_lose S k).1)) (hpM R' N')
def cs_X8_lose : List ip_G := [(82, 1, 0, C_X8_isSheet)]
theorem p_X8_lose : ip_Pf fl_X8 cn_X8 cs_X8_lose (some .int) tb_X8_lose 3 C_X8_lose := ip_pf0 (by
  rintro _ _ K ⟨tc, S, G, R, N, k, rfl, rfl, hwf, hrel, hK⟩
  refine ⟨Nat.le_of_ble_eq_true rfl, ?_⟩
  refine Exists.intro k ⟨rfl, fun b hb => ?_⟩
  refine ip_bn (fun h => ?_) (fun h => ?_)
  · have hin : inI k 4 := hb.mp h
    rw [q_lose, if_neg (not_not_intro hin)] at hK
    obtain ⟨i, hi, rfl, ei⟩ := ti_of hin.1
    have l1 : i < 4 := by have := hin.2; omega
    rw [nt_n hi] at hK
    have hr2 : relA tc (va_up S (10 + i) 0) G R (va_up N 1 (upd (N 1) (nI i).toNatClampNeg (-9))) := by
      obtain ⟨h0, h1, hm, hr, hh⟩ := hrel
      refine ⟨by rw [up_n (f := S) 0 (by omega)]; exact h0, h1, ?_, ?_, relH_lose l1 hh⟩
      · exact relM_S (S' := va_up S (10 + i) 0) hm (up_n 1 (by omega)) (up_n 2 (by omega)) (up_n 3 (by omega)) (fun j hj => up_n j (by omega))
      · obtain ⟨r1, r2⟩ := hr
        exact ⟨by rw [up_n (f := S) 4 (by omega)]; exact r1, r2⟩
    have hK' := hK _ _ hr2
    obtain ⟨hv, ⟨z0, e1⟩ | ⟨z1, e1, e9, e2, -, l2, l3⟩⟩ := sh_at hrel.2.2.2.2 hwf.2.1 l1
    · rw [z0] at hK'
      exact And.intro hv (And.intro (fun z => absurd e1 z) (fun _ => And.intro hv hK'))
    · rw [z1] at hK'
      exact And.intro hv (And.intro (fun _ => And.intro hv hK') (fun z => absurd z e9))
  · have hin : ¬ inI k 4 := fun z => by rw [hb.mpr z] at h; cases h
    rw [q_lose, if_pos hin] at hK
    exact hK R N hrel)
set_option maxRecDepth 100000 in
set_option maxHeartbeats 4000000 in
theorem m_X8_lose (l : Launch) : ip_Met l yX8_lose cX8_lose 3 (some .int) (ip_rm 2) C_X8_lose := ip_met tb_X8_lose 400 (by decide +kernel) fl_X8_ok cn_X8_ok (ip_cs1 (ip_gsS (m_X8_isSheet l) (ip_in [713, 714, 39, 715] (by decide +kernel) (by decide +kernel)) ⟨by decide +kernel, by decide +kernel, by decide +kernel⟩ ⟨rfl, rfl, Nat.le_of_ble_eq_true rfl, Nat.le_of_ble_eq_true rfl⟩) (ip_cs0)) ck_X8_lose rfl p_X8_lose
def C_X8_back : ip_C := fun vs hp K => ∃ tc S G R N, ∃ k : Int32, vs = [.ref 0, .int k] ∧ hp = hpM R N ∧ wfC S G ∧ relA tc S G R N ∧ ∀ R' N', relA tc (q_back S k).2 G R' N' → K (some (.int (q_back S k).1)) (hpM R' N')
def cs_X8_back : List ip_G := [(65, 3, 0, C_X8_within)]
theorem relA_r {tc : Int32} {S : Nat → Nat} {G : Nat → Nat → Int32} {R : Nat → Int32} {N : Nat → Nat → Int32} (x : Nat) (h : relA tc S G R N) : relA tc (va_up S 4 x) G (va_up R 24 (nI x)) N := by
  obtain ⟨h0, h1, hm, ⟨r1, r2⟩, hh⟩ := h
  refine ⟨h0, h1, ?_, ⟨rfl, r2⟩, relH_S hh (fun i h1 h2 => up_n i (by omega)) (fun _ _ => rfl) rfl rfl rfl⟩
  have := relM_S (S' := va_up S 4 x) hm rfl rfl rfl (fun i hi => up_n i (by omega))
  exact this
theorem p_X8_back : ip_Pf fl_X8 cn_X8 cs_X8_back (some .int) tb_X8_back 2 C_X8_back := ip_pf0 (by
  rintro _ _ K ⟨tc, S, G, R, N, k, rfl, rfl, hwf, hrel, hK⟩
  refine ⟨Nat.le_of_ble_eq_true rfl, ?_⟩
  have r24 : R 24 = nI (S 4) := hrel.2.2.2.1.1
  have w4 := hwf.2.2.1.1
  refine Exists.intro k ⟨0, R 24, rfl, fun b hb => ?_⟩
  have hb : b = true ↔ (0 ≤ k.toInt ∧ k.toInt ≤ S 4) := by
    have t0 : (0 : Int32).toInt = 0 := by decide
    rw [hb, t0, r24, ti_n (by omega)]
  refine ip_bn (fun h => ?_) (fun h => ?_)
  · have hin := hb.mp h
    rw [q_back, if_neg (not_not_intro hin)] at hK
    obtain ⟨i, hi, rfl, ei⟩ := ti_of hin.1
    rw [nt_n hi] at hK
    have e : R 24 - nI i = nI (S 4 - i) := by rw [r24]; exact pk_sub (by omega)
    have hK' := hK _ _ (relA_r _ hrel)
    rw [← e] at hK'
    exact hK'
  · have hin : ¬ (0 ≤ k.toInt ∧ k.toInt ≤ S 4) := fun z => by rw [hb.mpr z] at h; cases h
    rw [q_back, if_pos hin] at hK
    exact hK R N hrel)
set_option maxRecDepth 100000 in
set_option maxHeartbeats 4000000 in
theorem m_X8_back (l : Launch) : ip_Met l yX8_back cX8_back 2 (some .int) (ip_rm 1) C_X8_back := ip_met tb_X8_back 400 (by decide +kernel) fl_X8_ok cn_X8_ok (ip_cs1 (ip_gsS (m_X8_within l) (ip_in [716, 717, 39, 718] (by decide +kernel) (by decide +kernel)) ⟨by decide +kernel, by decide +kernel, by decide +kernel⟩ ⟨rfl, rfl, Nat.le_of_ble_eq_true rfl, Nat.le_of_ble_eq_true rfl⟩) (ip_cs0)) ck_X8_back rfl p_X8_back
def C_X8_reading : ip_C := fun vs hp K => ∃ tc S G R N, ∃ (p q : Int32) (b : Bool), vs = [.ref 0, .int p, .int q, .int (ip_bi b)] ∧ hp = hpM R N ∧ wfC S G ∧ relA tc S G R N ∧ ∀ R' N', relA tc (q_reading S G p q b).2.1 (q_reading S G p q b).2.2 R' N' → K (some (.int (q_reading S G p q b).1)) (hpM R' N')
def cs_X8_reading : List ip_G := [(131, 2, 8, C_X8_isParish), (137, 1, 0, C_X8_isQuestion)]
theorem p_X8_reading : ip_Pf fl_X8 cn_X8 cs_X8_reading (some .int) tb_X8_reading 4 C_X8_reading := ip_pf0 (by
  rintro _ _ K ⟨tc, S, G, R, N, p, q, bb, rfl, rfl, hwf, hrel, hK⟩
  refine ⟨Nat.le_of_ble_eq_true rfl, ?_⟩
  have r24 : R 24 = nI (S 4) := hrel.2.2.2.1.1
  have w4 := hwf.2.2.1.1
  refine Exists.intro R ⟨N, p, S 2, rfl, rfl, hrel.2.2.1.2.1, hwf.1.2.1, fun b hb => ?_⟩
  refine ip_bn (fun h => ?_) (fun h => ?_)
  · have hin : inI p (S 2) := hb.mp h
    rw [q_reading, if_neg (not_not_intro hin)] at hK
    refine Exists.intro q ⟨rfl, fun b2 hb2 => ?_⟩
    refine ip_bn (fun h2 => ?_) (fun h2 => ?_)
    · have hin2 : inI q 6 := hb2.mp h2
      rw [if_neg (not_not_intro hin2)] at hK
      have g8 : ∀ {X Y : Prop}, (S 4 ≠ 8 → X) → (S 4 = 8 → Y) → (¬ R 24 = 8 → X) ∧ (R 24 = 8 → Y) := fun f g => by rw [r24]; exact pk_ne _ 8 f g
      refine g8 (fun h8 => ?_) (fun h8 => ?_)
      · rw [if_neg h8] at hK
        have hv : vp_in (R 24) 8 := by rw [r24]; exact pk_in (S 4) 8 (by omega)
        have hc : (R 24).toNatClampNeg = S 4 := by rw [r24]; exact nI_clamp (by omega)
        have hn : vp_nar .boolean (ip_bi bb) = ip_bi bb := by cases bb <;> decide
        have hr2 : relA tc (va_up S 4 (S 4 + 1)) (va_up (va_up (va_up G 4 (upd (G 4) (S 4) p)) 5 (upd (G 5) (S 4) q)) 6 (upd (G 6) (S 4) (ip_bi bb))) (va_up R 24 (R 24 + 1)) (va_up (va_up (va_up N 14 (upd (N 14) (R 24).toNatClampNeg p)) 15 (upd (N 15) (R 24).toNatClampNeg q)) 16 (upd (N 16) (R 24).toNatClampNeg (vp_nar .boolean (ip_bi bb)))) := by
          rw [hc, hn, r24, nI_1]
          obtain ⟨h0, h1, hm, ⟨r1, r2, r3, r4⟩, hh⟩ := hrel
          rw [r2, r3, r4]
          refine ⟨h0, h1, ?_, ⟨rfl, rfl, rfl, rfl⟩, ?_⟩
          · have := relM_S (S' := va_up S 4 (S 4 + 1)) hm rfl rfl rfl (fun i hi => up_n i (by omega))
            exact this
          · exact relH_S hh (fun i h1 h2 => up_n i (by omega)) (fun k hk => by rw [up_n (f := va_up (va_up G 4 _) 5 _) k (by omega), up_n (f := va_up G 4 _) k (by omega), up_n (f := G) k (by omega)]) rfl rfl rfl
        have hK' := hK _ _ hr2
        have es : nI (S 4) = R 24 + 1 - 1 := by rw [r24, nI_1, nI_pred]
        simp only at hK'
        rw [es] at hK'
        exact And.intro hv (And.intro hv (And.intro hv hK'))
      · rw [if_pos h8] at hK
        exact hK R N hrel
    · have hin2 : ¬ inI q 6 := fun z => by rw [hb2.mpr z] at h2; cases h2
      rw [if_pos hin2] at hK
      exact hK R N hrel
  · have hin : ¬ inI p (S 2) := fun z => by rw [hb.mpr z] at h; cases h
    rw [q_reading, if_pos hin] at hK
    exact hK R N hrel)
set_option maxRecDepth 100000 in
set_option maxHeartbeats 4000000 in
theorem m_X8_reading (l : Launch) : ip_Met l yX8_reading cX8_reading 4 (some .int) (ip_rm 2) C_X8_reading := ip_met tb_X8_reading 400 (by decide +kernel) fl_X8_ok cn_X8_ok (ip_cs1 (ip_gsV (m_X8_isParish l) (ip_in [769, 771, 17, 39, 772] (by decide +kernel) (by decide +kernel)) rfl ⟨by decide +kernel, by decide +kernel, by decide +kernel⟩ ⟨rfl, rfl, Nat.le_of_ble_eq_true rfl, Nat.le_of_ble_eq_true rfl⟩) (ip_cs1 (ip_gsS (m_X8_isQuestion l) (ip_in [781, 782, 39, 783] (by decide +kernel) (by decide +kernel)) ⟨by decide +kernel, by decide +kernel, by decide +kernel⟩ ⟨rfl, rfl, Nat.le_of_ble_eq_true rfl, Nat.le_of_ble_eq_true rfl⟩) (ip_cs0))) ck_X8_reading rfl p_X8_reading
