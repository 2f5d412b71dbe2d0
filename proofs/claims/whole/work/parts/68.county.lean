/-! ===== county: the class ===== -/
def C_X7_county : ip_C := fun vs hp K => ∃ tc S G, ∃ (sh ln i n : Int32), vs = [.ref 0, .int sh, .int ln, .int i, .int n] ∧ hp = hpC tc S G ∧ wfC S G ∧ K (some (.int (q_county S G sh ln i n).1)) (hpC tc (q_county S G sh ln i n).2 G)
def tc_X7_county : List ip_I := (0, .aload_n 0, 1, false, 0, 0) :: (1, .iconst 0, 1, false, 0, 0) :: (2, .putfield 46, 3, false, 0, 0) :: (5, .aload_n 0, 1, false, 0, 0) :: (6, .iload_n 1, 1, false, 0, 0) :: (7, .invokevirtual 50, 3, false, 0, 0) :: (10, .astore 5, 2, false, 0, 0) :: (12, .aload 5, 2, false, 0, 0) :: (14, .ifnonnull 5, 3, false, 0, 19) :: (17, .iconst (-1), 1, false, (-1), 0) :: (18, .ireturn, 1, false, 0, 0) :: (19, .iload_n 2, 1, false, 0, 0) :: (20, .invokestatic 54, 3, false, 0, 0) :: (23, .ifCond .ne 6, 3, false, 0, 29) :: (26, .bipush (-2), 2, false, (-2), 0) :: (28, .ireturn, 1, false, 0, 0) :: (29, .aload 5, 2, true, 0, 0) :: (31, .iload_n 2, 1, false, 0, 0) :: (32, .iload_n 3, 1, false, 0, 0) :: (33, .iload 4, 2, false, 0, 0) :: (35, .invokevirtual 58, 3, false, 0, 0) :: (38, .istore 6, 2, false, 0, 0) :: (40, .iload 6, 2, false, 0, 0) :: (42, .ifCond .eq 10, 3, false, 0, 52) :: (45, .aload_n 0, 1, false, 0, 0) :: (46, .iload 6, 2, false, 0, 0) :: (48, .invokevirtual 62, 3, false, 0, 0) :: (51, .ireturn, 1, false, 0, 0) :: (52, .aload 5, 2, true, 0, 0) :: (54, .iload_n 3, 1, false, 0, 0) :: (55, .iload 4, 2, false, 0, 0) :: (57, .invokestatic 66, 3, false, 0, 0) :: (60, .istore 7, 2, false, 0, 0) :: (62, .iload 7, 2, false, 0, 0) :: (64, .iconst (-1), 1, false, (-1), 0) :: (65, .if_icmp .eq 9, 3, false, 0, 74) :: (68, .bipush (-100), 2, false, (-100), 0) :: (70, .iload 7, 2, false, 0, 0) :: (72, .isub, 1, false, 0, 0) :: (73, .ireturn, 1, false, 0, 0) :: (74, .aload 5, 2, true, 0, 0) :: (76, .iload_n 3, 1, false, 0, 0) :: (77, .iload 4, 2, false, 0, 0) :: (79, .aload_n 0, 1, false, 0, 0) :: (80, .getfield 20, 3, false, 0, 0) :: (83, .invokestatic 72, 3, false, 0, 0) :: (86, .aload_n 0, 1, false, 0, 0) :: (87, .getfield 27, 3, false, 0, 0) :: (90, .iconst 0, 1, false, 0, 0) :: (91, .putfield 76, 3, false, 0, 0) :: (94, .aload_n 0, 1, false, 0, 0) :: (95, .getfield 20, 3, false, 0, 0) :: (98, .getfield 79, 3, false, 0, 0) :: (101, .ireturn, 1, false, 0, 0) :: []
set_option maxRecDepth 100000 in
theorem cj_X7_county : ip_chk cX7_county tc_X7_county = true := by decide +kernel
def cs_X7_county : List ip_G := [(50, 2, 7, C_X7_sheetOf), (54, 1, 0, C_X7_isLane), (58, 4, 5, C_X5_faultOf), (62, 2, 7, C_X7_faulty), (66, 3, 0, C_X1_firstFault), (72, 4, 0, C_X1_settle)]
theorem ffR_ok {g : Nat → Int32} {a n : Nat} (hn : n < 2147483648) (h : ffR g a n = -1) : lst (fun t => !dcd (goP g a t)) n = none ∧ 9 ≤ n ∧ (n - 4) % 5 = 0 := by
  unfold ffR at h
  split at h
  · rename_i t ht
    have : t < n := by
      have key : ∀ {f : Nat → Bool} {n t : Nat}, lst f n = some t → t < n := by
        intro f n
        induction n with
        | zero => intro t h; cases h
        | succ n ih =>
          intro t h
          simp only [lst] at h
          split at h
          · rename_i b hb
            cases h
            have := ih hb
            omega
          · split at h
            · cases h; omega
            · cases h
      exact key ht
    exact absurd h (nI_m1 (by omega))
  · rename_i hl
    split at h
    · rename_i hw
      exact ⟨hl, hw.1, hw.2⟩
    · exact absurd h (nI_m1 hn)
theorem go_len {g : Nat → Int32} {a n : Nat} (h : ∀ t, t < n → goP g a t) : n ≤ 24 := by
  rcases Nat.lt_or_ge 24 n with q | q
  · rcases h 24 q with z | z | z | z | z
    · exact absurd z.1 (by decide)
    · exact absurd z.1 (by decide)
    · exact absurd z.1 (by decide)
    · exact absurd z.1 (by decide)
    · exact absurd z.2.1 (by decide)
  · exact q
def I_X7_county (tc : Int32) (S : Nat → Nat) (G : Nat → Nat → Int32) (sh ln i n : Int32) : Nat → Nat → ip_P := fun pc kk L st hp => (inI sh 4 ∧ inI ln 3) ∧ st = [] ∧ hp = hpC tc (va_up S 0 0) G ∧ ∃ l6 l7 : Option Value, L = [some (.ref 0), some (.int sh), some (.int ln), some (.int i), some (.int n), some (.ref (2 + 2 * nt sh)), l6, l7] ∧
  ((pc = 29 ∧ kk = 3) ∨ (pc = 52 ∧ kk = 2 ∧ (∃ z : Int32, l6 = some (.int z)) ∧ fo S (nt sh) ln.toInt i.toInt n.toInt = 0) ∨ (pc = 74 ∧ kk = 1 ∧ fo S (nt sh) ln.toInt i.toInt n.toInt = 0 ∧ ffR (G (nt sh)) (nt i) (nt n) = -1 ∧ ∀ t, t < nt n → goP (G (nt sh)) (nt i) t))
set_option maxHeartbeats 4000000 in
theorem p_X7_county : ip_Pf fl_X7 cn_X7 cs_X7_county (some .int) tc_X7_county 8 C_X7_county := by
  rintro _ _ K ⟨tc, S, G, sh, ln, i, n, rfl, rfl, hwf, hK⟩
  have hw0 := wfH_0 hwf.2.1 0
  refine ⟨Nat.le_of_ble_eq_true rfl, I_X7_county tc S G sh ln i n, ?_, ?_⟩
  · have k1 : ¬ inI sh 4 → K (some (.int (-1))) (hpC tc (va_up S 0 0) G) := fun h => by rw [q_county, if_pos h] at hK; exact hK
    have k2 : inI sh 4 → ¬ inI ln 3 → K (some (.int (-2))) (hpC tc (va_up S 0 0) G) := fun h h2 => by rw [q_county, if_neg (not_not_intro h), if_pos h2] at hK; exact hK
    clear hK
    refine Exists.intro tc ⟨va_up S 0 0, G, sh, rfl, rfl, fun hn => k1 hn, fun j hj e => ?_⟩
    have hs4 : inI sh 4 := by rw [e]; exact inI_n hj (by omega)
    have ej : nt sh = j := by rw [e]; exact nt_n (by omega)
    refine Exists.intro ln ⟨rfl, fun b hb => ?_⟩
    refine ip_bn (fun h => ?_) (fun h => ?_)
    · exact Exists.intro 3 ⟨trivial, ⟨hs4, hb.mp h⟩, rfl, rfl, none, none, (by rw [ej] <;> rfl), Or.inl ⟨rfl, rfl⟩⟩
    · exact k2 hs4 (fun z => by rw [hb.mpr z] at h; cases h)
  · rintro pc kk L st hp ⟨⟨hs4, hl⟩, rfl, rfl, l6, l7, rfl, hpc⟩
    have hP : inI sh 4 ∧ inI ln 3 := ⟨hs4, hl⟩
    obtain ⟨hk4, es⟩ := inI_nt hs4
    rw [q_county, if_neg (not_not_intro hs4), if_neg (not_not_intro hl)] at hK
    rcases hpc with ⟨rfl, rfl⟩ | ⟨rfl, rfl, ⟨z6, rfl⟩, h4⟩ | ⟨rfl, rfl, h4, hff, hgo⟩
    · have ef : fo (va_up S 0 0) (nt sh) ln.toInt i.toInt n.toInt = fo S (nt sh) ln.toInt i.toInt n.toInt := fo_0 S 0 (nt sh) _ _ _
      have hf4 := fo_le S (nt sh) ln.toInt i.toInt n.toInt
      have b0 : ∀ {X Y : Prop}, (fo S (nt sh) ln.toInt i.toInt n.toInt = 0 → X) → (fo S (nt sh) ln.toInt i.toInt n.toInt ≠ 0 → Y) → (nI (fo (va_up S 0 0) (nt sh) ln.toInt i.toInt n.toInt) = 0 → X) ∧ (¬ nI (fo (va_up S 0 0) (nt sh) ln.toInt i.toInt n.toInt) = 0 → Y) := fun f g => by rw [ef]; exact pk_eq _ 0 f g
      have kf : fo S (nt sh) ln.toInt i.toInt n.toInt ≠ 0 → K (some (.int (-10 - nI (fo (va_up S 0 0) (nt sh) ln.toInt i.toInt n.toInt)))) (hpC tc (va_up (va_up S 0 0) 0 (fo (va_up S 0 0) (nt sh) ln.toInt i.toInt n.toInt)) G) := fun h => by
        rw [if_pos h] at hK
        rw [ef, uu0]
        exact hK
      have to52 : fo S (nt sh) ln.toInt i.toInt n.toInt = 0 → ∀ z : Int32, ∃ kk, ip_lt kk (some 3) ∧ I_X7_county tc S G sh ln i n 52 kk [some (.ref 0), some (.int sh), some (.int ln), some (.int i), some (.int n), some (.ref (2 + 2 * nt sh)), some (.int z), l7] [] (hpC tc (va_up S 0 0) G) := fun h z => ⟨2, by show _ < _; omega, hP, rfl, rfl, _, _, rfl, Or.inr (Or.inl ⟨rfl, rfl, ⟨z, rfl⟩, h⟩)⟩
      clear hK
      generalize hk : nt sh = k at b0 kf to52 hk4 es ⊢
      generalize va_up S 0 0 = T at hw0 b0 kf to52 ⊢
      rcases four hk4 with rfl | rfl | rfl | rfl
      all_goals
        refine Exists.intro tc ⟨T, G, _, ln, i, n, hk4, rfl, rfl, hw0, ?_⟩
        refine b0 (fun h5 => ?_) (fun h5 => ?_)
        · exact to52 h5 _
        · exact Exists.intro tc ⟨T, G, _, rfl, rfl, kf h5⟩
    · obtain ⟨z1, z2, z3, z4, z5⟩ := fo_zero h4
      have ei := nt_of z4
      have en := nt_of z3
      have hz := (hwf.2.1 (nt sh) hk4).2.2
      have han : nt i + nt n ≤ S (30 + nt sh) := by unfold nt at z5 ⊢; omega
      have e30 : va_up S 0 0 (30 + nt sh) = S (30 + nt sh) := up0 S 0 (by omega)
      rw [if_neg (not_not_intro h4)] at hK
      refine Exists.intro tc ⟨va_up S 0 0, G, nt sh, nt i, nt n, hk4, (by rw [e30]; exact han), (by show [Value.ref (2 + 2 * nt sh), Value.int i, Value.int n] = _; rw [← ei, ← en]), rfl, hw0, fun hall => ?_⟩
      refine And.intro (fun h6 => ?_) (fun h6 => ?_)
      · have h6 : ffR (G (nt sh)) (nt i) (nt n) = -1 := h6
        exact Exists.intro 1 ⟨by show _ < _; omega, hP, rfl, rfl, _, _, rfl, Or.inr (Or.inr ⟨rfl, rfl, h4, h6, hall (ffR_ok (by omega) h6).1⟩)⟩
      · have h6 : ¬ ffR (G (nt sh)) (nt i) (nt n) = -1 := h6
        rw [if_neg h6] at hK
        exact hK
    · obtain ⟨z1, z2, z3, z4, z5⟩ := fo_zero h4
      have ei := nt_of z4
      have en := nt_of z3
      have hz := (hwf.2.1 (nt sh) hk4).2.2
      have han : nt i + nt n ≤ S (30 + nt sh) := by unfold nt at z5 ⊢; omega
      have e30 : va_up S 0 0 (30 + nt sh) = S (30 + nt sh) := up0 S 0 (by omega)
      rw [if_neg (not_not_intro h4), if_pos hff] at hK
      obtain ⟨-, h9, h5⟩ := ffR_ok (by omega) hff
      have h24 := go_len hgo
      obtain ⟨c, hc, hc1, hc4⟩ : ∃ c, nt n = 4 + 5 * c ∧ 1 ≤ c ∧ c ≤ 4 := ⟨(nt n - 4) / 5, by omega, by omega, by omega⟩
      have ec : (nt n - 4) / 5 = c := by omega
      rw [ec] at hK
      refine Exists.intro tc ⟨va_up S 0 0, G, nt sh, nt i, c, hk4, hc1, hc4, (by rw [e30]; omega), (by show [Value.ref (2 + 2 * nt sh), Value.int i, Value.int n, Value.ref 10] = _; rw [← ei, ← hc, ← en]), rfl, hw0, (by rw [← hc]; exact hgo), fun T hT => ?_⟩
      rw [← hT] at hK
      have e3 : T 3 = c := by rw [hT]; exact (stl_123 _ _ (nt i) c c hc4).2.2
      rw [← e3] at hK
      clear hT
      exact hK
set_option maxRecDepth 100000 in
set_option maxHeartbeats 4000000 in
theorem m_X7_county (l : Launch) : ip_Met l yX7_county cX7_county 8 (some .int) (ip_rm 5) C_X7_county := ip_met tc_X7_county 400 (by decide +kernel) fl_X7_ok cn_X7_ok (ip_cs1 (ip_gsV (m_X7_sheetOf l) (ip_in [230, 232, 0, 32, 233] (by decide +kernel) (by decide +kernel)) rfl ⟨by decide +kernel, by decide +kernel, by decide +kernel⟩ ⟨rfl, rfl, Nat.le_of_ble_eq_true rfl, Nat.le_of_ble_eq_true rfl⟩) (ip_cs1 (ip_gsS (m_X7_isLane l) (ip_in [234, 235, 32, 236] (by decide +kernel) (by decide +kernel)) ⟨by decide +kernel, by decide +kernel, by decide +kernel⟩ ⟨rfl, rfl, Nat.le_of_ble_eq_true rfl, Nat.le_of_ble_eq_true rfl⟩) (ip_cs1 (ip_gsV (m_X5_faultOf l) (ip_in [237, 238, 239, 38, 240] (by decide +kernel) (by decide +kernel)) rfl ⟨by decide +kernel, by decide +kernel, by decide +kernel⟩ ⟨rfl, rfl, Nat.le_of_ble_eq_true rfl, Nat.le_of_ble_eq_true rfl⟩) (ip_cs1 (ip_gsV (m_X7_faulty l) (ip_in [245, 247, 1, 32, 248] (by decide +kernel) (by decide +kernel)) rfl ⟨by decide +kernel, by decide +kernel, by decide +kernel⟩ ⟨rfl, rfl, Nat.le_of_ble_eq_true rfl, Nat.le_of_ble_eq_true rfl⟩) (ip_cs1 (ip_gsS (m_X1_firstFault l) (ip_in [249, 250, 40, 251] (by decide +kernel) (by decide +kernel)) ⟨by decide +kernel, by decide +kernel, by decide +kernel⟩ ⟨rfl, rfl, Nat.le_of_ble_eq_true rfl, Nat.le_of_ble_eq_true rfl⟩) (ip_cs1 (ip_gsS (m_X1_settle l) (ip_in [268, 269, 40, 270] (by decide +kernel) (by decide +kernel)) ⟨by decide +kernel, by decide +kernel, by decide +kernel⟩ ⟨rfl, rfl, Nat.le_of_ble_eq_true rfl, Nat.le_of_ble_eq_true rfl⟩) (ip_cs0))))))) cj_X7_county rfl p_X7_county
