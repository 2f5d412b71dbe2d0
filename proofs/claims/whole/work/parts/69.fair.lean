/-! ===== fair: the class ===== -/
def C_X7_fair : ip_C := fun vs hp K => ∃ tc S G, ∃ (sh ln i n w : Int32), vs = [.ref 0, .int sh, .int ln, .int i, .int n, .int w] ∧ hp = hpC tc S G ∧ wfC S G ∧ K (some (.long (q_fair S G sh ln i n w).1)) (hpC tc (va_up S 0 (q_fair S G sh ln i n w).2) G)
def tc_X7_fair : List ip_I := (0, .aload_n 0, 1, false, 0, 0) :: (1, .iconst 0, 1, false, 0, 0) :: (2, .putfield 46, 3, false, 0, 0) :: (5, .aload_n 0, 1, false, 0, 0) :: (6, .iload_n 1, 1, false, 0, 0) :: (7, .invokevirtual 50, 3, false, 0, 0) :: (10, .astore 6, 2, false, 0, 0) :: (12, .aload 6, 2, false, 0, 0) :: (14, .ifnull 30, 3, false, 0, 44) :: (17, .iload_n 2, 1, false, 0, 0) :: (18, .invokestatic 54, 3, false, 0, 0) :: (21, .ifCond .eq 23, 3, false, 0, 44) :: (24, .iload 4, 2, false, 0, 0) :: (26, .ifCond .lt 18, 3, false, 0, 44) :: (29, .iload 4, 2, false, 0, 0) :: (31, .bipush 20, 2, false, 20, 0) :: (33, .if_icmp .gt 11, 3, false, 0, 44) :: (36, .iload 5, 2, false, 0, 0) :: (38, .invokestatic 176, 3, false, 0, 0) :: (41, .ifCond .ne 7, 3, false, 0, 48) :: (44, .ldc2_w 179, 3, false, 0, 0) :: (47, .lreturn, 1, false, 0, 0) :: (48, .aload_n 0, 1, true, 0, 0) :: (49, .aload 6, 2, false, 0, 0) :: (51, .iload_n 2, 1, false, 0, 0) :: (52, .iload_n 3, 1, false, 0, 0) :: (53, .iload 4, 2, false, 0, 0) :: (55, .invokevirtual 58, 3, false, 0, 0) :: (58, .putfield 46, 3, false, 0, 0) :: (61, .aload_n 0, 1, true, 0, 0) :: (62, .getfield 46, 3, false, 0, 0) :: (65, .ifCond .ne 13, 3, false, 0, 78) :: (68, .aload_n 0, 1, false, 0, 0) :: (69, .getfield 20, 3, false, 0, 0) :: (72, .invokevirtual 100, 3, false, 0, 0) :: (75, .ifCond .ne 7, 3, false, 0, 82) :: (78, .ldc2_w 179, 3, false, 0, 0) :: (81, .lreturn, 1, false, 0, 0) :: (82, .lconst 1, 1, false, 0, 0) :: (83, .lstore 7, 2, false, 0, 0) :: (85, .lconst 1, 1, false, 0, 0) :: (86, .lstore 9, 2, false, 0, 0) :: (88, .iconst 0, 1, false, 0, 0) :: (89, .istore 11, 2, false, 0, 0) :: (91, .iload 11, 2, true, 0, 0) :: (93, .iload 4, 2, false, 0, 0) :: (95, .if_icmp .ge 65, 3, false, 0, 160) :: (98, .aload 6, 2, false, 0, 0) :: (100, .iload_n 3, 1, false, 0, 0) :: (101, .iload 11, 2, false, 0, 0) :: (103, .iadd, 1, false, 0, 0) :: (104, .invokevirtual 181, 3, false, 0, 0) :: (107, .istore 12, 2, false, 0, 0) :: (109, .aload_n 0, 1, true, 0, 0) :: (110, .getfield 20, 3, false, 0, 0) :: (113, .iload 12, 2, false, 0, 0) :: (115, .invokevirtual 107, 3, false, 0, 0) :: (118, .ifCond .ne 7, 3, false, 0, 125) :: (121, .ldc2_w 179, 3, false, 0, 0) :: (124, .lreturn, 1, false, 0, 0) :: (125, .lload 7, 2, true, 0, 0) :: (127, .bipush 6, 2, false, 6, 0) :: (129, .aload_n 0, 1, false, 0, 0) :: (130, .getfield 20, 3, false, 0, 0) :: (133, .iload 12, 2, false, 0, 0) :: (135, .invokevirtual 126, 3, false, 0, 0) :: (138, .invokestatic 184, 3, false, 0, 0) :: (141, .isub, 1, false, 0, 0) :: (142, .i2l, 1, false, 0, 0) :: (143, .lmul, 1, false, 0, 0) :: (144, .lstore 7, 2, false, 0, 0) :: (146, .lload 9, 2, false, 0, 0) :: (148, .ldc2_w 189, 3, false, 0, 0) :: (151, .lmul, 1, false, 0, 0) :: (152, .lstore 9, 2, false, 0, 0) :: (154, .iinc 11 1, 3, false, 1, 0) :: (157, .goto (-66), 3, false, 0, 91) :: (160, .lload 7, 2, false, 0, 0) :: (162, .lload 9, 2, false, 0, 0) :: (164, .iload 5, 2, false, 0, 0) :: (166, .invokestatic 191, 3, false, 0, 0) :: (169, .lreturn, 1, false, 0, 0) :: []
set_option maxRecDepth 100000 in
theorem cj_X7_fair : ip_chk cX7_fair tc_X7_fair = true := by decide +kernel
def cs_X7_fair : List ip_G := [(50, 2, 7, C_X7_sheetOf), (54, 1, 0, C_X7_isLane), (176, 1, 0, C_X7_isWhich), (58, 4, 5, C_X5_faultOf), (100, 1, 1, C_X0_isThere), (181, 2, 5, C_X5_valueAt), (107, 2, 1, C_X0_hasParish), (126, 2, 1, C_X0_dangersOf), (184, 1, 0, C_J6_bitCount), (191, 3, 0, C_X7_inLeastTerms)]
def I_X7_fair (tc : Int32) (S : Nat → Nat) (G : Nat → Nat → Int32) (sh ln i n w : Int32) : Nat → Nat → ip_P := fun pc kk L st hp => (inI sh 4 ∧ inI ln 3 ∧ 0 ≤ n.toInt ∧ n.toInt ≤ 20 ∧ inI w 2) ∧ st = [] ∧
  ((pc = 48 ∧ kk = 1000 ∧ hp = hpC tc (va_up S 0 0) G ∧ L = [some (.ref 0), some (.int sh), some (.int ln), some (.int i), some (.int n), some (.int w), some (.ref (2 + 2 * nt sh)), none, none, none, none, none, none]) ∨
  (pc = 61 ∧ kk = 999 ∧ hp = hpC tc (va_up S 0 (fo S (nt sh) ln.toInt i.toInt n.toInt)) G ∧ L = [some (.ref 0), some (.int sh), some (.int ln), some (.int i), some (.int n), some (.int w), some (.ref (2 + 2 * nt sh)), none, none, none, none, none, none]) ∨
  (fo S (nt sh) ln.toInt i.toInt n.toInt = 0 ∧ S 2 ≠ 0 ∧ hp = hpC tc (va_up S 0 0) G ∧ ∃ (t : Nat) (u d : Int64) (y v : Int32) (l12 : Option Value), t ≤ nt n ∧ L = [some (.ref 0), some (.int sh), some (.int ln), some (.int i), some (.int n), some (.int w), some (.ref (2 + 2 * nt sh)), some (.long u), none, some (.long d), none, some (.int y), l12] ∧ u = lN (upF S G (nt sh) (nt i) t) ∧ d = lN (6 ^ t) ∧ y = nI t ∧ (∀ j, j < t → okF S G (nt sh) (nt i) j = true) ∧
    ((pc = 91 ∧ kk = 3 * (nt n - t) + 2) ∨ (pc = 109 ∧ kk = 3 * (nt n - t) + 1 ∧ t < nt n ∧ l12 = some (.int v) ∧ v = G (nt sh) (nt i + t)) ∨ (pc = 125 ∧ kk = 3 * (nt n - t) ∧ t < nt n ∧ okF S G (nt sh) (nt i) t = true ∧ l12 = some (.int v) ∧ v = G (nt sh) (nt i + t)))))
set_option maxHeartbeats 4000000 in
theorem p_X7_fair : ip_Pf fl_X7 cn_X7 cs_X7_fair (some .long) tc_X7_fair 13 C_X7_fair := by
  rintro _ _ K ⟨tc, S, G, sh, ln, i, n, w, rfl, rfl, hwf, hK⟩
  have w2 := hwf.1.2.1
  have hw0 := wfH_0 hwf.2.1 0
  refine ⟨Nat.le_of_ble_eq_true rfl, I_X7_fair tc S G sh ln i n w, ?_, ?_⟩
  · have lost : ¬ inI sh 4 ∨ ¬ inI ln 3 ∨ n.toInt < 0 ∨ 20 < n.toInt ∨ ¬ inI w 2 → K (some (.long (-9223372036854775808))) (hpC tc (va_up S 0 0) G) := fun h => by rw [q_fair, if_pos h] at hK; exact hK
    clear hK
    refine Exists.intro tc ⟨va_up S 0 0, G, sh, rfl, rfl, fun hn => lost (Or.inl hn), fun j hj e => ?_⟩
    have hs4 : inI sh 4 := by rw [e]; exact inI_n hj (by omega)
    have ej : nt sh = j := by rw [e]; exact nt_n (by omega)
    refine Exists.intro ln ⟨rfl, fun b hb => ?_⟩
    refine ip_bt (fun h => ?_) (fun h => ?_)
    · exact lost (Or.inr (Or.inl (fun z => by rw [hb.mpr z] at h; cases h)))
    refine bz_lt n.toInt 0 (fun h1 => ?_) (fun h1 => ?_)
    · exact lost (Or.inr (Or.inr (Or.inl h1)))
    refine bz_lt 20 n.toInt (fun h2 => ?_) (fun h2 => ?_)
    · exact lost (Or.inr (Or.inr (Or.inr (Or.inl h2))))
    refine Exists.intro w ⟨rfl, fun b2 hb2 => ?_⟩
    refine ip_bn (fun h3 => ?_) (fun h3 => ?_)
    · exact Exists.intro 1000 ⟨trivial, ⟨hs4, hb.mp h, h1, h2, hb2.mp h3⟩, rfl, Or.inl ⟨rfl, rfl, rfl, (by rw [ej] <;> rfl)⟩⟩
    · exact lost (Or.inr (Or.inr (Or.inr (Or.inr (fun z => by rw [hb2.mpr z] at h3; cases h3)))))
  · rintro pc kk L st hp ⟨⟨hs4, hl, hn0, hn20, hw⟩, rfl, hI⟩
    have hP : inI sh 4 ∧ inI ln 3 ∧ 0 ≤ n.toInt ∧ n.toInt ≤ 20 ∧ inI w 2 := ⟨hs4, hl, hn0, hn20, hw⟩
    have hno : ¬ (¬ inI sh 4 ∨ ¬ inI ln 3 ∨ n.toInt < 0 ∨ 20 < n.toInt ∨ ¬ inI w 2) := fun z => by
      rcases z with z | z | z | z | z
      · exact z hs4
      · exact z hl
      · omega
      · omega
      · exact z hw
    rw [q_fair, if_neg hno] at hK
    obtain ⟨hk4, es⟩ := inI_nt hs4
    obtain ⟨hw2, ew⟩ := inI_nt hw
    have hf4 := fo_le S (nt sh) ln.toInt i.toInt n.toInt
    rcases hI with ⟨rfl, rfl, rfl, rfl⟩ | ⟨rfl, rfl, rfl, rfl⟩ | ⟨hfz, hS2, rfl, t, u, d, y, v, l12, ht, rfl, hu, hd, hy, hok, hpc⟩
    · have ef : fo (va_up S 0 0) (nt sh) ln.toInt i.toInt n.toInt = fo S (nt sh) ln.toInt i.toInt n.toInt := fo_0 S 0 (nt sh) _ _ _
      have to61 : ∃ kk, ip_lt kk (some 1000) ∧ I_X7_fair tc S G sh ln i n w 61 kk [some (.ref 0), some (.int sh), some (.int ln), some (.int i), some (.int n), some (.int w), some (.ref (2 + 2 * nt sh)), none, none, none, none, none, none] [] (hpC tc (va_up (va_up S 0 0) 0 (fo (va_up S 0 0) (nt sh) ln.toInt i.toInt n.toInt)) G) := ⟨999, by show _ < _; omega, hP, rfl, Or.inr (Or.inl ⟨rfl, rfl, by rw [ef, uu0], rfl⟩)⟩
      clear hK
      generalize hk : nt sh = k at to61 hk4 es ⊢
      generalize va_up S 0 0 = T at hw0 to61 ⊢
      rcases four hk4 with rfl | rfl | rfl | rfl
      all_goals
        refine Exists.intro tc ⟨T, G, _, ln, i, n, hk4, rfl, rfl, hw0, ?_⟩
        exact to61
    · have b0 : ∀ {X Y : Prop}, (fo S (nt sh) ln.toInt i.toInt n.toInt ≠ 0 → X) → (fo S (nt sh) ln.toInt i.toInt n.toInt = 0 → Y) → (¬ nI (fo S (nt sh) ln.toInt i.toInt n.toInt) = 0 → X) ∧ (nI (fo S (nt sh) ln.toInt i.toInt n.toInt) = 0 → Y) := fun f g => pk_ne _ 0 f g
      refine b0 (fun h4 => ?_) (fun h4 => ?_)
      · rw [if_pos h4] at hK
        exact hK
      · rw [if_neg (not_not_intro h4)] at hK
        rw [h4]
        refine Exists.intro tc ⟨va_up S 0 0, G, rfl, rfl, w2, ?_⟩
        refine ip_bn (fun h5 => ?_) (fun h5 => ?_)
        · have h5 : 0 < S 2 := of_decide_eq_true h5
          exact Exists.intro (3 * (nt n - 0) + 2) ⟨by show _ < _; unfold nt; omega, hP, rfl, Or.inr (Or.inr ⟨h4, by omega, rfl, 0, _, _, _, 0, none, Nat.zero_le _, rfl, rfl, rfl, rfl, fun j hj => absurd hj (by omega), Or.inl ⟨rfl, rfl⟩⟩)⟩
        · have h5 : ¬ 0 < S 2 := of_decide_eq_false h5
          rw [if_pos (by omega)] at hK
          exact hK
    · rw [if_neg (not_not_intro hfz), if_neg hS2] at hK
      obtain ⟨z1, z2, z3, z4, z5⟩ := fo_zero hfz
      have ei := nt_of z4
      have en := nt_of hn0
      have han : nt i + nt n ≤ S (30 + nt sh) := by unfold nt at z5 ⊢; omega
      have hn : nt n ≤ 20 := by unfold nt; omega
      have hz := (hwf.2.1 (nt sh) hk4).2.2
      have hd6 := six20 (t := nt n) hn
      have hud : upF S G (nt sh) (nt i) t ≤ 6 ^ t := upF_le S G (nt sh) (nt i) t
      have hd0 : 0 < 6 ^ t := Nat.pow_pos (by decide)
      have bad : t < nt n → okF S G (nt sh) (nt i) t = false → K (some (.long (-9223372036854775808))) (hpC tc (va_up S 0 0) G) := fun h h2 => by
        rw [if_pos (anyb_true h (by rw [h2]; rfl))] at hK
        exact hK
      have fin : nt n ≤ t → K (some (.long (lN (lst2 (upF S G (nt sh) (nt i) t) (6 ^ t) (nt w))))) (hpC tc (va_up S 0 0) G) := fun h => by
        obtain rfl : t = nt n := by omega
        rw [if_neg (by rw [anyb_false (fun j hj => by rw [hok j hj]; rfl)]; decide)] at hK
        exact hK
      clear hK hno
      rcases hpc with ⟨rfl, rfl⟩ | ⟨rfl, rfl, hlt, rfl, hv1⟩ | ⟨rfl, rfl, hlt, o1, rfl, hv1⟩
      · have b1 : ∀ {X Y : Prop}, (nt n ≤ t → X) → (t < nt n → Y) → (n ≤ y → X) ∧ (¬ n ≤ y → Y) := fun f g => by rw [hy]; exact pk_le (nt n) t f g en
        refine b1 (fun h => ?_) (fun h => ?_)
        · exact Exists.intro (upF S G (nt sh) (nt i) t) ⟨6 ^ t, nt w, hud, hd0, Nat.lt_of_le_of_lt (Nat.pow_le_pow_right (n := 6) (by decide) ht) hd6, hw2, (by show [Value.long u, Value.long d, Value.int w] = _; rw [hu, hd, ← ew]), fin h⟩
        have p1 : vat (va_up S 0 0) G (nt sh) (i + y).toInt = G (nt sh) (nt i + t) := by
          have : i + y = nI (nt i + t) := by rw [← nI_add, ← ei, hy]
          rw [this, ti_n (by omega), vat_0, vat_in (by omega)]
        have to109 : ∃ kk, ip_lt kk (some (3 * (nt n - t) + 2)) ∧ I_X7_fair tc S G sh ln i n w 109 kk [some (.ref 0), some (.int sh), some (.int ln), some (.int i), some (.int n), some (.int w), some (.ref (2 + 2 * nt sh)), some (.long u), none, some (.long d), none, some (.int y), some (.int (vat (va_up S 0 0) G (nt sh) (i + y).toInt))] [] (hpC tc (va_up S 0 0) G) := ⟨3 * (nt n - t) + 1, by show _ < _; omega, hP, rfl, Or.inr (Or.inr ⟨hfz, hS2, rfl, t, u, d, y, _, _, ht, rfl, hu, hd, hy, hok, Or.inr (Or.inl ⟨rfl, rfl, h, rfl, p1⟩)⟩)⟩
        clear bad fin p1 han hz hud hok hu z1 z5 hf4 es
        generalize hk : nt sh = k at to109 hk4 ⊢
        generalize va_up S 0 0 = T at hw0 to109 ⊢
        rcases four hk4 with rfl | rfl | rfl | rfl
        all_goals
          refine Exists.intro tc ⟨T, G, _, i + y, hk4, rfl, rfl, hw0, ?_⟩
          exact to109
      · refine Exists.intro tc ⟨va_up S 0 0, G, v, rfl, rfl, w2, fun b hb => ?_⟩
        have hb : b = true ↔ inI v (S 2) := hb
        rw [hv1] at hb
        refine ip_bn (fun h1 => ?_) (fun h1 => ?_)
        · exact Exists.intro (3 * (nt n - t)) ⟨by show _ < _; omega, hP, rfl, Or.inr (Or.inr ⟨hfz, hS2, rfl, t, u, d, y, v, _, ht, rfl, hu, hd, hy, hok, Or.inr (Or.inr ⟨rfl, rfl, hlt, decide_eq_true (hb.mp h1), rfl, hv1⟩)⟩)⟩
        · exact bad hlt (decide_eq_false (fun z => by rw [hb.mpr z] at h1; cases h1))
      · have hin : inI (G (nt sh) (nt i + t)) (S 2) := of_decide_eq_true o1
        obtain ⟨l1, m1⟩ := inI_nt hin
        refine Exists.intro tc ⟨va_up S 0 0, G, nt (G (nt sh) (nt i + t)), by omega, (by show [Value.ref 10, Value.int v] = _; rw [hv1, ← m1]), rfl, wfM_0 hwf.1 0, ?_⟩
        rw [dgp_0]
        refine Exists.intro (dgp S (nt (G (nt sh) (nt i + t)))) ⟨dgp_lt S _, rfl, ?_⟩
        have hc := pc6_le (dgp S (nt (G (nt sh) (nt i + t))))
        have hprod : u * ((6 : Int32) - nI (pc6 (dgp S (nt (G (nt sh) (nt i + t)))))).toInt64 = lN (upF S G (nt sh) (nt i) (t + 1)) := by
          rw [hu, show (6 : Int32) = nI 6 from rfl, pk_sub hc, nI_l (by omega), lN_mul]
          rfl
        have h6 : d * 6 = lN (6 ^ (t + 1)) := by rw [hd, Nat.pow_succ, ← lN_mul]; rfl
        exact Exists.intro (3 * (nt n - (t + 1)) + 2) ⟨by show _ < _; omega, hP, rfl, Or.inr (Or.inr ⟨hfz, hS2, rfl, t + 1, _, _, _, 0, _, by omega, rfl, hprod, h6, by rw [hy]; exact nI_1 t, fun j hj => by
          rcases Nat.lt_or_ge j t with q | q
          · exact hok j q
          · obtain rfl : j = t := by omega
            exact o1, Or.inl ⟨rfl, rfl⟩⟩)⟩
set_option maxRecDepth 100000 in
set_option maxHeartbeats 4000000 in
theorem m_X7_fair (l : Launch) : ip_Met l yX7_fair cX7_fair 13 (some .long) (ip_rm 3) C_X7_fair := ip_met tc_X7_fair 400 (by decide +kernel) fl_X7_ok cn_X7_ok (ip_cs1 (ip_gsV (m_X7_sheetOf l) (ip_in [230, 232, 0, 32, 233] (by decide +kernel) (by decide +kernel)) rfl ⟨by decide +kernel, by decide +kernel, by decide +kernel⟩ ⟨rfl, rfl, Nat.le_of_ble_eq_true rfl, Nat.le_of_ble_eq_true rfl⟩) (ip_cs1 (ip_gsS (m_X7_isLane l) (ip_in [234, 235, 32, 236] (by decide +kernel) (by decide +kernel)) ⟨by decide +kernel, by decide +kernel, by decide +kernel⟩ ⟨rfl, rfl, Nat.le_of_ble_eq_true rfl, Nat.le_of_ble_eq_true rfl⟩) (ip_cs1 (ip_gsS (m_X7_isWhich l) (ip_in [458, 459, 32, 460] (by decide +kernel) (by decide +kernel)) ⟨by decide +kernel, by decide +kernel, by decide +kernel⟩ ⟨rfl, rfl, Nat.le_of_ble_eq_true rfl, Nat.le_of_ble_eq_true rfl⟩) (ip_cs1 (ip_gsV (m_X5_faultOf l) (ip_in [237, 238, 239, 38, 240] (by decide +kernel) (by decide +kernel)) rfl ⟨by decide +kernel, by decide +kernel, by decide +kernel⟩ ⟨rfl, rfl, Nat.le_of_ble_eq_true rfl, Nat.le_of_ble_eq_true rfl⟩) (ip_cs1 (ip_gsV (m_X0_isThere l) (ip_in [295, 296, 297, 33, 298] (by decide +kernel) (by decide +kernel)) rfl ⟨by decide +kernel, by decide +kernel, by decide +kernel⟩ ⟨rfl, rfl, Nat.le_of_ble_eq_true rfl, Nat.le_of_ble_eq_true rfl⟩) (ip_cs1 (ip_gsV (m_X5_valueAt l) (ip_in [369, 256, 257, 38, 258] (by decide +kernel) (by decide +kernel)) rfl ⟨by decide +kernel, by decide +kernel, by decide +kernel⟩ ⟨rfl, rfl, Nat.le_of_ble_eq_true rfl, Nat.le_of_ble_eq_true rfl⟩) (ip_cs1 (ip_gsV (m_X0_hasParish l) (ip_in [303, 304, 305, 33, 306] (by decide +kernel) (by decide +kernel)) rfl ⟨by decide +kernel, by decide +kernel, by decide +kernel⟩ ⟨rfl, rfl, Nat.le_of_ble_eq_true rfl, Nat.le_of_ble_eq_true rfl⟩) (ip_cs1 (ip_gsV (m_X0_dangersOf l) (ip_in [356, 338, 339, 33, 340] (by decide +kernel) (by decide +kernel)) rfl ⟨by decide +kernel, by decide +kernel, by decide +kernel⟩ ⟨rfl, rfl, Nat.le_of_ble_eq_true rfl, Nat.le_of_ble_eq_true rfl⟩) (ip_cs1 (ip_gsS (m_J6_bitCount l) (ip_in [433, 434, 44, 435] (by decide +kernel) (by decide +kernel)) ⟨by decide +kernel, by decide +kernel, by decide +kernel⟩ ⟨rfl, rfl, Nat.le_of_ble_eq_true rfl, Nat.le_of_ble_eq_true rfl⟩) (ip_cs1 (ip_gsS (m_X7_inLeastTerms l) (ip_in [463, 464, 32, 465] (by decide +kernel) (by decide +kernel)) ⟨by decide +kernel, by decide +kernel, by decide +kernel⟩ ⟨rfl, rfl, Nat.le_of_ble_eq_true rfl, Nat.le_of_ble_eq_true rfl⟩) (ip_cs0))))))))))) cj_X7_fair rfl p_X7_fair
