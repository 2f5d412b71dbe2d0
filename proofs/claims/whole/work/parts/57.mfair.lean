/-! ===== shares of rows of parishes ===== -/
def upF (S : Nat → Nat) (G : Nat → Nat → Int32) (k a : Nat) : Nat → Nat
  | 0 => 1
  | t + 1 => upF S G k a t * (6 - pc6 (dgp S (nt (G k (a + t)))))
theorem upF_le (S : Nat → Nat) (G : Nat → Nat → Int32) (k a : Nat) : ∀ t, upF S G k a t ≤ 6 ^ t
  | 0 => Nat.le_refl _
  | t + 1 => by
    rw [upF, Nat.pow_succ]
    exact Nat.mul_le_mul (upF_le S G k a t) (by omega)
theorem six20 {t : Nat} (h : t ≤ 20) : 6 ^ t < 2 ^ 62 := Nat.lt_of_le_of_lt (Nat.pow_le_pow_right (n := 6) (by decide) h) (by decide)
def okF (S : Nat → Nat) (G : Nat → Nat → Int32) (k a t : Nat) : Bool := decide (inI (G k (a + t)) (S 2))
def q_fair (S : Nat → Nat) (G : Nat → Nat → Int32) (sh ln i n w : Int32) : Int64 × Nat := if ¬ inI sh 4 ∨ ¬ inI ln 3 ∨ n.toInt < 0 ∨ 20 < n.toInt ∨ ¬ inI w 2 then (-9223372036854775808, 0) else if fo S (nt sh) ln.toInt i.toInt n.toInt ≠ 0 then (-9223372036854775808, fo S (nt sh) ln.toInt i.toInt n.toInt) else if S 2 = 0 then (-9223372036854775808, 0) else if anyb (nt n) (fun t => !okF S G (nt sh) (nt i) t) then (-9223372036854775808, 0) else (lN (lst2 (upF S G (nt sh) (nt i) (nt n)) (6 ^ nt n) (nt w)), 0)
theorem dgp_0 (S : Nat → Nat) (x p : Nat) : dgp (va_up S 0 x) p = dgp S p := by
  unfold dgp dgs
  refine bs_cong (fun q _ => ?_)
  unfold heldS
  congr 1
  exact held_cong (fun m _ => ⟨up0 S x (by omega), up0 S x (by omega), by rw [up0 S x (by omega)]⟩)
theorem wfM_0 {S : Nat → Nat} (h : wfM S) (x : Nat) : wfM (va_up S 0 x) := by
  obtain ⟨a, b, c, d⟩ := h
  refine ⟨a, b, c, fun m hm => ?_⟩
  rw [up0 S x (by omega), up0 S x (by omega), up0 S x (by omega)]
  exact d m hm
theorem relA_0 {tc : Int32} {S : Nat → Nat} {G : Nat → Nat → Int32} {R : Nat → Int32} {N : Nat → Nat → Int32} {f : Nat} (h : relA tc (va_up S 0 0) G R N) : relA tc (va_up S 0 f) G (va_up R 0 (nI f)) N := by
  have := relA_f f h
  rw [uu0] at this
  exact this
def C_X8_fair : ip_C := fun vs hp K => ∃ tc S G R N, ∃ (sh ln i n w : Int32), vs = [.ref 0, .int sh, .int ln, .int i, .int n, .int w] ∧ hp = hpM R N ∧ wfC S G ∧ relA tc S G R N ∧ ∀ R' N', relA tc (va_up S 0 (q_fair S G sh ln i n w).2) G R' N' → K (some (.long (q_fair S G sh ln i n w).1)) (hpM R' N')
def tc_X8_fair : List ip_I := (0, .aload_n 0, 1, false, 0, 0) :: (1, .iconst 0, 1, false, 0, 0) :: (2, .putfield 59, 3, false, 0, 0) :: (5, .iload_n 1, 1, false, 0, 0) :: (6, .invokestatic 82, 3, false, 0, 0) :: (9, .ifCond .eq 22, 3, false, 0, 31) :: (12, .iload_n 2, 1, false, 0, 0) :: (13, .iload 4, 2, false, 0, 0) :: (15, .invokestatic 156, 3, false, 0, 0) :: (18, .ifCond .eq 13, 3, false, 0, 31) :: (21, .iload 5, 2, false, 0, 0) :: (23, .iconst 0, 1, false, 0, 0) :: (24, .iconst 1, 1, false, 1, 0) :: (25, .invokestatic 65, 3, false, 0, 0) :: (28, .ifCond .ne 7, 3, false, 0, 35) :: (31, .ldc2_w 63, 3, false, 0, 0) :: (34, .lreturn, 1, false, 0, 0) :: (35, .aload_n 0, 1, false, 0, 0) :: (36, .iload_n 1, 1, false, 0, 0) :: (37, .iload_n 2, 1, false, 0, 0) :: (38, .iload_n 3, 1, false, 0, 0) :: (39, .iload 4, 2, false, 0, 0) :: (41, .invokevirtual 89, 3, false, 0, 0) :: (44, .istore 6, 2, false, 0, 0) :: (46, .iload 6, 2, false, 0, 0) :: (48, .ifCond .eq 10, 3, false, 0, 58) :: (51, .aload_n 0, 1, false, 0, 0) :: (52, .iload 6, 2, false, 0, 0) :: (54, .invokevirtual 178, 3, false, 0, 0) :: (57, .lreturn, 1, false, 0, 0) :: (58, .aload_n 0, 1, false, 0, 0) :: (59, .getfield 69, 3, false, 0, 0) :: (62, .ifCond .ne 7, 3, false, 0, 69) :: (65, .ldc2_w 63, 3, false, 0, 0) :: (68, .lreturn, 1, false, 0, 0) :: (69, .lconst 1, 1, false, 0, 0) :: (70, .lstore 7, 2, false, 0, 0) :: (72, .lconst 1, 1, false, 0, 0) :: (73, .lstore 9, 2, false, 0, 0) :: (75, .iconst 0, 1, false, 0, 0) :: (76, .istore 11, 2, false, 0, 0) :: (78, .iload 11, 2, true, 0, 0) :: (80, .iload 4, 2, false, 0, 0) :: (82, .if_icmp .ge 64, 3, false, 0, 146) :: (85, .aload_n 0, 1, false, 0, 0) :: (86, .getfield 16, 3, false, 0, 0) :: (89, .bipush 60, 2, false, 60, 0) :: (91, .iload_n 1, 1, false, 0, 0) :: (92, .imul, 1, false, 0, 0) :: (93, .iload_n 3, 1, false, 0, 0) :: (94, .iadd, 1, false, 0, 0) :: (95, .iload 11, 2, false, 0, 0) :: (97, .iadd, 1, false, 0, 0) :: (98, .iaload, 1, false, 0, 0) :: (99, .istore 12, 2, false, 0, 0) :: (101, .aload_n 0, 1, false, 0, 0) :: (102, .iload 12, 2, false, 0, 0) :: (104, .invokevirtual 131, 3, false, 0, 0) :: (107, .ifCond .ne 7, 3, false, 0, 114) :: (110, .ldc2_w 63, 3, false, 0, 0) :: (113, .lreturn, 1, false, 0, 0) :: (114, .lload 7, 2, true, 0, 0) :: (116, .bipush 6, 2, false, 6, 0) :: (118, .aload_n 0, 1, false, 0, 0) :: (119, .iload 12, 2, false, 0, 0) :: (121, .invokevirtual 150, 3, false, 0, 0) :: (124, .invokestatic 169, 3, false, 0, 0) :: (127, .isub, 1, false, 0, 0) :: (128, .i2l, 1, false, 0, 0) :: (129, .lmul, 1, false, 0, 0) :: (130, .lstore 7, 2, false, 0, 0) :: (132, .lload 9, 2, false, 0, 0) :: (134, .ldc2_w 182, 3, false, 0, 0) :: (137, .lmul, 1, false, 0, 0) :: (138, .lstore 9, 2, false, 0, 0) :: (140, .iinc 11 1, 3, false, 1, 0) :: (143, .goto (-65), 3, false, 0, 78) :: (146, .lload 7, 2, false, 0, 0) :: (148, .lload 9, 2, false, 0, 0) :: (150, .iload 5, 2, false, 0, 0) :: (152, .invokestatic 184, 3, false, 0, 0) :: (155, .lreturn, 1, false, 0, 0) :: []
set_option maxRecDepth 100000 in
theorem cj_X8_fair : ip_chk cX8_fair tc_X8_fair = true := by decide +kernel
def cs_X8_fair : List ip_G := [(82, 1, 0, C_X8_isSheet), (156, 2, 0, C_X8_isRow), (65, 3, 0, C_X8_within), (89, 5, 8, C_X8_against), (178, 2, 8, C_X8_lost), (131, 2, 8, C_X8_isParish), (150, 2, 8, C_X8_dangersOf), (169, 1, 0, C_X8_size), (184, 3, 0, C_X8_inLeastTerms)]
theorem nt_of {x : Int32} (h : 0 ≤ x.toInt) : x = nI (nt x) := by
  obtain ⟨j, hj, rfl, e⟩ := ti_of h
  rw [nt_n hj]
def I_X8_fair (P : Prop) (R : Nat → Int32) (N : Nat → Nat → Int32) (S : Nat → Nat) (G : Nat → Nat → Int32) (k a n : Nat) (sh ln i ni w : Int32) : Nat → Nat → ip_P := fun pc kk L st hp => P ∧ ∃ (t : Nat) (u d : Int64) (y v l6 : Int32) (l12 : Option Value), t ≤ n ∧ L = [some (.ref 0), some (.int sh), some (.int ln), some (.int i), some (.int ni), some (.int w), some (.int l6), some (.long u), none, some (.long d), none, some (.int y), l12] ∧ st = [] ∧ hp = hpM R N ∧ u = lN (upF S G k a t) ∧ d = lN (6 ^ t) ∧ y = nI t ∧ (∀ i, i < t → okF S G k a i = true) ∧ ((pc = 78 ∧ kk = 2 * (n - t) + 1) ∨ (pc = 114 ∧ kk = 2 * (n - t) ∧ t < n ∧ okF S G k a t = true ∧ l12 = some (.int v) ∧ v = G k (a + t)))
set_option maxHeartbeats 4000000 in
theorem p_X8_fair : ip_Pf fl_X8 cn_X8 cs_X8_fair (some .long) tc_X8_fair 13 C_X8_fair := by
  rintro _ _ K ⟨tc, S, G, R, N, sh, ln, i, n, w, rfl, rfl, hwf, hrel, hK⟩
  have h0 := relA_f 0 hrel
  have w2 := hwf.1.2.1
  have w3 := hwf.1.2.2.1
  have w5 := hwf.2.2.2.2.1
  obtain ⟨m5, m6, m7, -⟩ := id hrel.2.2.1
  refine ⟨Nat.le_of_ble_eq_true rfl, I_X8_fair (inI sh 4 ∧ inI ln 3 ∧ 0 ≤ n.toInt ∧ n.toInt ≤ 20 ∧ inI w 2 ∧ fo S (nt sh) ln.toInt i.toInt n.toInt = 0 ∧ S 2 ≠ 0) (va_up R 0 0) N S G (nt sh) (nt i) (nt n) sh ln i n w, ?_, ?_⟩
  · have lost : ¬ inI sh 4 ∨ ¬ inI ln 3 ∨ n.toInt < 0 ∨ 20 < n.toInt ∨ ¬ inI w 2 → K (some (.long (-9223372036854775808))) (hpM (va_up R 0 0) N) := fun h => by rw [q_fair, if_pos h] at hK; exact hK _ N h0
    have k3 : inI sh 4 → inI ln 3 → 0 ≤ n.toInt → n.toInt ≤ 20 → inI w 2 → (fo S (nt sh) ln.toInt i.toInt n.toInt ≠ 0 → K (some (.long (-9223372036854775808))) (hpM (va_up (va_up R 0 0) 0 (nI (fo S (nt sh) ln.toInt i.toInt n.toInt))) N)) ∧ (fo S (nt sh) ln.toInt i.toInt n.toInt = 0 → S 2 = 0 → K (some (.long (-9223372036854775808))) (hpM (va_up R 0 0) N)) := fun hs4 hl h1 h2 hw => by
      have hno : ¬ (¬ inI sh 4 ∨ ¬ inI ln 3 ∨ n.toInt < 0 ∨ 20 < n.toInt ∨ ¬ inI w 2) := fun z => by
        rcases z with z | z | z | z | z
        · exact z hs4
        · exact z hl
        · omega
        · omega
        · exact z hw
      rw [q_fair, if_neg hno] at hK
      refine ⟨fun h4 => ?_, fun h4 h5 => ?_⟩
      · rw [if_pos h4] at hK
        exact hK _ N (relA_0 h0)
      · rw [if_neg (not_not_intro h4), if_pos h5] at hK
        exact hK _ N h0
    clear hK
    refine Exists.intro sh ⟨rfl, fun b hb => ?_⟩
    refine ip_bt (fun h => ?_) (fun h => ?_)
    · exact lost (Or.inl (fun z => by rw [hb.mpr z] at h; cases h))
    have hs4 : inI sh 4 := hb.mp h
    change ip_wp _ _ _ _ _ _ _ _ _ _ _ _ [] _
    refine Exists.intro ln ⟨n, rfl, fun b2 hb2 => ?_⟩
    refine ip_bt (fun h2 => ?_) (fun h2 => ?_)
    · have hno : ¬ (inI ln 3 ∧ 0 ≤ n.toInt ∧ n.toInt ≤ 20) := fun z => by rw [hb2.mpr z] at h2; cases h2
      refine lost (Or.inr ?_)
      by_cases z : inI ln 3
      · right
        have : ¬ (0 ≤ n.toInt ∧ n.toInt ≤ 20) := fun q => hno ⟨z, q⟩
        omega
      · exact Or.inl z
    obtain ⟨hl, hn0, hn20⟩ := hb2.mp h2
    change ip_wp _ _ _ _ _ _ _ _ _ _ _ _ [] _
    refine Exists.intro w ⟨0, 1, rfl, fun b3 hb3 => ?_⟩
    have t0 : (0 : Int32).toInt = 0 := by decide
    have t1 : (1 : Int32).toInt = 1 := by decide
    rw [t0, t1] at hb3
    refine ip_bn (fun h3 => ?_) (fun h3 => ?_)
    rotate_left
    · have hno : ¬ inI w 2 := fun z => by
        have : b3 = true := hb3.mpr (by unfold inI at z; omega)
        rw [this] at h3
        cases h3
      exact lost (Or.inr (Or.inr (Or.inr (Or.inr hno))))
    have hw : inI w 2 := by have := hb3.mp h3; unfold inI; omega
    obtain ⟨kf, k0⟩ := k3 hs4 hl hn0 hn20 hw
    clear lost k3 hb hb2 hb3
    obtain ⟨hk4, es⟩ := inI_nt hs4
    have ef : fo (va_up S 0 0) (nt sh) ln.toInt i.toInt n.toInt = fo S (nt sh) ln.toInt i.toInt n.toInt := fo_0 S 0 (nt sh) _ _ _
    have hf4 := fo_le S (nt sh) ln.toInt i.toInt n.toInt
    change ip_wp _ _ _ _ _ _ _ _ _ _ _ _ [] _
    refine Exists.intro (va_up S 0 0) ⟨G, va_up R 0 0, N, nt sh, ln, i, n, hk4, (by show [Value.ref 0, Value.int sh, Value.int ln, Value.int i, Value.int n] = _; rw [← es]), rfl, wfH_0 hwf.2.1 0, h0.2.2.2.2, ?_⟩
    rw [ef]
    refine pk_eq (fo S (nt sh) ln.toInt i.toInt n.toInt) 0 (fun h4 => ?_) (fun h4 => ?_)
    · have b7 : ∀ {X Y : Prop}, (S 3 ≠ 0 → X) → (S 3 = 0 → Y) → (¬ R 7 = 0 → X) ∧ (R 7 = 0 → Y) := fun f g => by rw [m7]; exact pk_ne (S 3) 0 f g
      refine b7 (fun h5 => ?_) (fun h5 => ?_)
      · exact Exists.intro (2 * (nt n - 0) + 1) ⟨trivial, ⟨hs4, hl, hn0, hn20, hw, h4, fun q => h5 (w5.mp q)⟩, 0, _, _, _, 0, _, _, by omega, rfl, rfl, rfl, rfl, rfl, rfl, fun i hi => absurd hi (by omega), Or.inl ⟨rfl, rfl⟩⟩
      · exact k0 h4 (w5.mpr h5)
    · exact Exists.intro (va_up R 0 0) ⟨N, _, rfl, rfl, kf h4⟩
  · rintro pc kk L st hp ⟨⟨hs4, hl, hn0, hn20, hw, hfz, hS2⟩, t, u, d, y, v, l6, l12, ht, rfl, rfl, rfl, hu, hd, hy, hok, hpc⟩
    have hP : inI sh 4 ∧ inI ln 3 ∧ 0 ≤ n.toInt ∧ n.toInt ≤ 20 ∧ inI w 2 ∧ fo S (nt sh) ln.toInt i.toInt n.toInt = 0 ∧ S 2 ≠ 0 := ⟨hs4, hl, hn0, hn20, hw, hfz, hS2⟩
    have hno : ¬ (¬ inI sh 4 ∨ ¬ inI ln 3 ∨ n.toInt < 0 ∨ 20 < n.toInt ∨ ¬ inI w 2) := fun z => by
      rcases z with z | z | z | z | z
      · exact z hs4
      · exact z hl
      · omega
      · omega
      · exact z hw
    rw [q_fair, if_neg hno, if_neg (not_not_intro hfz), if_neg hS2] at hK
    obtain ⟨hk4, es⟩ := inI_nt hs4
    obtain ⟨hw2, ew⟩ := inI_nt hw
    obtain ⟨z1, z2, z3, z4, z5⟩ := fo_zero hfz
    have ei := nt_of z4
    have en := nt_of hn0
    have han : nt i + nt n ≤ S (30 + nt sh) := by unfold nt at z5 ⊢; omega
    have hn : nt n ≤ 20 := by unfold nt; omega
    have hz := (hwf.2.1 (nt sh) hk4).2.2
    obtain ⟨hv, ⟨q0, -⟩ | ⟨-, -, -, -, e3, -, -⟩⟩ := sh_at h0.2.2.2.2 (wfH_0 hwf.2.1 0) hk4
    · exact absurd q0 (by rw [up0 S 0 (by omega)]; exact z1)
    have hd6 := six20 (t := nt n) hn
    have hud : upF S G (nt sh) (nt i) t ≤ 6 ^ t := upF_le S G (nt sh) (nt i) t
    have hd0 : 0 < 6 ^ t := Nat.pow_pos (by decide)
    have bad : t < nt n → okF S G (nt sh) (nt i) t = false → K (some (.long (-9223372036854775808))) (hpM (va_up R 0 0) N) := fun h h2 => by
      rw [if_pos (anyb_true h (by rw [h2]; rfl))] at hK
      exact hK _ N h0
    have fin : nt n ≤ t → K (some (.long (lN (lst2 (upF S G (nt sh) (nt i) t) (6 ^ t) (nt w))))) (hpM (va_up R 0 0) N) := fun h => by
      obtain rfl : t = nt n := by omega
      rw [if_neg (by rw [anyb_false (fun j hj => by rw [hok j hj]; rfl)]; decide)] at hK
      exact hK _ N h0
    clear hK hno
    rcases hpc with ⟨rfl, rfl⟩ | ⟨rfl, rfl, hlt, o1, rfl, hv1⟩
    · have b1 : ∀ {X Y : Prop}, (nt n ≤ t → X) → (t < nt n → Y) → (n ≤ y → X) ∧ (¬ n ≤ y → Y) := fun f g => by rw [hy]; exact pk_le (nt n) t f g en
      refine b1 (fun h => ?_) (fun h => ?_)
      · exact Exists.intro (upF S G (nt sh) (nt i) t) ⟨6 ^ t, nt w, hud, hd0, Nat.lt_of_le_of_lt (Nat.pow_le_pow_right (n := 6) (by decide) ht) hd6, hw2, (by show [Value.long u, Value.long d, Value.int w] = _; rw [hu, hd, ← ew]), fin h⟩
      have e1 : 60 * sh + i + y = nI (60 * nt sh + (nt i + t)) := by
        have : (60 : Int32) * nI (nt sh) + nI (nt i) + nI t = nI (60 * nt sh + (nt i + t)) := by rw [cel_i, nI_add, Nat.add_assoc]
        rw [← es, ← ei, ← hy] at this
        exact this
      have v1 : vp_in (60 * sh + i + y) 240 := by rw [e1]; exact pk_in (60 * nt sh + (nt i + t)) 240 (by omega)
      have p1 : N 3 (60 * sh + i + y).toNatClampNeg = G (nt sh) (nt i + t) := by rw [e1, nI_clamp (by omega), e3 _ (by omega)]
      refine And.intro v1 ?_
      refine Exists.intro (va_up R 0 0) ⟨N, _, S 2, rfl, rfl, m6, w2, fun b hb => ?_⟩
      have hb : b = true ↔ inI (G (nt sh) (nt i + t)) (S 2) := by rw [← p1]; exact hb
      refine ip_bn (fun h1 => ?_) (fun h1 => ?_)
      · exact Exists.intro (2 * (nt n - t)) ⟨by show _ < _; omega, hP, t, _, _, _, _, _, _, by omega, rfl, rfl, rfl, hu, hd, hy, hok, Or.inr ⟨rfl, rfl, h, decide_eq_true (hb.mp h1), rfl, p1⟩⟩
      · exact bad h (decide_eq_false (fun z => by rw [hb.mpr z] at h1; cases h1))
    · have hin : inI (G (nt sh) (nt i + t)) (S 2) := of_decide_eq_true o1
      obtain ⟨l1, m1⟩ := inI_nt hin
      have hrm : relM S (va_up R 0 0) N 0 := relM_0 h0.2.2.1
      refine Exists.intro (va_up R 0 0) ⟨N, S, nt (G (nt sh) (nt i + t)), 0, by omega, by decide, (by show [Value.ref 0, Value.int v] = _; rw [hv1, ← m1]), rfl, hwf.1, hrm, ?_⟩
      rw [dgpM_0]
      refine Exists.intro (dgp S (nt (G (nt sh) (nt i + t)))) ⟨dgp_lt S _, rfl, ?_⟩
      have hc := pc6_le (dgp S (nt (G (nt sh) (nt i + t))))
      have hprod : u * ((6 : Int32) - nI (pc6 (dgp S (nt (G (nt sh) (nt i + t)))))).toInt64 = lN (upF S G (nt sh) (nt i) (t + 1)) := by
        rw [hu, show (6 : Int32) = nI 6 from rfl, pk_sub hc, nI_l (by omega), lN_mul]
        rfl
      have h6 : d * 6 = lN (6 ^ (t + 1)) := by rw [hd, Nat.pow_succ, ← lN_mul]; rfl
      exact Exists.intro (2 * (nt n - (t + 1)) + 1) ⟨by show _ < _; omega, hP, t + 1, _, _, _, 0, _, _, by omega, rfl, rfl, rfl, hprod, h6, by rw [hy]; exact nI_1 t, fun j hj => by
        rcases Nat.lt_or_ge j t with q | q
        · exact hok j q
        · obtain rfl : j = t := by omega
          exact o1, Or.inl ⟨rfl, rfl⟩⟩
set_option maxRecDepth 100000 in
set_option maxHeartbeats 4000000 in
theorem m_X8_fair (l : Launch) : ip_Met l yX8_fair cX8_fair 13 (some .long) (ip_rm 4) C_X8_fair := ip_met tc_X8_fair 400 (by decide +kernel) fl_X8_ok cn_X8_ok (ip_cs1 (ip_gsS (m_X8_isSheet l) (ip_in [713, 714, 39, 715] (by decide +kernel) (by decide +kernel)) ⟨by decide +kernel, by decide +kernel, by decide +kernel⟩ ⟨rfl, rfl, Nat.le_of_ble_eq_true rfl, Nat.le_of_ble_eq_true rfl⟩) (ip_cs1 (ip_gsS (m_X8_isRow l) (ip_in [812, 813, 39, 814] (by decide +kernel) (by decide +kernel)) ⟨by decide +kernel, by decide +kernel, by decide +kernel⟩ ⟨rfl, rfl, Nat.le_of_ble_eq_true rfl, Nat.le_of_ble_eq_true rfl⟩) (ip_cs1 (ip_gsS (m_X8_within l) (ip_in [716, 717, 39, 718] (by decide +kernel) (by decide +kernel)) ⟨by decide +kernel, by decide +kernel, by decide +kernel⟩ ⟨rfl, rfl, Nat.le_of_ble_eq_true rfl, Nat.le_of_ble_eq_true rfl⟩) (ip_cs1 (ip_gsV (m_X8_against l) (ip_in [722, 724, 9, 39, 725] (by decide +kernel) (by decide +kernel)) rfl ⟨by decide +kernel, by decide +kernel, by decide +kernel⟩ ⟨rfl, rfl, Nat.le_of_ble_eq_true rfl, Nat.le_of_ble_eq_true rfl⟩) (ip_cs1 (ip_gsV (m_X8_lost l) (ip_in [855, 857, 27, 39, 858] (by decide +kernel) (by decide +kernel)) rfl ⟨by decide +kernel, by decide +kernel, by decide +kernel⟩ ⟨rfl, rfl, Nat.le_of_ble_eq_true rfl, Nat.le_of_ble_eq_true rfl⟩) (ip_cs1 (ip_gsV (m_X8_isParish l) (ip_in [769, 771, 17, 39, 772] (by decide +kernel) (by decide +kernel)) rfl ⟨by decide +kernel, by decide +kernel, by decide +kernel⟩ ⟨rfl, rfl, Nat.le_of_ble_eq_true rfl, Nat.le_of_ble_eq_true rfl⟩) (ip_cs1 (ip_gsV (m_X8_dangersOf l) (ip_in [804, 806, 21, 39, 807] (by decide +kernel) (by decide +kernel)) rfl ⟨by decide +kernel, by decide +kernel, by decide +kernel⟩ ⟨rfl, rfl, Nat.le_of_ble_eq_true rfl, Nat.le_of_ble_eq_true rfl⟩) (ip_cs1 (ip_gsS (m_X8_size l) (ip_in [835, 836, 39, 837] (by decide +kernel) (by decide +kernel)) ⟨by decide +kernel, by decide +kernel, by decide +kernel⟩ ⟨rfl, rfl, Nat.le_of_ble_eq_true rfl, Nat.le_of_ble_eq_true rfl⟩) (ip_cs1 (ip_gsS (m_X8_inLeastTerms l) (ip_in [860, 861, 39, 862] (by decide +kernel) (by decide +kernel)) ⟨by decide +kernel, by decide +kernel, by decide +kernel⟩ ⟨rfl, rfl, Nat.le_of_ble_eq_true rfl, Nat.le_of_ble_eq_true rfl⟩) (ip_cs0)))))))))) cj_X8_fair rfl p_X8_fair
