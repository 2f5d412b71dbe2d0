/-! ===== the reference: place ===== -/
theorem amn_0 (c : Nat → Nat) : amn c (0 + 1) = 0 := rfl
theorem amn_lt {c : Nat → Nat} {n : Nat} (hn : n ≠ 0) (h : c n < c (amn c n)) : amn c (n + 1) = n := by rw [amn, if_neg hn, if_pos h]
theorem amn_ge {c : Nat → Nat} {n : Nat} (hn : n ≠ 0) (h : c (amn c n) ≤ c n) : amn c (n + 1) = amn c n := by rw [amn, if_neg hn, if_neg (by omega)]
theorem div_pow_s {P M j x : Nat} (h : j < M) : x / P ^ (M - (j + 1)) / P = x / P ^ (M - j) := by
  rw [Nat.div_div_eq_div_mul, ← Nat.pow_succ, show (M - (j + 1)).succ = M - j by omega]
def bstL (c : Nat → Nat) (num : Nat) (x : Int32) : Prop := (num = 0 ∧ x = -9) ∨ (num ≠ 0 ∧ x = nI (c (amn c num)))
def C_X8_findPlaces : ip_C := fun vs hp K => ∃ S G R N, ∃ (k a n : Nat), vs = [.ref 0] ∧ hp = hpM R N ∧ wfM S ∧ relM S R N 0 ∧ layT S G R N k a n ∧ stormOk S G k a n ∧ ∀ Pl Kp Fd, (∀ m, m < 4 → Pl m = N 5 m) → (∀ i, i < S 3 → Fd i = nI (dg (S 2) (S 3) (amn (cP S G k a n) (S 2 ^ S 3)) i)) → K (some (.int (nI (cP S G k a n (amn (cP S G k a n) (S 2 ^ S 3)))))) (hpM R (va_up (va_up (va_up N 5 Pl) 10 Kp) 11 Fd))
def tc_X8_findPlaces : List ip_I := (0, .iconst 1, 1, false, 1, 0) :: (1, .istore_n 1, 1, false, 0, 0) :: (2, .iconst 0, 1, false, 0, 0) :: (3, .istore_n 2, 1, false, 0, 0) :: (4, .iload_n 2, 1, true, 0, 0) :: (5, .aload_n 0, 1, false, 0, 0) :: (6, .getfield 69, 3, false, 0, 0) :: (9, .if_icmp .ge 28, 3, false, 0, 37) :: (12, .aload_n 0, 1, false, 0, 0) :: (13, .getfield 37, 3, false, 0, 0) :: (16, .iload_n 2, 1, false, 0, 0) :: (17, .aload_n 0, 1, false, 0, 0) :: (18, .getfield 22, 3, false, 0, 0) :: (21, .iload_n 2, 1, false, 0, 0) :: (22, .iaload, 1, false, 0, 0) :: (23, .iastore, 1, false, 0, 0) :: (24, .iload_n 1, 1, false, 0, 0) :: (25, .aload_n 0, 1, false, 0, 0) :: (26, .getfield 72, 3, false, 0, 0) :: (29, .imul, 1, false, 0, 0) :: (30, .istore_n 1, 1, false, 0, 0) :: (31, .iinc 2 1, 3, false, 1, 0) :: (34, .goto (-30), 3, false, 0, 4) :: (37, .bipush (-9), 2, false, (-9), 0) :: (39, .istore_n 2, 1, false, 0, 0) :: (40, .iconst 0, 1, false, 0, 0) :: (41, .istore_n 3, 1, false, 0, 0) :: (42, .iload_n 3, 1, true, 0, 0) :: (43, .iload_n 1, 1, false, 0, 0) :: (44, .if_icmp .ge 107, 3, false, 0, 151) :: (47, .iload_n 3, 1, false, 0, 0) :: (48, .istore 4, 2, false, 0, 0) :: (50, .aload_n 0, 1, false, 0, 0) :: (51, .getfield 69, 3, false, 0, 0) :: (54, .iconst 1, 1, false, 1, 0) :: (55, .isub, 1, false, 0, 0) :: (56, .istore 5, 2, false, 0, 0) :: (58, .iload 5, 2, true, 0, 0) :: (60, .ifCond .lt 32, 3, false, 0, 92) :: (63, .aload_n 0, 1, false, 0, 0) :: (64, .getfield 22, 3, false, 0, 0) :: (67, .iload 5, 2, false, 0, 0) :: (69, .iload 4, 2, false, 0, 0) :: (71, .aload_n 0, 1, false, 0, 0) :: (72, .getfield 72, 3, false, 0, 0) :: (75, .irem, 1, false, 0, 0) :: (76, .iastore, 1, false, 0, 0) :: (77, .iload 4, 2, false, 0, 0) :: (79, .aload_n 0, 1, false, 0, 0) :: (80, .getfield 72, 3, false, 0, 0) :: (83, .idiv, 1, false, 0, 0) :: (84, .istore 4, 2, false, 0, 0) :: (86, .iinc 5 (-1), 3, false, (-1), 0) :: (89, .goto (-31), 3, false, 0, 58) :: (92, .aload_n 0, 1, true, 0, 0) :: (93, .invokevirtual 162, 3, false, 0, 0) :: (96, .istore 5, 2, false, 0, 0) :: (98, .iload_n 2, 1, false, 0, 0) :: (99, .bipush (-9), 2, false, (-9), 0) :: (101, .if_icmp .eq 9, 3, false, 0, 110) :: (104, .iload 5, 2, false, 0, 0) :: (106, .iload_n 2, 1, false, 0, 0) :: (107, .if_icmp .ge 38, 3, false, 0, 145) :: (110, .iload 5, 2, false, 0, 0) :: (112, .istore_n 2, 1, false, 0, 0) :: (113, .iconst 0, 1, false, 0, 0) :: (114, .istore 6, 2, false, 0, 0) :: (116, .iload 6, 2, true, 0, 0) :: (118, .aload_n 0, 1, false, 0, 0) :: (119, .getfield 69, 3, false, 0, 0) :: (122, .if_icmp .ge 23, 3, false, 0, 145) :: (125, .aload_n 0, 1, false, 0, 0) :: (126, .getfield 40, 3, false, 0, 0) :: (129, .iload 6, 2, false, 0, 0) :: (131, .aload_n 0, 1, false, 0, 0) :: (132, .getfield 22, 3, false, 0, 0) :: (135, .iload 6, 2, false, 0, 0) :: (137, .iaload, 1, false, 0, 0) :: (138, .iastore, 1, false, 0, 0) :: (139, .iinc 6 1, 3, false, 1, 0) :: (142, .goto (-26), 3, false, 0, 116) :: (145, .iinc 3 1, 3, false, 1, 0) :: (148, .goto (-106), 3, false, 0, 42) :: (151, .iconst 0, 1, false, 0, 0) :: (152, .istore_n 3, 1, false, 0, 0) :: (153, .iload_n 3, 1, true, 0, 0) :: (154, .aload_n 0, 1, false, 0, 0) :: (155, .getfield 69, 3, false, 0, 0) :: (158, .if_icmp .ge 21, 3, false, 0, 179) :: (161, .aload_n 0, 1, false, 0, 0) :: (162, .getfield 22, 3, false, 0, 0) :: (165, .iload_n 3, 1, false, 0, 0) :: (166, .aload_n 0, 1, false, 0, 0) :: (167, .getfield 37, 3, false, 0, 0) :: (170, .iload_n 3, 1, false, 0, 0) :: (171, .iaload, 1, false, 0, 0) :: (172, .iastore, 1, false, 0, 0) :: (173, .iinc 3 1, 3, false, 1, 0) :: (176, .goto (-23), 3, false, 0, 153) :: (179, .iload_n 2, 1, false, 0, 0) :: (180, .ireturn, 1, false, 0, 0) :: []
set_option maxRecDepth 100000 in
theorem cj_X8_findPlaces : ip_chk cX8_findPlaces tc_X8_findPlaces = true := by decide +kernel
def cs_X8_findPlaces : List ip_G := [(162, 1, 8, C_X8_strikesNow)]
def I_X8_findPlaces (R : Nat → Int32) (N : Nat → Nat → Int32) (S : Nat → Nat) (c : Nat → Nat) : Nat → Nat → ip_P := fun pc kk L st hp => ∃ (Pl Kp Fd : Nat → Int32), hp = hpM R (va_up (va_up (va_up N 5 Pl) 10 Kp) 11 Fd) ∧ st = [] ∧ (∀ m, S 3 ≤ m → m < 4 → Pl m = N 5 m) ∧
  ((pc = 4 ∧ ∃ (m : Nat) (x y : Int32) (l3 l4 l5 l6 : Option Value), m ≤ S 3 ∧ kk = 1000000 + (4 - m) ∧ L = [some (.ref 0), some (.int x), some (.int y), l3, l4, l5, l6] ∧ x = nI (S 2 ^ m) ∧ y = nI m ∧ (∀ i, i < 4 → Pl i = N 5 i) ∧ ∀ i, i < m → Kp i = N 5 i) ∨
  (pc = 42 ∧ ∃ (num : Nat) (x y z : Int32) (l4 l5 l6 : Option Value), num ≤ S 2 ^ S 3 ∧ kk = 20 * (S 2 ^ S 3 - num) + 10 ∧ L = [some (.ref 0), some (.int x), some (.int y), some (.int z), l4, l5, l6] ∧ x = nI (S 2 ^ S 3) ∧ bstL c num y ∧ z = nI num ∧ (∀ i, i < S 3 → Kp i = N 5 i) ∧ (num ≠ 0 → ∀ i, i < S 3 → Fd i = nI (dg (S 2) (S 3) (amn c num) i))) ∨
  (pc = 58 ∧ ∃ (num j : Nat) (x y z u v : Int32) (l6 : Option Value), num < S 2 ^ S 3 ∧ j ≤ S 3 ∧ kk = 20 * (S 2 ^ S 3 - num) + j + 1 ∧ L = [some (.ref 0), some (.int x), some (.int y), some (.int z), some (.int u), some (.int v), l6] ∧ x = nI (S 2 ^ S 3) ∧ bstL c num y ∧ z = nI num ∧ u = nI (num / S 2 ^ (S 3 - j)) ∧ v = nI j - 1 ∧ (∀ i, i < S 3 → Kp i = N 5 i) ∧ (num ≠ 0 → ∀ i, i < S 3 → Fd i = nI (dg (S 2) (S 3) (amn c num) i)) ∧ ∀ i, j ≤ i → i < S 3 → Pl i = nI (dg (S 2) (S 3) num i)) ∨
  (pc = 92 ∧ ∃ (num : Nat) (x y z l4 : Int32) (l5 l6 : Option Value), num < S 2 ^ S 3 ∧ kk = 20 * (S 2 ^ S 3 - num) ∧ L = [some (.ref 0), some (.int x), some (.int y), some (.int z), some (.int l4), l5, l6] ∧ x = nI (S 2 ^ S 3) ∧ bstL c num y ∧ z = nI num ∧ (∀ i, i < S 3 → Kp i = N 5 i) ∧ (num ≠ 0 → ∀ i, i < S 3 → Fd i = nI (dg (S 2) (S 3) (amn c num) i)) ∧ ∀ i, i < S 3 → Pl i = nI (dg (S 2) (S 3) num i)) ∨
  (pc = 116 ∧ ∃ (num i : Nat) (x y z w l5 : Int32) (l4 : Option Value), num < S 2 ^ S 3 ∧ i ≤ S 3 ∧ kk = 20 * (S 2 ^ S 3 - num) - 1 - i ∧ L = [some (.ref 0), some (.int x), some (.int y), some (.int z), l4, some (.int l5), some (.int w)] ∧ x = nI (S 2 ^ S 3) ∧ y = nI (c num) ∧ z = nI num ∧ w = nI i ∧ amn c (num + 1) = num ∧ (∀ i, i < S 3 → Kp i = N 5 i) ∧ (∀ t, t < i → Fd t = nI (dg (S 2) (S 3) num t)) ∧ ∀ i, i < S 3 → Pl i = nI (dg (S 2) (S 3) num i)) ∨
  (pc = 153 ∧ ∃ (i : Nat) (x y z : Int32) (l4 l5 l6 : Option Value), i ≤ S 3 ∧ kk = 4 - i ∧ L = [some (.ref 0), some (.int x), some (.int y), some (.int z), l4, l5, l6] ∧ y = nI (c (amn c (S 2 ^ S 3))) ∧ z = nI i ∧ (∀ i, i < S 3 → Kp i = N 5 i) ∧ (∀ i, i < S 3 → Fd i = nI (dg (S 2) (S 3) (amn c (S 2 ^ S 3)) i)) ∧ ∀ t, t < i → Pl t = N 5 t))
theorem ne9_20 : ∀ b : Fin 21, ¬ nI b.val = -9 := by decide +kernel
theorem six4 {P M : Nat} (h : P ≤ 6) (h2 : M ≤ 4) : P ^ M ≤ 1296 := Nat.le_trans (Nat.pow_le_pow_left h M) (Nat.pow_le_pow_right (n := 6) (by decide) h2)
theorem p_X8_findPlaces : ip_Pf fl_X8 cn_X8 cs_X8_findPlaces (some .int) tc_X8_findPlaces 7 C_X8_findPlaces := by
  rintro _ _ K ⟨S, G, R, N, k, a, n, rfl, rfl, hw, hr, hlay, hok, hK⟩
  have w2 := hw.2.1
  have w3 := hw.2.2.1
  obtain ⟨m5, m6, m7, m11, mm⟩ := id hr
  have hP : 0 < S 2 := Nat.pos_of_ne_zero hok.2.2.2.1
  have h20 := hlay.2.1
  have hrows := six4 w2 w3
  have hpos : 0 < S 2 ^ S 3 := Nat.pow_pos hP
  have hc20 : ∀ x, cP S G k a n x ≤ 20 := fun x => Nat.le_trans (Tm_le _ _ _ _ _ _) h20
  refine ⟨Nat.le_of_ble_eq_true rfl, I_X8_findPlaces R N S (cP S G k a n), ?_, ?_⟩
  · exact Exists.intro (1000000 + (4 - 0)) ⟨trivial, N 5, N 10, N 11, congrArg (hpM R) (by rw [up_same N 5, up_same N 10]; exact (up_same N 11).symm), rfl, fun _ _ _ => rfl, Or.inl ⟨rfl, 0, _, _, _, _, _, _, by omega, rfl, rfl, rfl, rfl, fun _ _ => rfl, fun i hi => absurd hi (by omega)⟩⟩
  · rintro pc kk L st hp ⟨Pl, Kp, Fd, rfl, rfl, hout, hI⟩
    have bM : ∀ (t : Nat) (y : Int32), y = nI t → t ≤ 4 → ∀ {X Y : Prop}, (S 3 ≤ t → X) → (t < S 3 → Y) → (R 7 ≤ y → X) ∧ (¬ R 7 ≤ y → Y) := fun t y hy ht X Y f g => by rw [hy, m7]; exact pk_le (S 3) t f g
    have vc : ∀ (t : Nat) (y : Int32), y = nI t → t < 4 → vp_in y 4 ∧ y.toNatClampNeg = t := fun t y hy ht => by rw [hy]; exact ⟨pk_in t 4 ht, nI_clamp (n := t) (by omega)⟩
    rcases hI with ⟨rfl, m, x, y, l3, l4, l5, l6, hm, rfl, rfl, hx, hy, hPl, hKp⟩ | ⟨rfl, num, x, y, z, l4, l5, l6, hnum, rfl, rfl, hx, hy, hz, hKp, hFd⟩ | ⟨rfl, num, j, x, y, z, u, v, l6, hnum, hj, rfl, rfl, hx, hy, hz, hu, hv, hKp, hFd, hPl⟩ | ⟨rfl, num, x, y, z, l4, l5, l6, hnum, rfl, rfl, hx, hy, hz, hKp, hFd, hPl⟩ | ⟨rfl, num, i, x, y, z, w, l5, l4, hnum, hi, rfl, rfl, hx, hy, hz, hwi, hamn, hKp, hFd, hPl⟩ | ⟨rfl, i, x, y, z, l4, l5, l6, hi, rfl, rfl, hy, hz, hKp, hFd, hPl⟩
    · refine bM m y hy (by omega) (fun h => ?_) (fun h => ?_)
      · obtain rfl : m = S 3 := by omega
        exact Exists.intro (20 * (S 2 ^ S 3 - 0) + 10) ⟨by show _ < _; omega, Pl, Kp, Fd, rfl, rfl, hout, Or.inr (Or.inl ⟨rfl, 0, _, _, _, _, _, _, by omega, rfl, rfl, hx, Or.inl ⟨rfl, rfl⟩, rfl, hKp, fun q => absurd rfl q⟩)⟩
      · obtain ⟨v4, c4⟩ := vc m y hy (by omega)
        refine And.intro v4 ?_
        refine And.intro v4 ?_
        refine Exists.intro (1000000 + (4 - (m + 1))) ⟨by show _ < _; omega, Pl, upd Kp y.toNatClampNeg (Pl y.toNatClampNeg), Fd, rfl, rfl, hout, Or.inl ⟨rfl, m + 1, _, _, _, _, _, _, by omega, rfl, rfl, ?_, by rw [hy]; exact nI_1 m, hPl, fun i hi => ?_⟩⟩
        · rw [hx, m6, pk_mul, Nat.pow_succ]
        · rw [c4]
          by_cases e : i = m
          · subst e; rw [pk_us]; exact hPl i (by omega)
          · rw [pk_un e]; exact hKp i (by omega)
    · have b1 : ∀ {X Y : Prop}, (S 2 ^ S 3 ≤ num → X) → (num < S 2 ^ S 3 → Y) → (x ≤ z → X) ∧ (¬ x ≤ z → Y) := fun f g => by rw [hx, hz]; exact pk_le (S 2 ^ S 3) num f g
      refine b1 (fun h => ?_) (fun h => ?_)
      · obtain rfl : num = S 2 ^ S 3 := by omega
        rcases hy with ⟨q, -⟩ | ⟨q, hy⟩
        · omega
        · exact Exists.intro (4 - 0) ⟨by show _ < _; omega, Pl, Kp, Fd, rfl, rfl, hout, Or.inr (Or.inr (Or.inr (Or.inr (Or.inr ⟨rfl, 0, _, _, _, _, _, _, by omega, rfl, rfl, hy, rfl, hKp, hFd q, fun t ht => absurd ht (by omega)⟩))))⟩
      · exact Exists.intro (20 * (S 2 ^ S 3 - num) + S 3 + 1) ⟨by show _ < _; omega, Pl, Kp, Fd, rfl, rfl, hout, Or.inr (Or.inr (Or.inl ⟨rfl, num, S 3, _, _, _, _, _, _, h, by omega, rfl, rfl, hx, hy, hz, by rw [hz, Nat.sub_self, Nat.pow_zero, Nat.div_one], by rw [← m7], hKp, hFd, fun i h1 h2 => absurd h2 (by omega)⟩))⟩
    · have ev : v.toInt = (j : Int) - 1 := by rw [hv]; exact nx1 j (by omega)
      refine bz_lt ((j : Int) - 1) 0 (fun h => ?_) (fun h => ?_) ev
      · obtain rfl : j = 0 := by omega
        exact Exists.intro (20 * (S 2 ^ S 3 - num)) ⟨by show _ < _; omega, Pl, Kp, Fd, rfl, rfl, hout, Or.inr (Or.inr (Or.inr (Or.inl ⟨rfl, num, _, _, _, _, _, _, hnum, rfl, rfl, hx, hy, hz, hKp, hFd, fun i hi => hPl i (by omega) hi⟩)))⟩
      · obtain ⟨j, rfl⟩ : ∃ t, j = t + 1 := ⟨j - 1, by omega⟩
        have hv : v = nI j := by rw [hv]; exact nI_pred j
        obtain ⟨v4, c4⟩ := vc j v hv (by omega)
        have hne : ¬ R 6 = 0 := by
          rw [m6]
          intro q
          rw [fa_eq, ti_n (by omega), show (0 : Int32).toInt = 0 by decide] at q
          omega
        have hul : num / S 2 ^ (S 3 - (j + 1)) < 2 ^ 31 := Nat.lt_of_le_of_lt (Nat.div_le_self _ _) (by omega)
        have erem : u - u / R 6 * R 6 = nI (dg (S 2) (S 3) num j) := by
          rw [hu, m6, pk_rem hul hP (by omega), dg, show S 3 - 1 - j = S 3 - (j + 1) by omega]
        refine And.intro hne ?_
        refine And.intro v4 ?_
        refine And.intro hne ?_
        refine Exists.intro (20 * (S 2 ^ S 3 - num) + j + 1) ⟨by show _ < _; omega, upd Pl v.toNatClampNeg (u - u / R 6 * R 6), Kp, Fd, rfl, rfl, fun t h1 h2 => ?_, Or.inr (Or.inr (Or.inl ⟨rfl, num, j, _, _, _, _, _, _, hnum, by omega, rfl, rfl, hx, hy, hz, ?_, ?_, hKp, hFd, fun t h1 h2 => ?_⟩))⟩
        · rw [c4, pk_un (by omega)]; exact hout t h1 h2
        · rw [hu, m6, pk_div hul hP (by omega), div_pow_s (by omega)]
        · rw [hv, Int32.sub_eq_add_neg]
        · rw [c4]
          by_cases e : t = j
          · subst e; rw [pk_us]; exact erem
          · rw [pk_un e]; exact hPl t (by omega) h2
    · have hrel2 : relM (plS S num) R (va_up (va_up (va_up N 5 Pl) 10 Kp) 11 Fd) 0 := by
        refine ⟨by rw [plS_n S num (by omega) w3]; exact m5, by rw [plS_n S num (by omega) w3]; exact m6, by rw [plS_n S num (by omega) w3]; exact m7, m11, fun t ht => ?_⟩
        obtain ⟨q4, q5, q6⟩ := mm t ht
        refine ⟨by rw [plS_n S num (by omega) w3]; exact q4, ?_, by rw [plS_n S num (by omega) w3]; exact q6⟩
        show Pl t = _
        by_cases c : t < S 3
        · rw [plS_m S num c]; exact hPl t c
        · rw [hout t (by omega) ht, q5]
          unfold plS
          rw [if_neg (by omega)]
      obtain ⟨v1, v2⟩ := lay_ok w2 hlay hok (plS S num)
      refine Exists.intro R ⟨_, plS S num, n, rfl, rfl, plS_wf hw hP num, hrel2, v1, ?_⟩
      have hct : fb_ct (stM (plS S num) (va_up (va_up (va_up N 5 Pl) 10 Kp) 11 Fd)) n = cP S G k a n num := by
        rw [← plS_ct S G k a n num w3]
        exact fb_ct_cong (fun t ht => (v2 t ht).2)
      rw [hct]
      have hcn := hc20 num
      have hbest : amn (cP S G k a n) (num + 1) = num → ∃ kk, ip_lt kk (some (20 * (S 2 ^ S 3 - num))) ∧ I_X8_findPlaces R N S (cP S G k a n) 116 kk [some (.ref 0), some (.int x), some (.int (nI (cP S G k a n num))), some (.int z), some (.int l4), some (.int (nI (cP S G k a n num))), some (.int 0)] [] (hpM R (va_up (va_up (va_up N 5 Pl) 10 Kp) 11 Fd)) := fun ha => ⟨20 * (S 2 ^ S 3 - num) - 1 - 0, by show _ < _; omega, Pl, Kp, Fd, rfl, rfl, hout, Or.inr (Or.inr (Or.inr (Or.inr (Or.inl ⟨rfl, num, 0, _, _, _, _, _, _, hnum, by omega, rfl, rfl, hx, rfl, hz, rfl, ha, hKp, fun t ht => absurd ht (by omega), hPl⟩))))⟩
      rcases hy with ⟨q, hy⟩ | ⟨q, hy⟩
      · refine And.intro (fun _ => ?_) (fun q2 => absurd hy q2)
        exact hbest (by rw [q]; rfl)
      · have hca := hc20 (amn (cP S G k a n) num)
        have hne9 : ¬ y = -9 := by rw [hy]; exact ne9_20 ⟨cP S G k a n (amn (cP S G k a n) num), by omega⟩
        refine And.intro (fun q2 => absurd q2 hne9) (fun _ => ?_)
        have b2 : ∀ {X Y : Prop}, (cP S G k a n (amn (cP S G k a n) num) ≤ cP S G k a n num → X) → (cP S G k a n num < cP S G k a n (amn (cP S G k a n) num) → Y) → (y ≤ nI (cP S G k a n num) → X) ∧ (¬ y ≤ nI (cP S G k a n num) → Y) := fun f g => by rw [hy]; exact pk_le _ _ f g
        refine b2 (fun h => ?_) (fun h => ?_)
        · exact Exists.intro (20 * (S 2 ^ S 3 - (num + 1)) + 10) ⟨by show _ < _; omega, Pl, Kp, Fd, rfl, rfl, hout, Or.inr (Or.inl ⟨rfl, num + 1, _, _, _, _, _, _, by omega, rfl, rfl, hx, Or.inr ⟨by omega, by rw [amn_ge q h]; exact hy⟩, by rw [hz]; exact nI_1 num, hKp, fun _ => by rw [amn_ge q h]; exact hFd q⟩)⟩
        · exact hbest (amn_lt q h)
    · refine bM i w hwi (by omega) (fun h => ?_) (fun h => ?_)
      · obtain rfl : i = S 3 := by omega
        exact Exists.intro (20 * (S 2 ^ S 3 - (num + 1)) + 10) ⟨by show _ < _; omega, Pl, Kp, Fd, rfl, rfl, hout, Or.inr (Or.inl ⟨rfl, num + 1, _, _, _, _, _, _, by omega, rfl, rfl, hx, Or.inr ⟨by omega, by rw [hamn]; exact hy⟩, by rw [hz]; exact nI_1 num, hKp, fun _ => by rw [hamn]; exact hFd⟩)⟩
      · obtain ⟨v4, c4⟩ := vc i w hwi (by omega)
        refine And.intro v4 ?_
        refine And.intro v4 ?_
        refine Exists.intro (20 * (S 2 ^ S 3 - num) - 1 - (i + 1)) ⟨by show _ < _; omega, Pl, Kp, upd Fd w.toNatClampNeg (Pl w.toNatClampNeg), rfl, rfl, hout, Or.inr (Or.inr (Or.inr (Or.inr (Or.inl ⟨rfl, num, i + 1, _, _, _, _, _, _, hnum, by omega, rfl, rfl, hx, hy, hz, by rw [hwi]; exact nI_1 i, hamn, hKp, fun t ht => ?_, hPl⟩))))⟩
        rw [c4]
        by_cases e : t = i
        · subst e; rw [pk_us]; exact hPl t h
        · rw [pk_un e]; exact hFd t (by omega)
    · refine bM i z hz (by omega) (fun h => ?_) (fun h => ?_)
      · obtain rfl : i = S 3 := by omega
        rw [hy]
        refine hK Pl Kp Fd (fun m hm => ?_) hFd
        by_cases c : m < S 3
        · exact hPl m c
        · exact hout m (by omega) hm
      · obtain ⟨v4, c4⟩ := vc i z hz (by omega)
        refine And.intro v4 ?_
        refine And.intro v4 ?_
        refine Exists.intro (4 - (i + 1)) ⟨by show _ < _; omega, upd Pl z.toNatClampNeg (Kp z.toNatClampNeg), Kp, Fd, rfl, rfl, fun t h1 h2 => ?_, Or.inr (Or.inr (Or.inr (Or.inr (Or.inr ⟨rfl, i + 1, _, _, _, _, _, _, by omega, rfl, rfl, hy, by rw [hz]; exact nI_1 i, hKp, hFd, fun t ht => ?_⟩))))⟩
        · rw [c4, pk_un (by omega)]; exact hout t h1 h2
        · rw [c4]
          by_cases e : t = i
          · subst e; rw [pk_us]; exact hKp t h
          · rw [pk_un e]; exact hPl t (by omega)
set_option maxRecDepth 100000 in
set_option maxHeartbeats 4000000 in
theorem m_X8_findPlaces (l : Launch) : ip_Met l yX8_findPlaces cX8_findPlaces 7 (some .int) (ip_rm 4) C_X8_findPlaces := ip_met tc_X8_findPlaces 400 (by decide +kernel) fl_X8_ok cn_X8_ok (ip_cs1 (ip_gsV (m_X8_strikesNow l) (ip_in [819, 821, 23, 39, 822] (by decide +kernel) (by decide +kernel)) rfl ⟨by decide +kernel, by decide +kernel, by decide +kernel⟩ ⟨rfl, rfl, Nat.le_of_ble_eq_true rfl, Nat.le_of_ble_eq_true rfl⟩) (ip_cs0)) cj_X8_findPlaces rfl p_X8_findPlaces
