/-! ===== the reference: county ===== -/
noncomputable def q_county (S : Nat → Nat) (G : Nat → Nat → Int32) (sh ln i n : Int32) : Int32 × (Nat → Nat) :=
  if ¬ inI sh 4 then (-1, va_up S 0 0) else if ¬ inI ln 3 then (-2, va_up S 0 0) else if fo S (nt sh) ln.toInt i.toInt n.toInt ≠ 0 then (-10 - nI (fo S (nt sh) ln.toInt i.toInt n.toInt), va_up S 0 (fo S (nt sh) ln.toInt i.toInt n.toInt)) else if ffR (G (nt sh)) (nt i) (nt n) = -1 then (nI ((nt n - 4) / 5), va_up (stl (va_up S 0 0) (G (nt sh)) (nt i) ((nt n - 4) / 5) ((nt n - 4) / 5)) 4 0) else (-100 - ffR (G (nt sh)) (nt i) (nt n), va_up S 0 0)
theorem nI_m1 {t : Nat} (h : t < 2147483648) : ¬ nI t = -1 := fun z => by
  rw [fa_eq, ti_n h, show (-1 : Int32).toInt = -1 by decide] at z
  omega
theorem goP_cong {g h : Nat → Int32} {a b t : Nat} (e : ∀ x, x ≤ t → g (a + x) = h (b + x)) (ht : goP g a t) : goP h b t := by
  rcases ht with q | q | q | q | q
  · obtain ⟨rfl, q⟩ := q
    exact Or.inl ⟨rfl, by show (h (b + 0)).toInt = 100; rw [← e 0 (by omega)]; exact q⟩
  · obtain ⟨rfl, q⟩ := q
    exact Or.inr (Or.inl ⟨rfl, by rw [← e 1 (by omega)]; exact q⟩)
  · obtain ⟨rfl, q⟩ := q
    exact Or.inr (Or.inr (Or.inl ⟨rfl, by rw [← e 1 (by omega), ← e 2 (by omega)]; exact q⟩))
  · obtain ⟨rfl, q⟩ := q
    exact Or.inr (Or.inr (Or.inr (Or.inl ⟨rfl, by rw [← e 3 (by omega)]; exact q⟩)))
  · obtain ⟨h1, h2, q⟩ := q
    refine Or.inr (Or.inr (Or.inr (Or.inr ⟨h1, h2, ?_⟩)))
    rw [← e t (by omega), ← e 3 (by omega), show b + t - 1 = b + (t - 1) by omega, ← e (t - 1) (by omega), show a + (t - 1) = a + t - 1 by omega]
    exact q
theorem ff_bad {g : Nat → Int32} {a n t : Nat} (h : badT g a n t) : ffR g a n = nI t := by
  obtain ⟨h1, h2, h3⟩ := h
  unfold ffR
  rcases h3 with ⟨rfl, h3⟩ | ⟨h3, h4⟩
  · rw [lst_none (fun i hi => by rw [dcd_t (h2 i hi)]; rfl)]
    simp only
    rw [if_neg h3]
  · rw [lst_some (s := t) (by rw [dcd_f h4]; rfl) (fun i hi => by rw [dcd_t (h2 i hi)]; rfl) h3]
theorem ff_good {g : Nat → Int32} {a n : Nat} (h : ∀ i, i < n → goP g a i) (h9 : 9 ≤ n ∧ (n - 4) % 5 = 0) : ffR g a n = -1 := by
  unfold ffR
  rw [lst_none (fun i hi => by rw [dcd_t (h i hi)]; rfl)]
  simp only
  rw [if_pos h9]
theorem stl_man (S : Nat → Nat) (g : Nat → Int32) (a m : Nat) {t : Nat} (ht : t < 4) : ∀ i, i ≤ 4 → (t < i → stl S g a m i (40 + t) = kdB (g (a + (4 + 5 * t + 1))) ∧ stl S g a m i (50 + t) = nt (g (a + (4 + 5 * t + 2))) - 48 ∧ stl S g a m i (60 + t) = sv (g (a + (4 + 5 * t + 3))) (g (a + (4 + 5 * t + 4)))) ∧ (i ≤ t → stl S g a m i (40 + t) = S (40 + t) ∧ stl S g a m i (50 + t) = S (50 + t) ∧ stl S g a m i (60 + t) = S (60 + t))
  | 0, _ => ⟨fun q => absurd q (by omega), fun _ => by
      simp only [stl, va_up]
      refine ⟨?_, ?_, ?_⟩
      · rw [if_neg (by omega), if_neg (by omega), if_neg (by omega)]
      · rw [if_neg (by omega), if_neg (by omega), if_neg (by omega)]
      · rw [if_neg (by omega), if_neg (by omega), if_neg (by omega)]⟩
  | i + 1, hi => by
    obtain ⟨ih1, ih2⟩ := stl_man S g a m ht i (by omega)
    simp only [stl, va_up]
    by_cases e : t = i
    · subst e
      refine ⟨fun _ => ⟨?_, ?_, ?_⟩, fun q => absurd q (by omega)⟩
      · rw [if_neg (by omega), if_neg (by omega), if_pos rfl, show a + 5 * t + 5 = a + (4 + 5 * t + 1) by omega]
      · rw [if_neg (by omega), if_pos rfl, show a + 5 * t + 6 = a + (4 + 5 * t + 2) by omega]
      · rw [if_pos rfl, show a + 5 * t + 7 = a + (4 + 5 * t + 3) by omega, show a + 5 * t + 8 = a + (4 + 5 * t + 4) by omega]
    · rw [if_neg (by omega), if_neg (by omega), if_neg (by omega), if_neg (by omega), if_neg (by omega), if_neg (by omega), if_neg (by omega), if_neg (by omega), if_neg (by omega)]
      exact ⟨fun q => ih1 (by omega), fun q => ih2 (by omega)⟩
def C_X8_county : ip_C := fun vs hp K => ∃ tc S G R N, ∃ (sh ln i n : Int32), vs = [.ref 0, .int sh, .int ln, .int i, .int n] ∧ hp = hpM R N ∧ wfC S G ∧ relA tc S G R N ∧ ∀ R' N', relA tc (q_county S G sh ln i n).2 G R' N' → K (some (.int (q_county S G sh ln i n).1)) (hpM R' N')
def tc_X8_county : List ip_I := (0, .aload_n 0, 1, false, 0, 0) :: (1, .iconst 0, 1, false, 0, 0) :: (2, .putfield 59, 3, false, 0, 0) :: (5, .iload_n 1, 1, false, 0, 0) :: (6, .invokestatic 82, 3, false, 0, 0) :: (9, .ifCond .ne 5, 3, false, 0, 14) :: (12, .iconst (-1), 1, false, (-1), 0) :: (13, .ireturn, 1, false, 0, 0) :: (14, .iload_n 2, 1, false, 0, 0) :: (15, .invokestatic 86, 3, false, 0, 0) :: (18, .ifCond .ne 6, 3, false, 0, 24) :: (21, .bipush (-2), 2, false, (-2), 0) :: (23, .ireturn, 1, false, 0, 0) :: (24, .aload_n 0, 1, false, 0, 0) :: (25, .iload_n 1, 1, false, 0, 0) :: (26, .iload_n 2, 1, false, 0, 0) :: (27, .iload_n 3, 1, false, 0, 0) :: (28, .iload 4, 2, false, 0, 0) :: (30, .invokevirtual 89, 3, false, 0, 0) :: (33, .istore 5, 2, false, 0, 0) :: (35, .iload 5, 2, false, 0, 0) :: (37, .ifCond .eq 10, 3, false, 0, 47) :: (40, .aload_n 0, 1, false, 0, 0) :: (41, .iload 5, 2, false, 0, 0) :: (43, .invokevirtual 93, 3, false, 0, 0) :: (46, .ireturn, 1, false, 0, 0) :: (47, .bipush 60, 2, false, 60, 0) :: (49, .iload_n 1, 1, false, 0, 0) :: (50, .imul, 1, false, 0, 0) :: (51, .iload_n 3, 1, false, 0, 0) :: (52, .iadd, 1, false, 0, 0) :: (53, .istore 6, 2, false, 0, 0) :: (55, .aload_n 0, 1, false, 0, 0) :: (56, .iload 6, 2, false, 0, 0) :: (58, .putfield 75, 3, false, 0, 0) :: (61, .aload_n 0, 1, false, 0, 0) :: (62, .iload 6, 2, false, 0, 0) :: (64, .iload 4, 2, false, 0, 0) :: (66, .iadd, 1, false, 0, 0) :: (67, .invokevirtual 97, 3, false, 0, 0) :: (70, .ifCond .ne 14, 3, false, 0, 84) :: (73, .bipush (-100), 2, false, (-100), 0) :: (75, .aload_n 0, 1, false, 0, 0) :: (76, .getfield 75, 3, false, 0, 0) :: (79, .iload 6, 2, false, 0, 0) :: (81, .isub, 1, false, 0, 0) :: (82, .isub, 1, false, 0, 0) :: (83, .ireturn, 1, false, 0, 0) :: (84, .aload_n 0, 1, false, 0, 0) :: (85, .aload_n 0, 1, false, 0, 0) :: (86, .getfield 100, 3, false, 0, 0) :: (89, .putfield 103, 3, false, 0, 0) :: (92, .aload_n 0, 1, false, 0, 0) :: (93, .aload_n 0, 1, false, 0, 0) :: (94, .getfield 106, 3, false, 0, 0) :: (97, .putfield 72, 3, false, 0, 0) :: (100, .aload_n 0, 1, false, 0, 0) :: (101, .aload_n 0, 1, false, 0, 0) :: (102, .getfield 109, 3, false, 0, 0) :: (105, .putfield 69, 3, false, 0, 0) :: (108, .iconst 0, 1, false, 0, 0) :: (109, .istore 7, 2, false, 0, 0) :: (111, .iload 7, 2, true, 0, 0) :: (113, .aload_n 0, 1, false, 0, 0) :: (114, .getfield 69, 3, false, 0, 0) :: (117, .if_icmp .ge 61, 3, false, 0, 178) :: (120, .aload_n 0, 1, false, 0, 0) :: (121, .getfield 19, 3, false, 0, 0) :: (124, .iload 7, 2, false, 0, 0) :: (126, .aload_n 0, 1, false, 0, 0) :: (127, .getfield 28, 3, false, 0, 0) :: (130, .iconst 3, 1, false, 3, 0) :: (131, .iload 7, 2, false, 0, 0) :: (133, .imul, 1, false, 0, 0) :: (134, .iaload, 1, false, 0, 0) :: (135, .iastore, 1, false, 0, 0) :: (136, .aload_n 0, 1, true, 0, 0) :: (137, .getfield 22, 3, false, 0, 0) :: (140, .iload 7, 2, false, 0, 0) :: (142, .aload_n 0, 1, false, 0, 0) :: (143, .getfield 28, 3, false, 0, 0) :: (146, .iconst 3, 1, false, 3, 0) :: (147, .iload 7, 2, false, 0, 0) :: (149, .imul, 1, false, 0, 0) :: (150, .iconst 1, 1, false, 1, 0) :: (151, .iadd, 1, false, 0, 0) :: (152, .iaload, 1, false, 0, 0) :: (153, .iastore, 1, false, 0, 0) :: (154, .aload_n 0, 1, true, 0, 0) :: (155, .getfield 25, 3, false, 0, 0) :: (158, .iload 7, 2, false, 0, 0) :: (160, .aload_n 0, 1, false, 0, 0) :: (161, .getfield 28, 3, false, 0, 0) :: (164, .iconst 3, 1, false, 3, 0) :: (165, .iload 7, 2, false, 0, 0) :: (167, .imul, 1, false, 0, 0) :: (168, .iconst 2, 1, false, 2, 0) :: (169, .iadd, 1, false, 0, 0) :: (170, .iaload, 1, false, 0, 0) :: (171, .iastore, 1, false, 0, 0) :: (172, .iinc 7 1, 3, false, 1, 0) :: (175, .goto (-64), 3, false, 0, 111) :: (178, .aload_n 0, 1, false, 0, 0) :: (179, .iconst 0, 1, false, 0, 0) :: (180, .putfield 112, 3, false, 0, 0) :: (183, .aload_n 0, 1, false, 0, 0) :: (184, .getfield 69, 3, false, 0, 0) :: (187, .ireturn, 1, false, 0, 0) :: []
set_option maxRecDepth 100000 in
theorem cj_X8_county : ip_chk cX8_county tc_X8_county = true := by decide +kernel
def cs_X8_county : List ip_G := [(82, 1, 0, C_X8_isSheet), (86, 1, 0, C_X8_isSort), (89, 5, 8, C_X8_against), (93, 2, 8, C_X8_fails), (97, 2, 8, C_X8_readCounty)]
/-- behind the text: the numbers that the reference has read, the rows that it copies -/
def cpR (N : Nat → Nat → Int32) (C : Nat → Int32) (A m j j4 j5 : Nat) (F4 F5 F6 : Nat → Int32) : Prop := ∀ t, t < 4 → (t < j4 → F4 t = nI (kdB (C (A + (4 + 5 * t + 1))))) ∧ (j4 ≤ t → F4 t = N 4 t) ∧ (t < j5 → F5 t = nI (nt (C (A + (4 + 5 * t + 2))) - 48)) ∧ (j5 ≤ t → F5 t = N 5 t) ∧ (t < j → F6 t = nI (sv (C (A + (4 + 5 * t + 3))) (C (A + (4 + 5 * t + 4))))) ∧ (j ≤ t → F6 t = N 6 t)
def I_X8_county (P : Prop) (R0 : Nat → Int32) (N : Nat → Nat → Int32) (A m : Nat) (sh ln i n : Int32) : Nat → Nat → ip_P := fun pc kk L st hp => P ∧ ∃ (j : Nat) (y x12 x13 x14 x15 : Int32) (F F4 F5 F6 : Nat → Int32) (l5 : Option Value) (l6 : Int32), j ≤ m ∧ 1 ≤ m ∧ m ≤ 4 ∧ rdF (N 3) A m F ∧ x13 = nI (sv (N 3 (A + 1)) (N 3 (A + 2))) ∧ x14 = nI (nt (N 3 (A + 3)) - 48) ∧ x15 = nI m ∧ y = nI j ∧ L = [some (.ref 0), some (.int sh), some (.int ln), some (.int i), some (.int n), l5, some (.int l6), some (.int y)] ∧ st = [] ∧ hp = hpM (va_up (va_up (va_up (upC R0 x12 x13 x14 x15) 5 x13) 6 x14) 7 x15) (va_up (va_up (va_up (va_up N 7 F) 4 F4) 5 F5) 6 F6) ∧ ((pc = 111 ∧ kk = 3 * (4 - j) + 2 ∧ cpR N (N 3) A m j j j F4 F5 F6) ∨ (pc = 136 ∧ kk = 3 * (4 - j) + 1 ∧ j < m ∧ cpR N (N 3) A m j (j + 1) j F4 F5 F6) ∨ (pc = 154 ∧ kk = 3 * (4 - j) ∧ j < m ∧ cpR N (N 3) A m j (j + 1) (j + 1) F4 F5 F6))
theorem p_X8_county : ip_Pf fl_X8 cn_X8 cs_X8_county (some .int) tc_X8_county 8 C_X8_county := by
  rintro _ _ K ⟨tc, S, G, R, N, sh, ln, i, n, rfl, rfl, hwf, hrel, hK⟩
  have h0 := relA_f 0 hrel
  have key : ∀ m, 1 ≤ m → m ≤ 4 → inI sh 4 → inI ln 3 → fo S (nt sh) ln.toInt i.toInt n.toInt = 0 → nt n = 4 + 5 * m → (∀ t, t < nt n → goP (N 3) (60 * nt sh + nt i) t) → ∀ x12 F F4 F5 F6 y, y = nI m → cpR N (N 3) (60 * nt sh + nt i) m m m m F4 F5 F6 → K (some (.int y)) (hpM (va_up (va_up (va_up (va_up (upC (va_up R 0 0) x12 (nI (sv (N 3 (60 * nt sh + nt i + 1)) (N 3 (60 * nt sh + nt i + 2)))) (nI (nt (N 3 (60 * nt sh + nt i + 3)) - 48)) (nI m)) 5 (nI (sv (N 3 (60 * nt sh + nt i + 1)) (N 3 (60 * nt sh + nt i + 2))))) 6 (nI (nt (N 3 (60 * nt sh + nt i + 3)) - 48))) 7 (nI m)) 24 0) (va_up (va_up (va_up (va_up N 7 F) 4 F4) 5 F5) 6 F6)) := by
    intro m hm1 hm4 hs4 hl hfz hnm hgo x12 F F4 F5 F6 y hy hcp
    subst hy
    have hk4 := (inI_nt hs4).1
    obtain ⟨z1, z2, z3, z4, z5⟩ := fo_zero hfz
    have han : nt i + nt n ≤ S (30 + nt sh) := by unfold nt at z5 ⊢; omega
    have hz := (hwf.2.1 (nt sh) hk4).2.2
    obtain ⟨-, ⟨q0, -⟩ | ⟨-, -, -, -, e3, -, -⟩⟩ := sh_at hrel.2.2.2.2 hwf.2.1 hk4
    · exact absurd q0 z1
    have eC : ∀ x, x < nt n → N 3 (60 * nt sh + nt i + x) = G (nt sh) (nt i + x) := fun x hx => by rw [Nat.add_assoc, e3 _ (by omega)]
    have hgo' : ∀ t, t < nt n → goP (G (nt sh)) (nt i) t := fun t ht => goP_cong (fun x hx => eC x (by omega)) (hgo t ht)
    have eq : q_county S G sh ln i n = (nI m, va_up (stl (va_up S 0 0) (G (nt sh)) (nt i) m m) 4 0) := by
      rw [q_county, if_neg (not_not_intro hs4), if_neg (not_not_intro hl), if_neg (not_not_intro hfz), if_pos (ff_good hgo' (by omega)), show (nt n - 4) / 5 = m by omega]
    rw [eq] at hK
    obtain ⟨s1, s2, s3⟩ := stl_123 (va_up S 0 0) (G (nt sh)) (nt i) m m hm4
    have so : ∀ j, j ≠ 1 → j ≠ 2 → j ≠ 3 → j < 40 → stl (va_up S 0 0) (G (nt sh)) (nt i) m m j = va_up S 0 0 j := fun j a b c d => stl_out _ _ _ _ m hm4 j a b c (Or.inl d)
    refine hK _ _ ⟨?_, h0.2.1, ⟨?_, ?_, ?_, h0.2.2.1.2.2.2.1, fun t ht => ?_⟩, ⟨rfl, h0.2.2.2.1.2⟩, relH_S h0.2.2.2.2 (fun j h1 h2 => ?_) (fun _ _ => rfl) rfl rfl rfl⟩
    · show (0 : Int32) = nI (va_up (stl (va_up S 0 0) (G (nt sh)) (nt i) m m) 4 0 0)
      rw [up_n 0 (by omega), so 0 (by omega) (by omega) (by omega) (by omega)]
      rfl
    · show nI (sv (N 3 (60 * nt sh + nt i + 1)) (N 3 (60 * nt sh + nt i + 2))) = nI (va_up (stl (va_up S 0 0) (G (nt sh)) (nt i) m m) 4 0 1)
      rw [up_n 1 (by omega), s1, eC 1 (by omega), eC 2 (by omega)]
    · show nI (nt (N 3 (60 * nt sh + nt i + 3)) - 48) = nI (va_up (stl (va_up S 0 0) (G (nt sh)) (nt i) m m) 4 0 2)
      rw [up_n 2 (by omega), s2, eC 3 (by omega)]
    · show nI m = nI (va_up (stl (va_up S 0 0) (G (nt sh)) (nt i) m m) 4 0 3)
      rw [up_n 3 (by omega), s3]
    · show F4 t = nI (va_up (stl (va_up S 0 0) (G (nt sh)) (nt i) m m) 4 0 (40 + t)) ∧ F5 t = nI (va_up (stl (va_up S 0 0) (G (nt sh)) (nt i) m m) 4 0 (50 + t)) ∧ F6 t = nI (va_up (stl (va_up S 0 0) (G (nt sh)) (nt i) m m) 4 0 (60 + t))
      rw [up_n (40 + t) (by omega), up_n (50 + t) (by omega), up_n (60 + t) (by omega)]
      obtain ⟨q1, q2⟩ := stl_man (va_up S 0 0) (G (nt sh)) (nt i) m ht m hm4
      obtain ⟨c1, c2, c3, c4, c5, c6⟩ := hcp t ht
      by_cases c : t < m
      · obtain ⟨a1, a2, a3⟩ := q1 c
        rw [a1, a2, a3, c1 c, c3 c, c5 c, eC _ (by omega), eC _ (by omega), eC _ (by omega), eC _ (by omega)]
        exact ⟨rfl, rfl, rfl⟩
      · obtain ⟨a1, a2, a3⟩ := q2 (by omega)
        obtain ⟨b1, b2, b3⟩ := h0.2.2.1.2.2.2.2 t ht
        rw [a1, a2, a3, c2 (by omega), c4 (by omega), c6 (by omega)]
        exact ⟨b1, b2, b3⟩
    · show va_up (stl (va_up S 0 0) (G (nt sh)) (nt i) m m) 4 0 j = _
      rw [up_n j (by omega), so j (by omega) (by omega) (by omega) (by omega)]
  have badR : inI sh 4 → inI ln 3 → fo S (nt sh) ln.toInt i.toInt n.toInt = 0 → ∀ t x12 x13 x14 x15 F, badT (N 3) (60 * nt sh + nt i) (nt n) t → K (some (.int (-100 - nI t))) (hpM (upC (va_up R 0 0) x12 x13 x14 x15) (va_up N 7 F)) := by
    intro hs4 hl hfz t x12 x13 x14 x15 F hb
    have hk4 := (inI_nt hs4).1
    obtain ⟨z1, z2, z3, z4, z5⟩ := fo_zero hfz
    have han : nt i + nt n ≤ S (30 + nt sh) := by unfold nt at z5 ⊢; omega
    have hz := (hwf.2.1 (nt sh) hk4).2.2
    obtain ⟨-, ⟨q0, -⟩ | ⟨-, -, -, -, e3, -, -⟩⟩ := sh_at hrel.2.2.2.2 hwf.2.1 hk4
    · exact absurd q0 z1
    have eC : ∀ x, x < nt n → N 3 (60 * nt sh + nt i + x) = G (nt sh) (nt i + x) := fun x hx => by rw [Nat.add_assoc, e3 _ (by omega)]
    have hb' : badT (G (nt sh)) (nt i) (nt n) t := by
      obtain ⟨b1, b2, b3⟩ := hb
      refine ⟨b1, fun j hj => goP_cong (fun x hx => eC x (by omega)) (b2 j hj), ?_⟩
      rcases b3 with b3 | ⟨b3, b4⟩
      · exact Or.inl b3
      · exact Or.inr ⟨b3, fun z => b4 (goP_cong (fun x hx => (eC x (by omega)).symm) z)⟩
    have ht60 : t ≤ 60 := by have := hb.1; omega
    rw [q_county, if_neg (not_not_intro hs4), if_neg (not_not_intro hl), if_neg (not_not_intro hfz), if_neg (by rw [ff_bad hb']; exact nI_m1 (by omega)), ff_bad hb'] at hK
    exact hK _ _ h0
  refine ⟨Nat.le_of_ble_eq_true rfl, I_X8_county (inI sh 4 ∧ inI ln 3 ∧ fo S (nt sh) ln.toInt i.toInt n.toInt = 0 ∧ ∃ m, nt n = 4 + 5 * m ∧ (∀ t, t < nt n → goP (N 3) (60 * nt sh + nt i) t)) (va_up R 0 0) N (60 * nt sh + nt i) ((nt n - 4) / 5) sh ln i n, ?_, ?_⟩
  · have k1 : ¬ inI sh 4 → K (some (.int (-1))) (hpM (va_up R 0 0) N) := fun h => by rw [q_county, if_pos h] at hK; exact hK _ N h0
    have k2 : inI sh 4 → ¬ inI ln 3 → K (some (.int (-2))) (hpM (va_up R 0 0) N) := fun h h2 => by rw [q_county, if_neg (not_not_intro h), if_pos h2] at hK; exact hK _ N h0
    have k3 : inI sh 4 → inI ln 3 → fo S (nt sh) ln.toInt i.toInt n.toInt ≠ 0 → K (some (.int (-10 - nI (fo S (nt sh) ln.toInt i.toInt n.toInt)))) (hpM (va_up (va_up R 0 0) 0 (nI (fo S (nt sh) ln.toInt i.toInt n.toInt))) N) := fun h h2 h3 => by rw [q_county, if_neg (not_not_intro h), if_neg (not_not_intro h2), if_pos h3] at hK; exact hK _ N (relA_0 h0)
    clear hK key
    refine Exists.intro sh ⟨rfl, fun b hb => ?_⟩
    refine ip_bn (fun h => ?_) (fun h => ?_)
    rotate_left
    · exact k1 (fun z => by rw [hb.mpr z] at h; cases h)
    have hs4 : inI sh 4 := hb.mp h
    change ip_wp _ _ _ _ _ _ _ _ _ _ _ _ [] _
    refine Exists.intro ln ⟨rfl, fun b2 hb2 => ?_⟩
    refine ip_bn (fun h2 => ?_) (fun h2 => ?_)
    rotate_left
    · exact k2 hs4 (fun z => by rw [hb2.mpr z] at h2; cases h2)
    have hl : inI ln 3 := hb2.mp h2
    have k3 := k3 hs4 hl
    have badR := badR hs4 hl
    clear k1 k2
    obtain ⟨k, hk, rfl, ek⟩ := ti_of hs4.1
    have hk4 : k < 4 := by have := hs4.2; omega
    rw [nt_n hk] at k3 badR ⊢
    have ef : fo (va_up S 0 0) k ln.toInt i.toInt n.toInt = fo S k ln.toInt i.toInt n.toInt := fo_0 S 0 k _ _ _
    have hf4 := fo_le S k ln.toInt i.toInt n.toInt
    change ip_wp _ _ _ _ _ _ _ _ _ _ _ _ [] _
    refine Exists.intro (va_up S 0 0) ⟨G, va_up R 0 0, N, k, ln, i, n, hk4, rfl, rfl, wfH_0 hwf.2.1 0, h0.2.2.2.2, ?_⟩
    rw [ef]
    refine pk_eq (fo S k ln.toInt i.toInt n.toInt) 0 (fun h4 => ?_) (fun h4 => ?_)
    rotate_left
    · exact Exists.intro (va_up R 0 0) ⟨N, _, rfl, rfl, k3 h4⟩
    have badR := badR h4
    obtain ⟨z1, z2, z3, z4, z5⟩ := fo_zero h4
    have hz := (hwf.2.1 k hk4).2.2
    have han : nt i + nt n ≤ 60 := by unfold nt; omega
    have ei : i = nI (nt i) := by
      obtain ⟨a, ha, rfl, ea⟩ := ti_of z4
      rw [nt_n ha]
    have en : n = nI (nt n) := by
      obtain ⟨a, ha, rfl, ea⟩ := ti_of z3
      rw [nt_n ha]
    have eA : 60 * nI k + i = nI (60 * k + nt i) := by rw [ei, cel_i, ← ei]
    have eE : 60 * nI k + i + n = nI (60 * k + nt i + nt n) := by rw [eA, en, nI_add, ← en]
    refine Exists.intro (va_up (va_up R 0 0) 12 (60 * nI k + i)) ⟨N, 60 * k + nt i, nt n, by omega, (by show [Value.ref 0, Value.int (60 * nI k + i + n)] = _; rw [eE]), rfl, eA, fun t x12 x13 x14 x15 F hb hx => ?_, fun m F hm1 hm4 hnm hgo hF => ?_⟩
    · refine And.intro (fun z => absurd rfl z) (fun _ => ?_)
      have e5 : x12 - (60 * nI k + i) = nI t := by
        rw [hx, eA, pk_sub (by omega)]
        congr 1
        omega
      have := badR t x12 x13 x14 x15 F hb
      rw [← e5] at this
      exact this
    · refine And.intro (fun _ => ?_) (fun z => absurd z (by decide))
      have em : (nt n - 4) / 5 = m := by omega
      rw [em]
      exact Exists.intro (3 * (4 - 0) + 2) ⟨trivial, ⟨hs4, hl, h4, m, hnm, hgo⟩, 0, _, nI (60 * k + nt i + nt n), _, _, _, F, N 4, N 5, N 6, _, _, by omega, hm1, hm4, hF, rfl, rfl, rfl, rfl, rfl, rfl, (by
        show _ = hpM _ (va_up (va_up (va_up (va_up N 7 F) 4 (va_up N 7 F 4)) 5 (va_up (va_up N 7 F) 4 (va_up N 7 F 4) 5)) 6 (N 6))
        rw [up_same (va_up N 7 F) 4]
        rw [up_same (va_up N 7 F) 5]
        rw [show N 6 = va_up N 7 F 6 from rfl, up_same (va_up N 7 F) 6]
        rfl), Or.inl ⟨rfl, rfl, fun t ht => ⟨fun q => absurd q (by omega), fun _ => rfl, fun q => absurd q (by omega), fun _ => rfl, fun q => absurd q (by omega), fun _ => rfl⟩⟩⟩
  · rintro pc kk L st hp ⟨⟨hs4, hl, hfz, m0, hnm, hgo⟩, j, y, x12, x13, x14, x15, F, F4, F5, F6, l5, l6, hjm, hm1, hm4, hF, e13, e14, e15, hy, rfl, rfl, rfl, hpc⟩
    have em : (nt n - 4) / 5 = m0 := by omega
    rw [em] at hjm hm1 hm4 hF e15 hpc ⊢
    have hP : inI sh 4 ∧ inI ln 3 ∧ fo S (nt sh) ln.toInt i.toInt n.toInt = 0 ∧ ∃ m, nt n = 4 + 5 * m ∧ (∀ t, t < nt n → goP (N 3) (60 * nt sh + nt i) t) := ⟨hs4, hl, hfz, m0, hnm, hgo⟩
    have key := key m0 hm1 hm4 hs4 hl hfz hnm hgo
    clear hK badR
    generalize 60 * nt sh + nt i = A at *
    have vj : j < 4 → vp_in y 4 ∧ y.toNatClampNeg = j := fun h => by rw [hy]; exact ⟨pk_in j 4 h, nI_clamp (n := j) (by omega)⟩
    have e3j : 3 * y = nI (3 * j) := by rw [hy, show (3 : Int32) = nI 3 from rfl, pk_mul]
    have vR : ∀ (x : Int32) (d : Nat), d < 3 → j < 4 → x = nI (3 * j + d) → vp_in x 12 ∧ x.toNatClampNeg = 3 * j + d := fun x d hd hj hx => by rw [hx]; exact ⟨pk_in (3 * j + d) 12 (by omega), nI_clamp (by omega)⟩
    rcases hpc with ⟨rfl, rfl, hcp⟩ | ⟨rfl, rfl, hjl, hcp⟩ | ⟨rfl, rfl, hjl, hcp⟩
    · have b1 : ∀ {X Y : Prop}, (m0 ≤ j → X) → (j < m0 → Y) → (x15 ≤ y → X) ∧ (¬ x15 ≤ y → Y) := fun f g => by rw [e15, hy]; exact pk_le m0 j f g
      refine b1 (fun h => ?_) (fun h => ?_)
      · obtain rfl : j = m0 := by omega
        have := key x12 F F4 F5 F6 x15 e15 hcp
        rw [← e13, ← e14, ← e15] at this
        exact this
      · obtain ⟨v4, c4⟩ := vj (by omega)
        obtain ⟨v12, c12⟩ := vR (3 * y) 0 (by omega) (by omega) (by rw [e3j]; rfl)
        refine And.intro v12 ?_
        refine And.intro v4 ?_
        refine Exists.intro (3 * (4 - j) + 1) ⟨by show _ < _; omega, hP, j, y, x12, x13, x14, x15, F, upd F4 y.toNatClampNeg (F (3 * y).toNatClampNeg), F5, F6, l5, l6, hjm, hm1, hm4, hF, e13, e14, e15, hy, rfl, rfl, rfl, Or.inr (Or.inl ⟨rfl, rfl, h, fun t ht => ?_⟩)⟩
        obtain ⟨a1, a2, a3, a4, a5, a6⟩ := hcp t ht
        rw [c4, c12]
        refine ⟨fun q => ?_, fun q => ?_, a3, a4, a5, a6⟩
        · by_cases e : t = j
          · subst e; rw [pk_us]; exact (hF t h).1
          · rw [pk_un e]; exact a1 (by omega)
        · rw [pk_un (by omega)]; exact a2 (by omega)
    · obtain ⟨v4, c4⟩ := vj (by omega)
      obtain ⟨v12, c12⟩ := vR (3 * y + 1) 1 (by omega) (by omega) (by rw [e3j]; exact nI_1 (3 * j))
      refine And.intro v12 ?_
      refine And.intro v4 ?_
      refine Exists.intro (3 * (4 - j)) ⟨by show _ < _; omega, hP, j, y, x12, x13, x14, x15, F, F4, upd F5 y.toNatClampNeg (F (3 * y + 1).toNatClampNeg), F6, l5, l6, hjm, hm1, hm4, hF, e13, e14, e15, hy, rfl, rfl, rfl, Or.inr (Or.inr ⟨rfl, rfl, hjl, fun t ht => ?_⟩)⟩
      obtain ⟨a1, a2, a3, a4, a5, a6⟩ := hcp t ht
      rw [c4, c12]
      refine ⟨a1, a2, fun q => ?_, fun q => ?_, a5, a6⟩
      · by_cases e : t = j
        · subst e; rw [pk_us]; exact (hF t hjl).2.1
        · rw [pk_un e]; exact a3 (by omega)
      · rw [pk_un (by omega)]; exact a4 (by omega)
    · obtain ⟨v4, c4⟩ := vj (by omega)
      obtain ⟨v12, c12⟩ := vR (3 * y + 2) 2 (by omega) (by omega) (by rw [e3j]; exact nI_add (3 * j) 2)
      refine And.intro v12 ?_
      refine And.intro v4 ?_
      refine Exists.intro (3 * (4 - (j + 1)) + 2) ⟨by show _ < _; omega, hP, j + 1, y + 1, x12, x13, x14, x15, F, F4, F5, upd F6 y.toNatClampNeg (F (3 * y + 2).toNatClampNeg), l5, l6, by omega, hm1, hm4, hF, e13, e14, e15, (by rw [hy]; exact nI_1 j), rfl, rfl, rfl, Or.inl ⟨rfl, rfl, fun t ht => ?_⟩⟩
      obtain ⟨a1, a2, a3, a4, a5, a6⟩ := hcp t ht
      rw [c4, c12]
      refine ⟨a1, a2, a3, a4, fun q => ?_, fun q => ?_⟩
      · by_cases e : t = j
        · subst e; rw [pk_us]; exact (hF t hjl).2.2
        · rw [pk_un e]; exact a5 (by omega)
      · rw [pk_un (by omega)]; exact a6 (by omega)
set_option maxRecDepth 100000 in
set_option maxHeartbeats 4000000 in
theorem m_X8_county (l : Launch) : ip_Met l yX8_county cX8_county 8 (some .int) (ip_rm 5) C_X8_county := ip_met tc_X8_county 400 (by decide +kernel) fl_X8_ok cn_X8_ok (ip_cs1 (ip_gsS (m_X8_isSheet l) (ip_in [713, 714, 39, 715] (by decide +kernel) (by decide +kernel)) ⟨by decide +kernel, by decide +kernel, by decide +kernel⟩ ⟨rfl, rfl, Nat.le_of_ble_eq_true rfl, Nat.le_of_ble_eq_true rfl⟩) (ip_cs1 (ip_gsS (m_X8_isSort l) (ip_in [719, 720, 39, 721] (by decide +kernel) (by decide +kernel)) ⟨by decide +kernel, by decide +kernel, by decide +kernel⟩ ⟨rfl, rfl, Nat.le_of_ble_eq_true rfl, Nat.le_of_ble_eq_true rfl⟩) (ip_cs1 (ip_gsV (m_X8_against l) (ip_in [722, 724, 9, 39, 725] (by decide +kernel) (by decide +kernel)) rfl ⟨by decide +kernel, by decide +kernel, by decide +kernel⟩ ⟨rfl, rfl, Nat.le_of_ble_eq_true rfl, Nat.le_of_ble_eq_true rfl⟩) (ip_cs1 (ip_gsV (m_X8_fails l) (ip_in [726, 728, 10, 39, 729] (by decide +kernel) (by decide +kernel)) rfl ⟨by decide +kernel, by decide +kernel, by decide +kernel⟩ ⟨rfl, rfl, Nat.le_of_ble_eq_true rfl, Nat.le_of_ble_eq_true rfl⟩) (ip_cs1 (ip_gsV (m_X8_readCounty l) (ip_in [730, 732, 11, 39, 733] (by decide +kernel) (by decide +kernel)) rfl ⟨by decide +kernel, by decide +kernel, by decide +kernel⟩ ⟨rfl, rfl, Nat.le_of_ble_eq_true rfl, Nat.le_of_ble_eq_true rfl⟩) (ip_cs0)))))) cj_X8_county rfl p_X8_county
