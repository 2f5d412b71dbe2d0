/-! ===== the reference: storms that are told ===== -/
def lsR (S : Nat → Nat) (G : Nat → Nat → Int32) (k : Nat) (ln i n : Int32) : Int32 × Nat := if fo S k ln.toInt i.toInt (2 * n.toInt) ≠ 0 then (-10 - nI (fo S k ln.toInt i.toInt (2 * n.toInt)), fo S k ln.toInt i.toInt (2 * n.toInt)) else if S 2 = 0 then (-3, 0) else (pairR S G k (nt i) (nt n), 0)
def layT (S : Nat → Nat) (G : Nat → Nat → Int32) (R : Nat → Int32) (N : Nat → Nat → Int32) (k a n : Nat) : Prop := R 17 = nI n ∧ n ≤ 20 ∧ ∀ t, t < n → N 8 t = G k (a + 2 * t) ∧ N 9 t = G k (a + 2 * t + 1)
theorem lay_ok {S : Nat → Nat} {G : Nat → Nat → Int32} {R : Nat → Int32} {N : Nat → Nat → Int32} {k a n : Nat} (w2 : S 2 ≤ 6) (h : layT S G R N k a n) (hs : stormOk S G k a n) (S' : Nat → Nat) : wfT' S' R N n ∧ ∀ t, t < n → pN (N 8) t = spP G k a t ∧ stM S' N t = stP S' G k a t := by
  obtain ⟨h1, h2, h3⟩ := h
  obtain ⟨-, -, -, -, hp⟩ := hs
  have key : ∀ t, t < n → pN (N 8) t = nt (G k (a + 2 * t)) ∧ pN (N 9) t = nt (G k (a + 2 * t + 1)) := fun t ht => by
    unfold pN
    rw [(h3 t ht).1, (h3 t ht).2]
    exact ⟨rfl, rfl⟩
  refine ⟨⟨h1, h2, fun t ht => ?_⟩, fun t ht => ⟨(key t ht).1, ?_⟩⟩
  · obtain ⟨q1, q2⟩ := hp t ht
    obtain ⟨k1, k2⟩ := key t ht
    obtain ⟨l1, m1⟩ := inI_nt q1
    obtain ⟨l2, m2⟩ := inI_nt q2
    rw [k1, k2, (h3 t ht).1, (h3 t ht).2]
    exact ⟨m1, by omega, m2, l2⟩
  · unfold stM stP
    rw [(key t ht).1, (key t ht).2]
theorem uu0 (S : Nat → Nat) (x y : Nat) : va_up (va_up S 0 x) 0 y = va_up S 0 y := bx_uu S 0 x y
theorem relM_0 {S : Nat → Nat} {R : Nat → Int32} {N : Nat → Nat → Int32} {sl x : Nat} (h : relM (va_up S 0 x) R N sl) : relM S R N sl := relM_S h rfl rfl rfl (fun i hi => (up0 S x (by omega)).symm)
def C_X8_layStorm : ip_C := fun vs hp K => ∃ tc S G R N, ∃ (k : Nat) (ln i n : Int32), k < 4 ∧ 0 ≤ n.toInt ∧ n.toInt ≤ 20 ∧ vs = [.ref 0, .int (nI k), .int ln, .int i, .int n] ∧ hp = hpM R N ∧ wfC S G ∧ relA tc (va_up S 0 0) G R N ∧
  ((lsR S G k ln i n).1 ≠ 0 → ∀ R' N', relA tc (va_up S 0 (lsR S G k ln i n).2) G R' N' → K (some (.int (lsR S G k ln i n).1)) (hpM R' N')) ∧
  (lsR S G k ln i n = (0, 0) → stormOk S G k (nt i) (nt n) → ∀ R' N', relA tc (va_up S 0 0) G R' N' → layT S G R' N' k (nt i) (nt n) → K (some (.int 0)) (hpM R' N'))
def tc_X8_layStorm : List ip_I := (0, .aload_n 0, 1, false, 0, 0) :: (1, .iload_n 1, 1, false, 0, 0) :: (2, .iload_n 2, 1, false, 0, 0) :: (3, .iload_n 3, 1, false, 0, 0) :: (4, .iconst 2, 1, false, 2, 0) :: (5, .iload 4, 2, false, 0, 0) :: (7, .imul, 1, false, 0, 0) :: (8, .invokevirtual 89, 3, false, 0, 0) :: (11, .istore 5, 2, false, 0, 0) :: (13, .iload 5, 2, false, 0, 0) :: (15, .ifCond .eq 10, 3, false, 0, 25) :: (18, .aload_n 0, 1, false, 0, 0) :: (19, .iload 5, 2, false, 0, 0) :: (21, .invokevirtual 93, 3, false, 0, 0) :: (24, .ireturn, 1, false, 0, 0) :: (25, .aload_n 0, 1, false, 0, 0) :: (26, .getfield 69, 3, false, 0, 0) :: (29, .ifCond .ne 6, 3, false, 0, 35) :: (32, .bipush (-3), 2, false, (-3), 0) :: (34, .ireturn, 1, false, 0, 0) :: (35, .bipush 60, 2, false, 60, 0) :: (37, .iload_n 1, 1, false, 0, 0) :: (38, .imul, 1, false, 0, 0) :: (39, .iload_n 3, 1, false, 0, 0) :: (40, .iadd, 1, false, 0, 0) :: (41, .istore 6, 2, false, 0, 0) :: (43, .iconst 0, 1, false, 0, 0) :: (44, .istore 7, 2, false, 0, 0) :: (46, .iload 7, 2, true, 0, 0) :: (48, .iload 4, 2, false, 0, 0) :: (50, .if_icmp .ge 93, 3, false, 0, 143) :: (53, .aload_n 0, 1, false, 0, 0) :: (54, .aload_n 0, 1, false, 0, 0) :: (55, .getfield 16, 3, false, 0, 0) :: (58, .iload 6, 2, false, 0, 0) :: (60, .iconst 2, 1, false, 2, 0) :: (61, .iload 7, 2, false, 0, 0) :: (63, .imul, 1, false, 0, 0) :: (64, .iadd, 1, false, 0, 0) :: (65, .iaload, 1, false, 0, 0) :: (66, .invokevirtual 131, 3, false, 0, 0) :: (69, .ifCond .ne 5, 3, false, 0, 74) :: (72, .iconst (-1), 1, false, (-1), 0) :: (73, .ireturn, 1, false, 0, 0) :: (74, .aload_n 0, 1, false, 0, 0) :: (75, .getfield 16, 3, false, 0, 0) :: (78, .iload 6, 2, false, 0, 0) :: (80, .iconst 2, 1, false, 2, 0) :: (81, .iload 7, 2, false, 0, 0) :: (83, .imul, 1, false, 0, 0) :: (84, .iadd, 1, false, 0, 0) :: (85, .iconst 1, 1, false, 1, 0) :: (86, .iadd, 1, false, 0, 0) :: (87, .iaload, 1, false, 0, 0) :: (88, .invokestatic 137, 3, false, 0, 0) :: (91, .ifCond .ne 6, 3, false, 0, 97) :: (94, .bipush (-2), 2, false, (-2), 0) :: (96, .ireturn, 1, false, 0, 0) :: (97, .aload_n 0, 1, true, 0, 0) :: (98, .getfield 31, 3, false, 0, 0) :: (101, .iload 7, 2, false, 0, 0) :: (103, .aload_n 0, 1, false, 0, 0) :: (104, .getfield 16, 3, false, 0, 0) :: (107, .iload 6, 2, false, 0, 0) :: (109, .iconst 2, 1, false, 2, 0) :: (110, .iload 7, 2, false, 0, 0) :: (112, .imul, 1, false, 0, 0) :: (113, .iadd, 1, false, 0, 0) :: (114, .iaload, 1, false, 0, 0) :: (115, .iastore, 1, false, 0, 0) :: (116, .aload_n 0, 1, false, 0, 0) :: (117, .getfield 34, 3, false, 0, 0) :: (120, .iload 7, 2, false, 0, 0) :: (122, .aload_n 0, 1, false, 0, 0) :: (123, .getfield 16, 3, false, 0, 0) :: (126, .iload 6, 2, false, 0, 0) :: (128, .iconst 2, 1, false, 2, 0) :: (129, .iload 7, 2, false, 0, 0) :: (131, .imul, 1, false, 0, 0) :: (132, .iadd, 1, false, 0, 0) :: (133, .iconst 1, 1, false, 1, 0) :: (134, .iadd, 1, false, 0, 0) :: (135, .iaload, 1, false, 0, 0) :: (136, .iastore, 1, false, 0, 0) :: (137, .iinc 7 1, 3, false, 1, 0) :: (140, .goto (-94), 3, false, 0, 46) :: (143, .aload_n 0, 1, false, 0, 0) :: (144, .iload 4, 2, false, 0, 0) :: (146, .putfield 153, 3, false, 0, 0) :: (149, .iconst 0, 1, false, 0, 0) :: (150, .ireturn, 1, false, 0, 0) :: []
set_option maxRecDepth 100000 in
theorem cj_X8_layStorm : ip_chk cX8_layStorm tc_X8_layStorm = true := by decide +kernel
def cs_X8_layStorm : List ip_G := [(89, 5, 8, C_X8_against), (93, 2, 8, C_X8_fails), (131, 2, 8, C_X8_isParish), (137, 1, 0, C_X8_isQuestion)]
def I_X8_layStorm (P : Prop) (R : Nat → Int32) (N : Nat → Nat → Int32) (S : Nat → Nat) (G : Nat → Nat → Int32) (k a n : Nat) (ln : Int32) : Nat → Nat → ip_P := fun pc kk L st hp => P ∧ ∃ (t : Nat) (x y l5 : Int32) (f g : Nat → Int32), t ≤ n ∧ L = [some (.ref 0), some (.int (nI k)), some (.int ln), some (.int (nI a)), some (.int (nI n)), some (.int l5), some (.int x), some (.int y)] ∧ st = [] ∧ hp = hpM R (va_up (va_up N 8 f) 9 g) ∧ x = nI (60 * k + a) ∧ y = nI t ∧ (∀ i, i < t → f i = G k (a + 2 * i) ∧ g i = G k (a + 2 * i + 1)) ∧ (∀ i, i < t → okp S G k a i = true ∧ okq G k a i = true) ∧ ((pc = 46 ∧ kk = 2 * (n - t) + 1) ∨ (pc = 97 ∧ kk = 2 * (n - t) ∧ t < n ∧ okp S G k a t = true ∧ okq G k a t = true))
theorem p_X8_layStorm : ip_Pf fl_X8 cn_X8 cs_X8_layStorm (some .int) tc_X8_layStorm 8 C_X8_layStorm := by
  rintro _ _ K ⟨tc, S, G, R, N, k, ln, i, n, hk, hn0, hn20, rfl, rfl, hwf, hrel, hK1, hK0⟩
  obtain ⟨m5, m6, m7, -⟩ := id hrel.2.2.1
  have w2 := hwf.1.2.1
  have w3 := hwf.1.2.2.1
  have w5 := hwf.2.2.2.2.1
  have e2 := t2n hn0 hn20
  refine ⟨Nat.le_of_ble_eq_true rfl, I_X8_layStorm (fo S k ln.toInt i.toInt (2 * n.toInt) = 0 ∧ S 2 ≠ 0) R N S G k (nt i) (nt n) ln, ?_, ?_⟩
  · have ef : fo (va_up S 0 0) k ln.toInt i.toInt (2 * n).toInt = fo S k ln.toInt i.toInt (2 * n.toInt) := by rw [fo_0, e2]
    have hf4 := fo_le S k ln.toInt i.toInt (2 * n.toInt)
    refine Exists.intro (va_up S 0 0) ⟨G, R, N, k, ln, i, 2 * n, hk, rfl, rfl, wfH_0 hwf.2.1 0, hrel.2.2.2.2, ?_⟩
    rw [ef]
    refine pk_eq (fo S k ln.toInt i.toInt (2 * n.toInt)) 0 (fun h => ?_) (fun h => ?_)
    · have b7 : ∀ {X Y : Prop}, (S 3 ≠ 0 → X) → (S 3 = 0 → Y) → (¬ R 7 = 0 → X) ∧ (R 7 = 0 → Y) := fun f g => by rw [m7]; exact pk_ne (S 3) 0 f g
      refine b7 (fun h2 => ?_) (fun h2 => ?_)
      · obtain ⟨z1, z2, z3, z4, z5⟩ := fo_zero h
        have hP : fo S k ln.toInt i.toInt (2 * n.toInt) = 0 ∧ S 2 ≠ 0 := ⟨h, fun q => h2 (w5.mp q)⟩
        obtain ⟨a, ha, rfl, ea⟩ := ti_of z4
        obtain ⟨m, hm, rfl, em⟩ := ti_of hn0
        rw [nt_n ha, nt_n hm]
        exact Exists.intro (2 * (m - 0) + 1) ⟨trivial, hP, 0, _, _, _, N 8, N 9, by omega, rfl, rfl, congrArg (hpM R) (by rw [up_same N 8]; exact (up_same N 9).symm), cel_i k a, rfl, fun i hi => absurd hi (by omega), fun i hi => absurd hi (by omega), Or.inl ⟨rfl, rfl⟩⟩
      · have e : lsR S G k ln i n = (-3, 0) := by rw [lsR, if_neg (not_not_intro h), if_pos (w5.mpr h2)]
        rw [e] at hK1
        exact hK1 (by decide) R N hrel
    · have e : lsR S G k ln i n = (-10 - nI (fo S k ln.toInt i.toInt (2 * n.toInt)), fo S k ln.toInt i.toInt (2 * n.toInt)) := by rw [lsR, if_pos h]
      rw [e] at hK1
      have hr2 := relA_f (fo S k ln.toInt i.toInt (2 * n.toInt)) hrel
      rw [uu0] at hr2
      refine Exists.intro R ⟨N, _, rfl, rfl, ?_⟩
      exact hK1 (neg10 ⟨_, Nat.lt_succ_of_le hf4⟩ h) _ N hr2
  · rintro pc kk L st hp ⟨⟨hfz, hS2⟩, t, x, y, l5, f, g, ht, rfl, rfl, rfl, hx, hy, hfg, hok, hpc⟩
    obtain ⟨z1, z2, z3, z4, z5⟩ := fo_zero hfz
    have hP : fo S k ln.toInt i.toInt (2 * n.toInt) = 0 ∧ S 2 ≠ 0 := ⟨hfz, hS2⟩
    have hls : lsR S G k ln i n = (pairR S G k (nt i) (nt n), 0) := by rw [lsR, if_neg (not_not_intro hfz), if_neg hS2]
    have han : nt i + 2 * nt n ≤ S (30 + k) := by unfold nt; omega
    have hn : nt n ≤ 20 := by unfold nt; omega
    have hnn : n = nI (nt n) := by
      obtain ⟨j, hj, rfl, ej⟩ := ti_of hn0
      rw [nt_n hj]
    rw [hls] at hK1 hK0
    generalize nt i = a at hK1 hK0 han hfg hok hpc hx ⊢
    generalize nt n = n' at hK1 hK0 han hn ht hnn hpc ⊢
    have hz := (hwf.2.1 k hk).2.2
    obtain ⟨hv, ⟨q0, -⟩ | ⟨-, -, -, -, e3, -, -⟩⟩ := sh_at hrel.2.2.2.2 (wfH_0 hwf.2.1 0) hk
    · exact absurd q0 (by rw [up0 S 0 (by omega)]; exact z1)
    rcases hpc with ⟨rfl, rfl⟩ | ⟨rfl, rfl, h, o1, o2⟩
    rotate_left
    · have e1 : x + 2 * y = nI (60 * k + (a + 2 * t)) := by rw [hx, hy, show (2 : Int32) = nI 2 from rfl, pk_mul, nI_add, Nat.add_assoc]
      have e2 : x + 2 * y + 1 = nI (60 * k + (a + 2 * t + 1)) := by rw [e1, nI_1]; rfl
      have v1 : vp_in (x + 2 * y) 240 := by rw [e1]; exact pk_in (60 * k + (a + 2 * t)) 240 (by omega)
      have v2 : vp_in (x + 2 * y + 1) 240 := by rw [e2]; exact pk_in (60 * k + (a + 2 * t + 1)) 240 (by omega)
      have p1 : N 3 (x + 2 * y).toNatClampNeg = G k (a + 2 * t) := by rw [e1, nI_clamp (by omega), e3 _ (by omega)]
      have p2 : N 3 (x + 2 * y + 1).toNatClampNeg = G k (a + 2 * t + 1) := by rw [e2, nI_clamp (by omega), e3 _ (by omega)]
      have hv20 : vp_in y 20 := by rw [hy]; exact pk_in t 20 (by omega)
      have hct : y.toNatClampNeg = t := by rw [hy]; exact nI_clamp (n := t) (by omega)
      refine And.intro v1 ?_
      refine And.intro hv20 ?_
      refine And.intro v2 ?_
      refine And.intro hv20 ?_
      refine Exists.intro (2 * (n' - (t + 1)) + 1) ⟨by show _ < _; omega, hP, t + 1, _, _, l5, upd f y.toNatClampNeg (N 3 (x + 2 * y).toNatClampNeg), upd g y.toNatClampNeg (N 3 (x + 2 * y + 1).toNatClampNeg), by omega, rfl, rfl, rfl, hx, by rw [hy]; exact nI_1 t, fun i hi => ?_, fun i hi => ?_, Or.inl ⟨rfl, rfl⟩⟩
      · rw [hct, p1, p2]
        rcases Nat.lt_or_ge i t with q | q
        · rw [pk_un (by omega), pk_un (by omega)]; exact hfg i q
        · obtain rfl : i = t := by omega
          rw [pk_us, pk_us]; exact ⟨rfl, rfl⟩
      · rcases Nat.lt_or_ge i t with q | q
        · exact hok i q
        · obtain rfl : i = t := by omega
          exact ⟨o1, o2⟩
    have b4 : ∀ {X Y : Prop}, (n' ≤ t → X) → (t < n' → Y) → (nI n' ≤ y → X) ∧ (¬ nI n' ≤ y → Y) := fun f g => by rw [hy]; exact pk_le n' t f g
    refine b4 (fun h => ?_) (fun h => ?_)
    · obtain rfl : t = n' := by omega
      have hpr : pairR S G k a t = 0 := by
        unfold pairR
        rw [lst_none (fun i hi => by rw [(hok i hi).1, (hok i hi).2]; rfl)]
      exact hK0 (by rw [hpr]) ⟨hk, hn, han, hS2, fun i hi => ⟨of_decide_eq_true (hok i hi).1, of_decide_eq_true (hok i hi).2⟩⟩ (va_up R 17 (nI t)) (va_up (va_up N 8 f) 9 g) hrel ⟨rfl, hn, hfg⟩
    have e1 : x + 2 * y = nI (60 * k + (a + 2 * t)) := by rw [hx, hy, show (2 : Int32) = nI 2 from rfl, pk_mul, nI_add, Nat.add_assoc]
    have e2 : x + 2 * y + 1 = nI (60 * k + (a + 2 * t + 1)) := by rw [e1, nI_1]; rfl
    have v1 : vp_in (x + 2 * y) 240 := by rw [e1]; exact pk_in (60 * k + (a + 2 * t)) 240 (by omega)
    have v2 : vp_in (x + 2 * y + 1) 240 := by rw [e2]; exact pk_in (60 * k + (a + 2 * t + 1)) 240 (by omega)
    have p1 : N 3 (x + 2 * y).toNatClampNeg = G k (a + 2 * t) := by rw [e1, nI_clamp (by omega), e3 _ (by omega)]
    have p2 : N 3 (x + 2 * y + 1).toNatClampNeg = G k (a + 2 * t + 1) := by rw [e2, nI_clamp (by omega), e3 _ (by omega)]
    have hv20 : vp_in y 20 := by rw [hy]; exact pk_in t 20 (by omega)
    have hct : y.toNatClampNeg = t := by rw [hy]; exact nI_clamp (n := t) (by omega)
    have bad : ∀ c : Int32, (okp S G k a t && okq G k a t) = false → (if okp S G k a t then (-2 : Int32) else -1) = c → ¬ c = 0 → K (some (.int c)) (hpM R (va_up (va_up N 8 f) 9 g)) := fun c h1 h2 h3 => by
      have e : pairR S G k a n' = c := by
        unfold pairR
        rw [lst_some (s := t) (by rw [h1]; rfl) (fun i hi => by rw [(hok i hi).1, (hok i hi).2]; rfl) h]
        exact h2
      have := hK1 (by rw [e]; exact h3) R (va_up (va_up N 8 f) 9 g) hrel
      rw [e] at this
      exact this
    clear hK1 hK0
    refine And.intro v1 ?_
    refine Exists.intro R ⟨va_up (va_up N 8 f) 9 g, _, S 2, rfl, rfl, m6, w2, fun b hb => ?_⟩
    have hb : b = true ↔ inI (G k (a + 2 * t)) (S 2) := by rw [← p1]; exact hb
    refine ip_bn (fun h1 => ?_) (fun h1 => ?_)
    · have o1 : okp S G k a t = true := decide_eq_true (hb.mp h1)
      change ip_wp _ _ _ _ _ _ _ _ _ _ _ _ [] _
      refine And.intro v2 ?_
      refine Exists.intro _ ⟨rfl, fun b2 hb2 => ?_⟩
      have hb2 : b2 = true ↔ inI (G k (a + 2 * t + 1)) 6 := by rw [← p2]; exact hb2
      refine ip_bn (fun h2 => ?_) (fun h2 => ?_)
      · have o2 : okq G k a t = true := decide_eq_true (hb2.mp h2)
        exact Exists.intro (2 * (n' - t)) ⟨by show _ < _; omega, hP, t, _, _, l5, f, g, by omega, rfl, rfl, rfl, hx, hy, hfg, hok, Or.inr ⟨rfl, rfl, h, o1, o2⟩⟩
      · have o2 : okq G k a t = false := decide_eq_false (fun z => by rw [hb2.mpr z] at h2; cases h2)
        exact bad (-2) (by rw [o1, o2]; rfl) (by rw [o1]; rfl) (by decide)
    · have o1 : okp S G k a t = false := decide_eq_false (fun z => by rw [hb.mpr z] at h1; cases h1)
      exact bad (-1) (by rw [o1]; rfl) (by rw [o1]; rfl) (by decide)
set_option maxRecDepth 100000 in
set_option maxHeartbeats 4000000 in
theorem m_X8_layStorm (l : Launch) : ip_Met l yX8_layStorm cX8_layStorm 8 (some .int) (ip_rm 2) C_X8_layStorm := ip_met tc_X8_layStorm 400 (by decide +kernel) fl_X8_ok cn_X8_ok (ip_cs1 (ip_gsV (m_X8_against l) (ip_in [722, 724, 9, 39, 725] (by decide +kernel) (by decide +kernel)) rfl ⟨by decide +kernel, by decide +kernel, by decide +kernel⟩ ⟨rfl, rfl, Nat.le_of_ble_eq_true rfl, Nat.le_of_ble_eq_true rfl⟩) (ip_cs1 (ip_gsV (m_X8_fails l) (ip_in [726, 728, 10, 39, 729] (by decide +kernel) (by decide +kernel)) rfl ⟨by decide +kernel, by decide +kernel, by decide +kernel⟩ ⟨rfl, rfl, Nat.le_of_ble_eq_true rfl, Nat.le_of_ble_eq_true rfl⟩) (ip_cs1 (ip_gsV (m_X8_isParish l) (ip_in [769, 771, 17, 39, 772] (by decide +kernel) (by decide +kernel)) rfl ⟨by decide +kernel, by decide +kernel, by decide +kernel⟩ ⟨rfl, rfl, Nat.le_of_ble_eq_true rfl, Nat.le_of_ble_eq_true rfl⟩) (ip_cs1 (ip_gsS (m_X8_isQuestion l) (ip_in [781, 782, 39, 783] (by decide +kernel) (by decide +kernel)) ⟨by decide +kernel, by decide +kernel, by decide +kernel⟩ ⟨rfl, rfl, Nat.le_of_ble_eq_true rfl, Nat.le_of_ble_eq_true rfl⟩) (ip_cs0))))) cj_X8_layStorm rfl p_X8_layStorm
/-- hsR out of lsR -/
theorem hs_1 {S : Nat → Nat} {G : Nat → Nat → Int32} {sh ln i n : Int32} {w : Bool} (h : ¬ inI sh 4) : hsR S G sh ln i n w = (-1, 0) := by rw [hsR, if_pos h]
theorem hs_2 {S : Nat → Nat} {G : Nat → Nat → Int32} {sh ln i n : Int32} {w : Bool} (h : inI sh 4) (h2 : ¬ inI ln 3 ∨ n.toInt < 0 ∨ 20 < n.toInt ∨ w = false) : hsR S G sh ln i n w = (-2, 0) := by rw [hsR, if_neg (not_not_intro h), if_pos h2]
theorem hs_ls {S : Nat → Nat} {G : Nat → Nat → Int32} {sh ln i n : Int32} (h : inI sh 4) (h2 : inI ln 3) (h3 : 0 ≤ n.toInt) (h4 : n.toInt ≤ 20) : hsR S G sh ln i n true = lsR S G (nt sh) ln i n := by
  rw [hsR, if_neg (not_not_intro h), if_neg (by rintro (z | z | z | z); exact z h2; omega; omega; cases z)]
  rfl
