/-! ===== the reference: storm ===== -/
def fsT (f : Nat → Bool) (t n : Nat) (x : Int32) : Prop := ((∀ i, t ≤ i → i < n → f i = false) ∧ x = -9) ∨ ∃ i, t ≤ i ∧ i < n ∧ f i = true ∧ (∀ j, t ≤ j → j < i → f j = false) ∧ x = nI i
theorem fsT_0 {f : Nat → Bool} {n : Nat} {x : Int32} (h : fsT f 0 n x) : x = ob (lst f n) := by
  rcases h with ⟨h1, rfl⟩ | ⟨i, -, h2, h3, h4, rfl⟩
  · rw [lst_none (fun i hi => h1 i (Nat.zero_le _) hi)]; rfl
  · rw [lst_some h3 (fun j hj => h4 j (Nat.zero_le _) hj) h2]; rfl
theorem fsT_n (f : Nat → Bool) (n : Nat) : fsT f n n (-9) := Or.inl ⟨fun i h1 h2 => absurd h2 (by omega), rfl⟩
theorem fsT_no {f : Nat → Bool} {t n : Nat} {x : Int32} (h : fsT f (t + 1) n x) (hf : f t = false) : fsT f t n x := by
  rcases h with ⟨h1, rfl⟩ | ⟨i, h0, h2, h3, h4, rfl⟩
  · exact Or.inl ⟨fun i a b => by
      by_cases e : i = t
      · rw [e]; exact hf
      · exact h1 i (by omega) b, rfl⟩
  · exact Or.inr ⟨i, by omega, h2, h3, fun j a b => by
      by_cases e : j = t
      · rw [e]; exact hf
      · exact h4 j (by omega) b, rfl⟩
theorem fsT_yes {f : Nat → Bool} {t n : Nat} (ht : t < n) (hf : f t = true) : fsT f t n (nI t) := Or.inr ⟨t, by omega, ht, hf, fun j a b => absurd b (by omega), rfl⟩
def ssT (f : Nat → Bool) (sp : Nat → Nat) (t n : Nat) (x : Int32) : Prop := ∃ B : Nat → Bool, x = nI (bs 6 B) ∧ ∀ p, p < 6 → (B p = true ↔ ∃ i, t ≤ i ∧ i < n ∧ f i = true ∧ sp i = p)
theorem ssT_0 {f : Nat → Bool} {sp : Nat → Nat} {n : Nat} {x : Int32} (h : ssT f sp 0 n x) : x = nI (bs 6 (fun p => anyb n (fun t => f t && sp t == p))) := by
  obtain ⟨B, rfl, hB⟩ := h
  congr 1
  refine bs_cong (fun p hp => ?_)
  rw [Bool.eq_iff_iff, hB p hp, anyb_iff]
  constructor
  · rintro ⟨i, -, h2, h3, h4⟩; exact ⟨i, h2, by simp [h3, h4]⟩
  · rintro ⟨i, h2, h3⟩
    simp at h3
    exact ⟨i, Nat.zero_le _, h2, h3.1, h3.2⟩
theorem ssT_n (f : Nat → Bool) (sp : Nat → Nat) (n : Nat) : ssT f sp n n 0 := ⟨fun _ => false, by decide +kernel, fun p _ => ⟨fun z => (by cases z), fun ⟨i, a, b, _⟩ => absurd b (by omega)⟩⟩
theorem ssT_no {f : Nat → Bool} {sp : Nat → Nat} {t n : Nat} {x : Int32} (h : ssT f sp (t + 1) n x) (hf : f t = false) : ssT f sp t n (x ||| 0) := by
  obtain ⟨B, rfl, hB⟩ := h
  refine ⟨B, by rw [show (0 : Int32) = nI 0 from rfl, fa_or, Nat.or_zero], fun p hp => ?_⟩
  rw [hB p hp]
  constructor
  · rintro ⟨i, a, b⟩; exact ⟨i, by omega, b⟩
  · rintro ⟨i, a, b, c, d⟩
    refine ⟨i, ?_, b, c, d⟩
    by_cases e : i = t
    · rw [e, hf] at c; cases c
    · omega
theorem ssT_yes {f : Nat → Bool} {sp : Nat → Nat} {t n : Nat} {x : Int32} (h : ssT f sp (t + 1) n x) (ht : t < n) (hf : f t = true) (hs : sp t < 6) : ssT f sp t n (x ||| ((1 : Int32) <<< (nI (sp t) &&& 31))) := by
  obtain ⟨B, rfl, hB⟩ := h
  have e := sh1 ⟨sp t, by omega⟩
  simp only at e
  refine ⟨fun p => B p || p == sp t, by rw [e, fa_or, bs_or_one hs], fun p hp => ?_⟩
  rw [Bool.or_eq_true, hB p hp]
  constructor
  · rintro (⟨i, a, b⟩ | h)
    · exact ⟨i, by omega, b⟩
    · exact ⟨t, by omega, ht, hf, (by simpa using h : p = sp t).symm⟩
  · rintro ⟨i, a, b, c, d⟩
    by_cases e : i = t
    · subst e; right; simp [d]
    · left; exact ⟨i, by omega, b, c, d⟩
def C_X8_storm : ip_C := fun vs hp K => ∃ tc S G R N, ∃ (sh ln i n w : Int32), vs = [.ref 0, .int sh, .int ln, .int i, .int n, .int w] ∧ hp = hpM R N ∧ wfC S G ∧ relA tc S G R N ∧ ∀ R' N', relA tc (va_up S 0 (q_storm S G sh ln i n w).2) G R' N' → K (some (.int (q_storm S G sh ln i n w).1)) (hpM R' N')
def tc_X8_storm : List ip_I := (0, .aload_n 0, 1, false, 0, 0) :: (1, .iconst 0, 1, false, 0, 0) :: (2, .putfield 59, 3, false, 0, 0) :: (5, .iload_n 1, 1, false, 0, 0) :: (6, .invokestatic 82, 3, false, 0, 0) :: (9, .ifCond .ne 5, 3, false, 0, 14) :: (12, .iconst (-1), 1, false, (-1), 0) :: (13, .ireturn, 1, false, 0, 0) :: (14, .iload_n 2, 1, false, 0, 0) :: (15, .iload 4, 2, false, 0, 0) :: (17, .invokestatic 156, 3, false, 0, 0) :: (20, .ifCond .eq 13, 3, false, 0, 33) :: (23, .iload 5, 2, false, 0, 0) :: (25, .iconst 0, 1, false, 0, 0) :: (26, .iconst 2, 1, false, 2, 0) :: (27, .invokestatic 65, 3, false, 0, 0) :: (30, .ifCond .ne 6, 3, false, 0, 36) :: (33, .bipush (-2), 2, false, (-2), 0) :: (35, .ireturn, 1, false, 0, 0) :: (36, .aload_n 0, 1, false, 0, 0) :: (37, .iload_n 1, 1, false, 0, 0) :: (38, .iload_n 2, 1, false, 0, 0) :: (39, .iload_n 3, 1, false, 0, 0) :: (40, .iload 4, 2, false, 0, 0) :: (42, .invokevirtual 159, 3, false, 0, 0) :: (45, .istore 6, 2, false, 0, 0) :: (47, .iload 6, 2, false, 0, 0) :: (49, .ifCond .eq 6, 3, false, 0, 55) :: (52, .iload 6, 2, false, 0, 0) :: (54, .ireturn, 1, false, 0, 0) :: (55, .bipush (-9), 2, false, (-9), 0) :: (57, .istore 7, 2, false, 0, 0) :: (59, .iconst 0, 1, false, 0, 0) :: (60, .istore 8, 2, false, 0, 0) :: (62, .aload_n 0, 1, false, 0, 0) :: (63, .getfield 153, 3, false, 0, 0) :: (66, .iconst 1, 1, false, 1, 0) :: (67, .isub, 1, false, 0, 0) :: (68, .istore 9, 2, false, 0, 0) :: (70, .iload 9, 2, true, 0, 0) :: (72, .ifCond .lt 66, 3, false, 0, 138) :: (75, .aload_n 0, 1, false, 0, 0) :: (76, .aload_n 0, 1, false, 0, 0) :: (77, .getfield 31, 3, false, 0, 0) :: (80, .iload 9, 2, false, 0, 0) :: (82, .iaload, 1, false, 0, 0) :: (83, .aload_n 0, 1, false, 0, 0) :: (84, .getfield 34, 3, false, 0, 0) :: (87, .iload 9, 2, false, 0, 0) :: (89, .iaload, 1, false, 0, 0) :: (90, .invokevirtual 147, 3, false, 0, 0) :: (93, .istore 10, 2, false, 0, 0) :: (95, .iload 10, 2, false, 0, 0) :: (97, .ifCond .eq 8, 3, false, 0, 105) :: (100, .iload 7, 2, false, 0, 0) :: (102, .goto 5, 3, false, 0, 107) :: (105, .iload 9, 2, false, 0, 0) :: (107, .istore 7, 2, false, 0, 0) :: (109, .iload 8, 2, false, 0, 0) :: (111, .iload 10, 2, false, 0, 0) :: (113, .ifCond .eq 7, 3, false, 0, 120) :: (116, .iconst 0, 1, false, 0, 0) :: (117, .goto 12, 3, false, 0, 129) :: (120, .iconst 1, 1, false, 1, 0) :: (121, .aload_n 0, 1, false, 0, 0) :: (122, .getfield 31, 3, false, 0, 0) :: (125, .iload 9, 2, false, 0, 0) :: (127, .iaload, 1, false, 0, 0) :: (128, .ishl, 1, false, 0, 0) :: (129, .ior, 1, false, 0, 0) :: (130, .istore 8, 2, false, 0, 0) :: (132, .iinc 9 (-1), 3, false, (-1), 0) :: (135, .goto (-65), 3, false, 0, 70) :: (138, .iload 5, 2, false, 0, 0) :: (140, .ifCond .ne 10, 3, false, 0, 150) :: (143, .aload_n 0, 1, false, 0, 0) :: (144, .invokevirtual 162, 3, false, 0, 0) :: (147, .goto 16, 3, false, 0, 163) :: (150, .iload 5, 2, false, 0, 0) :: (152, .iconst 1, 1, false, 1, 0) :: (153, .if_icmp .ne 8, 3, false, 0, 161) :: (156, .iload 7, 2, false, 0, 0) :: (158, .goto 5, 3, false, 0, 163) :: (161, .iload 8, 2, false, 0, 0) :: (163, .ireturn, 1, false, 0, 0) :: []
set_option maxRecDepth 100000 in
theorem cj_X8_storm : ip_chk cX8_storm tc_X8_storm = true := by decide +kernel
def cs_X8_storm : List ip_G := [(82, 1, 0, C_X8_isSheet), (156, 2, 0, C_X8_isRow), (65, 3, 0, C_X8_within), (159, 5, 8, C_X8_layStorm), (147, 3, 8, C_X8_isHeld), (162, 1, 8, C_X8_strikesNow)]
def I_X8_storm (P : Prop) (tc : Int32) (S : Nat → Nat) (G : Nat → Nat → Int32) (k a n : Nat) (sh ln i ni w : Int32) : Nat → Nat → ip_P := fun pc kk L st hp => pc = 70 ∧ P ∧ ∃ (R N : _) (t : Nat) (x y z l6 : Int32) (l10 : Option Value), relA tc (va_up S 0 0) G R N ∧ layT S G R N k a n ∧ t ≤ n ∧ t = kk ∧ L = [some (.ref 0), some (.int sh), some (.int ln), some (.int i), some (.int ni), some (.int w), some (.int l6), some (.int x), some (.int y), some (.int z), l10] ∧ st = [] ∧ hp = hpM R N ∧ fsT (stP S G k a) t n x ∧ ssT (stP S G k a) (spP G k a) t n y ∧ z = nI t - 1
theorem p_X8_storm : ip_Pf fl_X8 cn_X8 cs_X8_storm (some .int) tc_X8_storm 11 C_X8_storm := by
  rintro _ _ K ⟨tc, S, G, R, N, sh, ln, i, n, w, rfl, rfl, hwf, hrel, hK⟩
  have h0 := relA_f 0 hrel
  have w2 := hwf.1.2.1
  refine ⟨Nat.le_of_ble_eq_true rfl, I_X8_storm ((0 ≤ w.toInt ∧ w.toInt ≤ 2) ∧ hsR S G sh ln i n true = (0, 0) ∧ stormOk S G (nt sh) (nt i) (nt n)) tc S G (nt sh) (nt i) (nt n) sh ln i n w, ?_, ?_⟩
  · have bad : ∀ c : Int32 × Nat, hsR S G sh ln i n (decide (0 ≤ w.toInt ∧ w.toInt ≤ 2)) = c → c.1 ≠ 0 → ∀ R' N', relA tc (va_up S 0 c.2) G R' N' → K (some (.int c.1)) (hpM R' N') := fun c e hc R' N' hr => by
      subst e
      have e : q_storm S G sh ln i n w = hsR S G sh ln i n (decide (0 ≤ w.toInt ∧ w.toInt ≤ 2)) := by rw [q_storm, if_pos hc]
      rw [e] at hK
      exact hK R' N' hr
    clear hK
    refine Exists.intro sh ⟨rfl, fun b hb => ?_⟩
    refine ip_bn (fun h => ?_) (fun h => ?_)
    rotate_left
    · exact bad _ (hs_1 (fun z => by rw [hb.mpr z] at h; cases h)) (by decide) _ N h0
    have hs4 : inI sh 4 := hb.mp h
    change ip_wp _ _ _ _ _ _ _ _ _ _ _ _ [] _
    refine Exists.intro ln ⟨n, rfl, fun b2 hb2 => ?_⟩
    refine ip_bt (fun h2 => ?_) (fun h2 => ?_)
    · have hno : ¬ (inI ln 3 ∧ 0 ≤ n.toInt ∧ n.toInt ≤ 20) := fun z => by rw [hb2.mpr z] at h2; cases h2
      refine bad _ (hs_2 hs4 ?_) (by decide) _ N h0
      by_cases z : inI ln 3
      · right
        have : ¬ (0 ≤ n.toInt ∧ n.toInt ≤ 20) := fun q => hno ⟨z, q⟩
        omega
      · exact Or.inl z
    obtain ⟨hl, hn0, hn20⟩ := hb2.mp h2
    change ip_wp _ _ _ _ _ _ _ _ _ _ _ _ [] _
    refine Exists.intro w ⟨0, 2, rfl, fun b3 hb3 => ?_⟩
    have t0 : (0 : Int32).toInt = 0 := by decide
    have t2 : (2 : Int32).toInt = 2 := by decide
    rw [t0, t2] at hb3
    refine ip_bn (fun h3 => ?_) (fun h3 => ?_)
    rotate_left
    · have hno : ¬ (0 ≤ w.toInt ∧ w.toInt ≤ 2) := fun z => by rw [hb3.mpr z] at h3; cases h3
      exact bad _ (hs_2 hs4 (Or.inr (Or.inr (Or.inr (decide_eq_false hno))))) (by decide) _ N h0
    have hw := hb3.mp h3
    rw [decide_eq_true hw, hs_ls hs4 hl hn0 hn20] at bad
    rw [hs_ls hs4 hl hn0 hn20]
    obtain ⟨k, hk, rfl, ek⟩ := ti_of hs4.1
    have hk4 : k < 4 := by have := hs4.2; omega
    change ip_wp _ _ _ _ _ _ _ _ _ _ _ _ [] _
    rw [nt_n hk] at bad ⊢
    refine Exists.intro tc ⟨S, G, va_up R 0 0, N, k, ln, i, n, hk4, hn0, hn20, rfl, rfl, hwf, h0, fun hne R' N' hr => ?_, fun hz hok R' N' hr hlay => ?_⟩
    · exact And.intro (fun z => absurd z hne) (fun _ => bad _ rfl hne R' N' hr)
    · refine And.intro (fun _ => ?_) (fun z => absurd rfl z)
      exact Exists.intro (nt n) ⟨trivial, rfl, ⟨hw, hz, hok⟩, R', N', nt n, _, _, _, _, _, hr, hlay, Nat.le_refl _, rfl, rfl, rfl, rfl, fsT_n _ _, ssT_n _ _ _, by show R' 17 - 1 = _; rw [hlay.1]⟩
  · rintro pc kk L st hp ⟨rfl, ⟨hw, hz, hok⟩, R', N', t, x, y, z, l6, l10, hr, hlay, ht, rfl, rfl, rfl, rfl, hx, hy, rfl⟩
    have hP : (0 ≤ w.toInt ∧ w.toInt ≤ 2) ∧ hsR S G sh ln i n true = (0, 0) ∧ stormOk S G (nt sh) (nt i) (nt n) := ⟨hw, hz, hok⟩
    obtain ⟨v1, v2⟩ := lay_ok w2 hlay hok S
    have hrm : relM S R' N' 0 := relM_0 hr.2.2.1
    have hn20 := hlay.2.1
    have hq : q_storm S G sh ln i n w = if w.toInt = 0 then (nI (fb_ct (stP S G (nt sh) (nt i)) (nt n)), 0) else if w.toInt = 1 then (ob (lst (stP S G (nt sh) (nt i)) (nt n)), 0) else (nI (bs 6 (fun p => anyb (nt n) (fun t => stP S G (nt sh) (nt i) t && spP G (nt sh) (nt i) t == p))), 0) := by
      rw [q_storm, decide_eq_true hw, hz, if_neg (by decide)]
    have hK' : ∀ r : Int32, (if w.toInt = 0 then nI (fb_ct (stP S G (nt sh) (nt i)) (nt n)) else if w.toInt = 1 then ob (lst (stP S G (nt sh) (nt i)) (nt n)) else nI (bs 6 (fun p => anyb (nt n) (fun t => stP S G (nt sh) (nt i) t && spP G (nt sh) (nt i) t == p)))) = r → K (some (.int r)) (hpM R' N') := fun r er => by
      have e : q_storm S G sh ln i n w = (r, 0) := by
        rw [hq]
        split at er
        · rename_i h; rw [if_pos h, er]
        · rename_i h
          rw [if_neg h]
          split at er
          · rename_i h; rw [if_pos h, er]
          · rename_i h; rw [if_neg h, er]
      rw [e] at hK
      exact hK R' N' hr
    clear hK hq
    have hnn : nt n ≤ 20 := hn20
    generalize nt n = n' at *
    generalize nt sh = k at *
    generalize nt i = a at *
    have e1 : (nI t - 1).toInt = (t : Int) - 1 := nx1 t (by omega)
    refine bz_lt ((t : Int) - 1) 0 (fun h => ?_) (fun h => ?_) e1
    · obtain rfl : t = 0 := by omega
      refine bz_ne w.toInt 0 (fun h2 => ?_) (fun h2 => ?_)
      · refine bz_ne w.toInt 1 (fun h3 => ?_) (fun h3 => ?_)
        · exact hK' _ (by rw [if_neg h2, if_neg h3]; exact (ssT_0 hy).symm)
        · exact hK' _ (by rw [if_neg h2, if_pos h3]; exact (fsT_0 hx).symm)
      · refine Exists.intro R' ⟨N', S, n', rfl, rfl, hwf.1, hrm, v1, ?_⟩
        exact hK' _ (by rw [if_pos h2, fb_ct_cong (fun t ht => (v2 t ht).2)])
    · obtain ⟨t, rfl⟩ : ∃ u, t = u + 1 := ⟨t - 1, by omega⟩
      have ht' : t < n' := by omega
      have em : nI (t + 1) - 1 = nI t := nI_pred t
      rw [em]
      have hvi : vp_in (nI t) 20 := pk_in t 20 (by omega)
      obtain ⟨q1, q2⟩ := v2 t ht'
      obtain ⟨s1, s2, s3, s4⟩ := v1.2.2 t ht'
      have hc := nI_clamp (n := t) (by omega)
      refine And.intro hvi ?_
      refine And.intro hvi ?_
      refine Exists.intro R' ⟨N', S, pN (N' 8) t, pN (N' 9) t, 0, by omega, s4, by decide, (by show [Value.ref 0, .int (N' 8 (nI t).toNatClampNeg), .int (N' 9 (nI t).toNatClampNeg)] = _; rw [hc, ← s1, ← s3]), rfl, hwf.1, hrm, ?_⟩
      rw [stk_held]
      have hs : stk S (pN (N' 8) t) (pN (N' 9) t) = stP S G k a t := q2
      rw [hs]
      have hn : ∀ (x y z : Int32) (l10 : Option Value), fsT (stP S G k a) t n' x → ssT (stP S G k a) (spP G k a) t n' y → z = nI t - 1 → ∃ kk, ip_lt kk (some (t + 1)) ∧ I_X8_storm ((0 ≤ w.toInt ∧ w.toInt ≤ 2) ∧ hsR S G sh ln i n true = (0, 0) ∧ stormOk S G k a n') tc S G k a n' sh ln i n w 70 kk [some (.ref 0), some (.int sh), some (.int ln), some (.int i), some (.int n), some (.int w), some (.int l6), some (.int x), some (.int y), some (.int z), l10] [] (hpM R' N') := fun x y z l10 hx hy hz => ⟨t, by show _ < _; omega, rfl, hP, R', N', t, x, y, z, l6, l10, hr, hlay, by omega, rfl, rfl, rfl, rfl, hx, hy, hz⟩
      change ip_wp _ _ _ _ _ _ _ _ _ _ _ _ [Value.int (ip_bi (!stP S G k a t))] _
      have hsp : N' 8 (nI t).toNatClampNeg = nI (spP G k a t) := by rw [hc, s1, q1]
      have hsp6 : spP G k a t < 6 := by rw [← q1]; exact s2
      refine ip_bt (fun h3 => ?_) (fun h3 => ?_)
      · have h4 : stP S G k a t = true := by simpa using h3
        refine ip_bt (b := !stP S G k a t) (fun _ => ?_) (fun h5 => absurd h3 (by rw [h5]; decide))
        refine And.intro hvi ?_
        rw [hsp]
        exact hn _ _ _ _ (fsT_yes ht' h4) (ssT_yes hy ht' h4 hsp6) (Int32.sub_eq_add_neg (nI t) 1).symm
      · have h4 : stP S G k a t = false := by simpa using h3
        refine ip_bt (b := !stP S G k a t) (fun h5 => absurd h3 (by rw [h5]; decide)) (fun _ => ?_)
        exact hn _ _ _ _ (fsT_no hx h4) (ssT_no hy h4) (Int32.sub_eq_add_neg (nI t) 1).symm
set_option maxRecDepth 100000 in
set_option maxHeartbeats 4000000 in
theorem m_X8_storm (l : Launch) : ip_Met l yX8_storm cX8_storm 11 (some .int) (ip_rm 4) C_X8_storm := ip_met tc_X8_storm 400 (by decide +kernel) fl_X8_ok cn_X8_ok (ip_cs1 (ip_gsS (m_X8_isSheet l) (ip_in [713, 714, 39, 715] (by decide +kernel) (by decide +kernel)) ⟨by decide +kernel, by decide +kernel, by decide +kernel⟩ ⟨rfl, rfl, Nat.le_of_ble_eq_true rfl, Nat.le_of_ble_eq_true rfl⟩) (ip_cs1 (ip_gsS (m_X8_isRow l) (ip_in [812, 813, 39, 814] (by decide +kernel) (by decide +kernel)) ⟨by decide +kernel, by decide +kernel, by decide +kernel⟩ ⟨rfl, rfl, Nat.le_of_ble_eq_true rfl, Nat.le_of_ble_eq_true rfl⟩) (ip_cs1 (ip_gsS (m_X8_within l) (ip_in [716, 717, 39, 718] (by decide +kernel) (by decide +kernel)) ⟨by decide +kernel, by decide +kernel, by decide +kernel⟩ ⟨rfl, rfl, Nat.le_of_ble_eq_true rfl, Nat.le_of_ble_eq_true rfl⟩) (ip_cs1 (ip_gsV (m_X8_layStorm l) (ip_in [815, 817, 22, 39, 818] (by decide +kernel) (by decide +kernel)) rfl ⟨by decide +kernel, by decide +kernel, by decide +kernel⟩ ⟨rfl, rfl, Nat.le_of_ble_eq_true rfl, Nat.le_of_ble_eq_true rfl⟩) (ip_cs1 (ip_gsV (m_X8_isHeld l) (ip_in [796, 798, 20, 39, 799] (by decide +kernel) (by decide +kernel)) rfl ⟨by decide +kernel, by decide +kernel, by decide +kernel⟩ ⟨rfl, rfl, Nat.le_of_ble_eq_true rfl, Nat.le_of_ble_eq_true rfl⟩) (ip_cs1 (ip_gsV (m_X8_strikesNow l) (ip_in [819, 821, 23, 39, 822] (by decide +kernel) (by decide +kernel)) rfl ⟨by decide +kernel, by decide +kernel, by decide +kernel⟩ ⟨rfl, rfl, Nat.le_of_ble_eq_true rfl, Nat.le_of_ble_eq_true rfl⟩) (ip_cs0))))))) cj_X8_storm rfl p_X8_storm
