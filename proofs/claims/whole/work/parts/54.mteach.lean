/-! ===== the reference: teach ===== -/
def C_X8_teach : ip_C := fun vs hp K => ∃ tc S G R N, ∃ (m sh ln i n : Int32), vs = [.ref 0, .int m, .int sh, .int ln, .int i, .int n] ∧ hp = hpM R N ∧ wfC S G ∧ relA tc S G R N ∧ ∀ R' N', relA tc (va_up S 0 (q_teach S G m sh ln i n).2) G R' N' → K (some (.int (q_teach S G m sh ln i n).1)) (hpM R' N')
def tc_X8_teach : List ip_I := (0, .aload_n 0, 1, false, 0, 0) :: (1, .iconst 0, 1, false, 0, 0) :: (2, .putfield 59, 3, false, 0, 0) :: (5, .aload_n 0, 1, false, 0, 0) :: (6, .iload_n 1, 1, false, 0, 0) :: (7, .invokevirtual 125, 3, false, 0, 0) :: (10, .ifCond .eq 10, 3, false, 0, 20) :: (13, .iload_n 2, 1, false, 0, 0) :: (14, .invokestatic 82, 3, false, 0, 0) :: (17, .ifCond .ne 5, 3, false, 0, 22) :: (20, .iconst (-1), 1, false, (-1), 0) :: (21, .ireturn, 1, false, 0, 0) :: (22, .iload_n 3, 1, false, 0, 0) :: (23, .iload 5, 2, false, 0, 0) :: (25, .invokestatic 156, 3, false, 0, 0) :: (28, .ifCond .ne 6, 3, false, 0, 34) :: (31, .bipush (-2), 2, false, (-2), 0) :: (33, .ireturn, 1, false, 0, 0) :: (34, .aload_n 0, 1, false, 0, 0) :: (35, .iload_n 2, 1, false, 0, 0) :: (36, .iload_n 3, 1, false, 0, 0) :: (37, .iload 4, 2, false, 0, 0) :: (39, .iload 5, 2, false, 0, 0) :: (41, .invokevirtual 159, 3, false, 0, 0) :: (44, .istore 6, 2, false, 0, 0) :: (46, .iload 6, 2, false, 0, 0) :: (48, .ifCond .eq 6, 3, false, 0, 54) :: (51, .iload 6, 2, false, 0, 0) :: (53, .ireturn, 1, false, 0, 0) :: (54, .aload_n 0, 1, false, 0, 0) :: (55, .getfield 25, 3, false, 0, 0) :: (58, .iload_n 1, 1, false, 0, 0) :: (59, .iaload, 1, false, 0, 0) :: (60, .istore 7, 2, false, 0, 0) :: (62, .bipush (-9), 2, false, (-9), 0) :: (64, .istore 8, 2, false, 0, 0) :: (66, .iconst 0, 1, false, 0, 0) :: (67, .istore 9, 2, false, 0, 0) :: (69, .iload 9, 2, true, 0, 0) :: (71, .bipush 63, 2, false, 63, 0) :: (73, .if_icmp .gt 64, 3, false, 0, 137) :: (76, .iload 9, 2, false, 0, 0) :: (78, .iload 7, 2, false, 0, 0) :: (80, .iand, 1, false, 0, 0) :: (81, .ifCond .ne 50, 3, false, 0, 131) :: (84, .iload 8, 2, false, 0, 0) :: (86, .bipush (-9), 2, false, (-9), 0) :: (88, .if_icmp .eq 16, 3, false, 0, 104) :: (91, .iload 9, 2, false, 0, 0) :: (93, .invokestatic 169, 3, false, 0, 0) :: (96, .iload 8, 2, false, 0, 0) :: (98, .invokestatic 169, 3, false, 0, 0) :: (101, .if_icmp .ge 30, 3, false, 0, 131) :: (104, .aload_n 0, 1, true, 0, 0) :: (105, .getfield 25, 3, false, 0, 0) :: (108, .iload_n 1, 1, false, 0, 0) :: (109, .iload 7, 2, false, 0, 0) :: (111, .iload 9, 2, false, 0, 0) :: (113, .ior, 1, false, 0, 0) :: (114, .iastore, 1, false, 0, 0) :: (115, .aload_n 0, 1, false, 0, 0) :: (116, .invokevirtual 162, 3, false, 0, 0) :: (119, .ifCond .ne 8, 3, false, 0, 127) :: (122, .iload 9, 2, false, 0, 0) :: (124, .goto 5, 3, false, 0, 129) :: (127, .iload 8, 2, false, 0, 0) :: (129, .istore 8, 2, false, 0, 0) :: (131, .iinc 9 1, 3, false, 1, 0) :: (134, .goto (-65), 3, false, 0, 69) :: (137, .aload_n 0, 1, false, 0, 0) :: (138, .getfield 25, 3, false, 0, 0) :: (141, .iload_n 1, 1, false, 0, 0) :: (142, .iload 7, 2, false, 0, 0) :: (144, .iastore, 1, false, 0, 0) :: (145, .iload 8, 2, false, 0, 0) :: (147, .ireturn, 1, false, 0, 0) :: []
set_option maxRecDepth 100000 in
theorem cj_X8_teach : ip_chk cX8_teach tc_X8_teach = true := by decide +kernel
def cs_X8_teach : List ip_G := [(125, 2, 8, C_X8_isMan), (82, 1, 0, C_X8_isSheet), (156, 2, 0, C_X8_isRow), (159, 5, 8, C_X8_layStorm), (169, 1, 0, C_X8_size), (162, 1, 8, C_X8_strikesNow)]
def I_X8_teach (P : Prop) (tc : Int32) (S : Nat → Nat) (G : Nat → Nat → Int32) (k a n mm : Nat) (sh ln i ni : Int32) : Nat → Nat → ip_P := fun pc kk L st hp => P ∧ ∃ (R N : _) (s : Nat) (x y z : Int32) (l6 : Option Value) (F : Nat → Int32), relA tc (va_up S 0 0) G R N ∧ layT S G R N k a n ∧ s ≤ 64 ∧ L = [some (.ref 0), some (.int (nI mm)), some (.int sh), some (.int ln), some (.int i), some (.int ni), l6, some (.int x), some (.int y), some (.int z)] ∧ st = [] ∧ hp = hpM R (va_up N 6 F) ∧ x = nI (S (60 + mm)) ∧ y = ob (fqB (lesP S G k a n mm) s) ∧ z = nI s ∧ (∀ x, upd F (nI mm).toNatClampNeg x = upd (N 6) (nI mm).toNatClampNeg x) ∧ ((pc = 69 ∧ kk = 2 * (64 - s) + 1) ∨ (pc = 104 ∧ kk = 2 * (64 - s) ∧ s < 64 ∧ S (60 + mm) &&& s = 0 ∧ ∀ b, fqB (lesP S G k a n mm) s = some b → pc6 s < pc6 b))
theorem p_X8_teach : ip_Pf fl_X8 cn_X8 cs_X8_teach (some .int) tc_X8_teach 10 C_X8_teach := by
  rintro _ _ K ⟨tc, S, G, R, N, m, sh, ln, i, n, rfl, rfl, hwf, hrel, hK⟩
  have h0 := relA_f 0 hrel
  have w2 := hwf.1.2.1
  have w3 := hwf.1.2.2.1
  have m7 := hrel.2.2.1.2.2.1
  refine ⟨Nat.le_of_ble_eq_true rfl, I_X8_teach (inI m (S 3) ∧ hsR S G sh ln i n true = (0, 0) ∧ stormOk S G (nt sh) (nt i) (nt n)) tc S G (nt sh) (nt i) (nt n) (nt m) sh ln i n, ?_, ?_⟩
  · have bad0 : ¬ inI m (S 3) → K (some (.int (-1))) (hpM (va_up R 0 0) N) := fun h => by
      rw [q_teach, if_pos h] at hK
      exact hK _ N h0
    have bad : inI m (S 3) → ∀ c : Int32 × Nat, hsR S G sh ln i n true = c → c.1 ≠ 0 → ∀ R' N', relA tc (va_up S 0 c.2) G R' N' → K (some (.int c.1)) (hpM R' N') := fun hm c e hc R' N' hr => by
      subst e
      rw [q_teach, if_neg (not_not_intro hm), if_pos hc] at hK
      exact hK R' N' hr
    clear hK
    refine Exists.intro (va_up R 0 0) ⟨N, m, S 3, rfl, rfl, m7, w3, fun b0 hb0 => ?_⟩
    refine ip_bt (fun h00 => ?_) (fun h00 => ?_)
    · exact bad0 (fun z => by rw [hb0.mpr z] at h00; cases h00)
    have hin : inI m (S 3) := hb0.mp h00
    replace bad := bad hin
    change ip_wp _ _ _ _ _ _ _ _ _ _ _ _ [] _
    refine Exists.intro sh ⟨rfl, fun b hb => ?_⟩
    refine ip_bn (fun h => ?_) (fun h => ?_)
    rotate_left
    · exact bad _ (hs_1 (fun z => by rw [hb.mpr z] at h; cases h)) (by decide) _ N h0
    have hs4 : inI sh 4 := hb.mp h
    change ip_wp _ _ _ _ _ _ _ _ _ _ _ _ [] _
    refine Exists.intro ln ⟨n, rfl, fun b2 hb2 => ?_⟩
    refine ip_bn (fun h2 => ?_) (fun h2 => ?_)
    rotate_left
    · have hno : ¬ (inI ln 3 ∧ 0 ≤ n.toInt ∧ n.toInt ≤ 20) := fun z => by rw [hb2.mpr z] at h2; cases h2
      refine bad _ (hs_2 hs4 ?_) (by decide) _ N h0
      by_cases z : inI ln 3
      · right
        have : ¬ (0 ≤ n.toInt ∧ n.toInt ≤ 20) := fun q => hno ⟨z, q⟩
        omega
      · exact Or.inl z
    obtain ⟨hl, hn0, hn20⟩ := hb2.mp h2
    change ip_wp _ _ _ _ _ _ _ _ _ _ _ _ [] _
    rw [hs_ls hs4 hl hn0 hn20] at bad
    rw [hs_ls hs4 hl hn0 hn20]
    obtain ⟨k, hk, rfl, ek⟩ := ti_of hs4.1
    have hk4 : k < 4 := by have := hs4.2; omega
    rw [nt_n hk] at bad ⊢
    obtain ⟨mm, hmm, rfl, emm⟩ := ti_of hin.1
    have hm4 : mm < 4 := by have := hin.2; omega
    have hv : vp_in (nI mm) 4 := pk_in mm 4 hm4
    rw [nt_n hmm]
    refine Exists.intro tc ⟨S, G, va_up R 0 0, N, k, ln, i, n, hk4, hn0, hn20, rfl, rfl, hwf, h0, fun hne R' N' hr => ?_, fun hz hok R' N' hr hlay => ?_⟩
    · exact And.intro (fun z => absurd z hne) (fun _ => bad _ rfl hne R' N' hr)
    · refine And.intro (fun _ => ?_) (fun z => absurd rfl z)
      refine And.intro hv ?_
      exact Exists.intro (2 * (64 - 0) + 1) ⟨trivial, ⟨hin, hz, hok⟩, R', N', 0, _, _, _, _, N' 6, hr, hlay, by omega, rfl, rfl, congrArg (hpM R') (up_same N' 6).symm, (man_at (relM_0 hr.2.2.1) hm4).2.2.2, rfl, rfl, fun _ => rfl, Or.inl ⟨rfl, rfl⟩⟩
  · rintro pc kk L st hp ⟨⟨hin, hz, hok⟩, R', N', s, x, y, z, l6, F, hr, hlay, hs, rfl, rfl, rfl, hx, hy, hzz, hF, hpc⟩
    have hP : inI m (S 3) ∧ hsR S G sh ln i n true = (0, 0) ∧ stormOk S G (nt sh) (nt i) (nt n) := ⟨hin, hz, hok⟩
    have hrm : relM S R' N' 0 := relM_0 hr.2.2.1
    have l1 : nt m < 4 := by have := (inI_nt hin).1; omega
    have hq : q_teach S G m sh ln i n = (ob (fqB (lesP S G (nt sh) (nt i) (nt n) (nt m)) 64), 0) := by
      rw [q_teach, if_neg (not_not_intro hin), hz, if_neg (by decide)]
    rw [hq] at hK
    have hK' : ∀ N'', N'' = N' → K (some (.int (ob (fqB (lesP S G (nt sh) (nt i) (nt n) (nt m)) 64)))) (hpM R' N'') := fun N'' e => by rw [e]; exact hK R' N' hr
    clear hK hq
    have hn20 := hlay.2.1
    generalize nt n = n' at *
    generalize nt sh = k at *
    generalize nt i = a at *
    generalize nt m = mm at *
    have hv : vp_in (nI mm) 4 := pk_in mm 4 l1
    have hl64 := (hwf.1.2.2.2 mm l1).2.2
    generalize hf : lesP S G k a n' mm = f at hK' hy hpc ⊢
    have hn : ∀ (F' : Nat → Int32) (y : Int32), s < 64 → y = ob (fqB f (s + 1)) → (∀ x, upd F' (nI mm).toNatClampNeg x = upd (N' 6) (nI mm).toNatClampNeg x) → ∀ kk', (kk' = some (2 * (64 - s) + 1) ∨ kk' = some (2 * (64 - s))) → ∃ kk, ip_lt kk kk' ∧ I_X8_teach (inI m (S 3) ∧ hsR S G sh ln i n true = (0, 0) ∧ stormOk S G k a n') tc S G k a n' mm sh ln i n 69 kk [some (.ref 0), some (.int (nI mm)), some (.int sh), some (.int ln), some (.int i), some (.int n), l6, some (.int x), some (.int y), some (.int (z + 1))] [] (hpM R' (va_up N' 6 F')) := fun F' y hlt hy' hF' kk' hkk => by
      refine ⟨2 * (64 - (s + 1)) + 1, ?_, hP, R', N', s + 1, x, y, z + 1, l6, F', hr, hlay, by omega, rfl, rfl, rfl, hx, by rw [hf]; exact hy', by rw [hzz]; exact nI_1 s, hF', Or.inl ⟨rfl, rfl⟩⟩
      rcases hkk with rfl | rfl
      · show _ < _; omega
      · show _ < _; omega
    rcases hpc with ⟨rfl, rfl⟩ | ⟨rfl, rfl, hlt, hand, hb⟩
    · have b1 : ∀ {X Y : Prop}, (63 < s → X) → (s ≤ 63 → Y) → ((63 : Int32) < z → X) ∧ (¬ (63 : Int32) < z → Y) := fun f g => by rw [hzz]; exact pk_lt 63 s f g
      refine b1 (fun h => ?_) (fun h => ?_)
      · obtain rfl : s = 64 := by omega
        refine And.intro hv ?_
        have e : va_up (va_up N' 6 F) 6 (upd F (nI mm).toNatClampNeg x) = N' := by rw [hF, fa_upd_same (by rw [hx]; exact (man_at hrm l1).2.2.2)]; exact up_bk N' 6 F
        have hk2 := hK' _ e
        rw [← hy] at hk2
        exact hk2
      have ha64 : s &&& S (60 + mm) < 64 := Nat.and_lt_two_pow (n := 6) _ hl64
      have b2 : ∀ {X Y : Prop}, (S (60 + mm) &&& s ≠ 0 → X) → (S (60 + mm) &&& s = 0 → Y) → (¬ z &&& x = 0 → X) ∧ (z &&& x = 0 → Y) := fun f g => by
        rw [hzz, hx, fa_and]
        exact pk_ne _ 0 (fun q => f (by rw [Nat.and_comm]; exact q)) (fun q => g (by rw [Nat.and_comm]; exact q)) rfl rfl (by omega)
      refine b2 (fun h2 => ?_) (fun h2 => ?_)
      · have hfs : f s = false := by rw [← hf, lesP, decide_eq_false h2]; rfl
        exact hn F y (by omega) (by rw [fq_f hfs]; exact hy) hF _ (Or.inl rfl)
      have h104 : (∀ b, fqB f s = some b → pc6 s < pc6 b) → ∃ kk, ip_lt kk (some (2 * (64 - s) + 1)) ∧ I_X8_teach (inI m (S 3) ∧ hsR S G sh ln i n true = (0, 0) ∧ stormOk S G k a n') tc S G k a n' mm sh ln i n 104 kk [some (.ref 0), some (.int (nI mm)), some (.int sh), some (.int ln), some (.int i), some (.int n), l6, some (.int x), some (.int y), some (.int z)] [] (hpM R' (va_up N' 6 F)) := fun hb => ⟨2 * (64 - s), by show _ < _; omega, hP, R', N', s, x, y, z, l6, F, hr, hlay, hs, rfl, rfl, rfl, hx, by rw [hf]; exact hy, hzz, hF, Or.inr ⟨rfl, rfl, by omega, h2, by rw [hf]; exact hb⟩⟩
      cases hq : fqB f s with
      | none =>
        have e9 : y = -9 := by rw [hy, hq]; rfl
        refine And.intro (fun _ => ?_) (fun q => absurd e9 q)
        exact h104 (fun b hb => by rw [hq] at hb; cases hb)
      | some b =>
        have eb : y = nI b := by rw [hy, hq]; rfl
        have hbl := fqB_lt hq
        have p1 := pc6_le b
        have p2 := pc6_le s
        refine And.intro (fun q => absurd q (by rw [eb]; exact ne9_64 ⟨b, by omega⟩)) (fun _ => ?_)
        refine Exists.intro s ⟨by omega, (by show [Value.int z] = _; rw [hzz]), ?_⟩
        refine Exists.intro b ⟨by omega, (by show [Value.int y] = _; rw [eb]), ?_⟩
        refine pk_le (pc6 b) (pc6 s) (fun h5 => ?_) (fun h5 => ?_)
        · exact hn F y (by omega) (by rw [fq_k hq h5]; exact hy) hF _ (Or.inl rfl)
        · exact h104 (fun b' hb' => by rw [hq] at hb'; cases hb'; exact h5)
    · have eor : x ||| z = nI (S (60 + mm) ||| s) := by rw [hx, hzz, fa_or]
      have hor64 : S (60 + mm) ||| s < 64 := or64 hl64 hlt
      refine And.intro hv ?_
      rw [eor]
      have hr2 : relM (va_up S (60 + mm) (S (60 + mm) ||| s)) R' (va_up N' 6 (upd F (nI mm).toNatClampNeg (nI (S (60 + mm) ||| s)))) 0 := by rw [hF]; exact relM_l _ l1 hrm
      obtain ⟨v1, v2⟩ := lay_ok w2 hlay hok (va_up S (60 + mm) (S (60 + mm) ||| s))
      have hF2 : ∀ x, upd (upd F (nI mm).toNatClampNeg (nI (S (60 + mm) ||| s))) (nI mm).toNatClampNeg x = upd (N' 6) (nI mm).toNatClampNeg x := fun x => by rw [fa_upd_twice]; exact hF x
      refine Exists.intro R' ⟨_, va_up S (60 + mm) (S (60 + mm) ||| s), n', rfl, rfl, wfM_li hwf.1 l1 hor64, hr2, v1, ?_⟩
      have hct : fb_ct (stM (va_up S (60 + mm) (S (60 + mm) ||| s)) (va_up N' 6 (upd F (nI mm).toNatClampNeg (nI (S (60 + mm) ||| s))))) n' = fb_ct (stP (va_up S (60 + mm) (S (60 + mm) ||| s)) G k a) n' := fb_ct_cong (fun t ht => (v2 t ht).2)
      rw [hct]
      have hle : fb_ct (stP (va_up S (60 + mm) (S (60 + mm) ||| s)) G k a) n' ≤ n' := fb_ct_le _ _
      refine pk_ne (fb_ct (stP (va_up S (60 + mm) (S (60 + mm) ||| s)) G k a) n') 0 (fun h3 => ?_) (fun h3 => ?_)
      · have hfs : f s = false := by
          rw [← hf, lesP]
          cases h4 : anyb n' (fun t => stP (va_up S (60 + mm) (S (60 + mm) ||| s)) G k a t)
          · exfalso
            apply h3
            rw [lst_ct]
            exact lst_none (anyb_no h4)
          · simp
        exact hn _ y hlt (by rw [fq_f hfs]; exact hy) hF2 _ (Or.inr rfl)
      · have hfs : f s = true := by
          rw [← hf, lesP, decide_eq_true hand, anyb_false (fun t ht => ?_)]
          · rfl
          · cases h4 : stP (va_up S (60 + mm) (S (60 + mm) ||| s)) G k a t
            · rfl
            · exfalso
              have h5 := (lst_ct (f := stP (va_up S (60 + mm) (S (60 + mm) ||| s)) G k a) n').mp h3
              have : ∀ {f : Nat → Bool} {n : Nat}, lst f n = none → ∀ i, i < n → f i = false := by
                intro f n
                induction n with
                | zero => intro _ i hi; omega
                | succ n ih =>
                  intro h i hi
                  simp only [lst] at h
                  cases hl : lst f n with
                  | some b => rw [hl] at h; cases h
                  | none =>
                    rw [hl] at h
                    rcases Nat.lt_or_ge i n with q | q
                    · exact ih hl i q
                    · obtain rfl : i = n := by omega
                      cases hfi : f i
                      · rfl
                      · rw [hfi] at h; cases h
              rw [this h5 t ht] at h4
              cases h4
        cases hq : fqB f s with
        | none => exact hn _ z hlt (by rw [fq_n hfs hq]; exact hzz) hF2 _ (Or.inr rfl)
        | some b => exact hn _ z hlt (by rw [fq_s hfs hq (hb b hq)]; exact hzz) hF2 _ (Or.inr rfl)
set_option maxRecDepth 100000 in
set_option maxHeartbeats 4000000 in
theorem m_X8_teach (l : Launch) : ip_Met l yX8_teach cX8_teach 10 (some .int) (ip_rm 4) C_X8_teach := ip_met tc_X8_teach 400 (by decide +kernel) fl_X8_ok cn_X8_ok (ip_cs1 (ip_gsV (m_X8_isMan l) (ip_in [754, 756, 16, 39, 757] (by decide +kernel) (by decide +kernel)) rfl ⟨by decide +kernel, by decide +kernel, by decide +kernel⟩ ⟨rfl, rfl, Nat.le_of_ble_eq_true rfl, Nat.le_of_ble_eq_true rfl⟩) (ip_cs1 (ip_gsS (m_X8_isSheet l) (ip_in [713, 714, 39, 715] (by decide +kernel) (by decide +kernel)) ⟨by decide +kernel, by decide +kernel, by decide +kernel⟩ ⟨rfl, rfl, Nat.le_of_ble_eq_true rfl, Nat.le_of_ble_eq_true rfl⟩) (ip_cs1 (ip_gsS (m_X8_isRow l) (ip_in [812, 813, 39, 814] (by decide +kernel) (by decide +kernel)) ⟨by decide +kernel, by decide +kernel, by decide +kernel⟩ ⟨rfl, rfl, Nat.le_of_ble_eq_true rfl, Nat.le_of_ble_eq_true rfl⟩) (ip_cs1 (ip_gsV (m_X8_layStorm l) (ip_in [815, 817, 22, 39, 818] (by decide +kernel) (by decide +kernel)) rfl ⟨by decide +kernel, by decide +kernel, by decide +kernel⟩ ⟨rfl, rfl, Nat.le_of_ble_eq_true rfl, Nat.le_of_ble_eq_true rfl⟩) (ip_cs1 (ip_gsS (m_X8_size l) (ip_in [835, 836, 39, 837] (by decide +kernel) (by decide +kernel)) ⟨by decide +kernel, by decide +kernel, by decide +kernel⟩ ⟨rfl, rfl, Nat.le_of_ble_eq_true rfl, Nat.le_of_ble_eq_true rfl⟩) (ip_cs1 (ip_gsV (m_X8_strikesNow l) (ip_in [819, 821, 23, 39, 822] (by decide +kernel) (by decide +kernel)) rfl ⟨by decide +kernel, by decide +kernel, by decide +kernel⟩ ⟨rfl, rfl, Nat.le_of_ble_eq_true rfl, Nat.le_of_ble_eq_true rfl⟩) (ip_cs0))))))) cj_X8_teach rfl p_X8_teach
