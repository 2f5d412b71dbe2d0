/-! ===== the reference: a man of the text ===== -/
def okL (c : Int32) : Prop := c.toInt = 109 ∨ c.toInt = 98 ∨ c.toInt = 115
def okM (C : Nat → Int32) (A P i : Nat) : Prop := (i = 0 ∧ okL (C A)) ∨ (i = 1 ∧ dgt (C (A + 1)) 0 (P - 1)) ∨ (i = 2 ∧ isD1 (C (A + 2))) ∨ (i = 3 ∧ isD2 (C (A + 2)) (C (A + 3)))
theorem okM_0 {C : Nat → Int32} {A P : Nat} : okM C A P 0 ↔ okL (C A) := by simp [okM]
theorem okM_1 {C : Nat → Int32} {A P : Nat} : okM C A P 1 ↔ dgt (C (A + 1)) 0 (P - 1) := by simp [okM]
theorem okM_2 {C : Nat → Int32} {A P : Nat} : okM C A P 2 ↔ isD1 (C (A + 2)) := by simp [okM]
theorem okM_3 {C : Nat → Int32} {A P : Nat} : okM C A P 3 ↔ isD2 (C (A + 2)) (C (A + 3)) := by simp [okM]
def C_X8_readMan : ip_C := fun vs hp K => ∃ R N, ∃ A E r P : Nat, A ≤ E ∧ E ≤ 240 ∧ r < 4 ∧ 1 ≤ P ∧ P ≤ 6 ∧ vs = [.ref 0, .int (nI E)] ∧ hp = hpM R N ∧ R 12 = nI A ∧ R 14 = nI P ∧ R 15 = nI r ∧
  (∀ j x12 x15 F, j < 4 → A + j ≤ E → (∀ i, i < j → okM (N 3) A P i) → (A + j = E ∨ ¬ okM (N 3) A P j) → x12 = nI (A + j) → K (some (.int 0)) (hpM (va_up (va_up R 12 x12) 15 x15) (va_up N 7 F))) ∧
  (A + 4 ≤ E → (∀ i, i < 4 → okM (N 3) A P i) → ∀ F, (∀ i, i < 3 * r → F i = N 7 i) → F (3 * r) = nI (kdB (N 3 A)) → F (3 * r + 1) = nI (nt (N 3 (A + 1)) - 48) → F (3 * r + 2) = nI (sv (N 3 (A + 2)) (N 3 (A + 3))) → K (some (.int 1)) (hpM (va_up (va_up R 12 (nI (A + 4))) 15 (nI (r + 1))) (va_up N 7 F)))
def tc_X8_readMan : List ip_I := (0, .iconst 3, 1, false, 3, 0) :: (1, .aload_n 0, 1, false, 0, 0) :: (2, .getfield 109, 3, false, 0, 0) :: (5, .imul, 1, false, 0, 0) :: (6, .istore_n 2, 1, false, 0, 0) :: (7, .aload_n 0, 1, false, 0, 0) :: (8, .getfield 75, 3, false, 0, 0) :: (11, .iload_n 1, 1, false, 0, 0) :: (12, .if_icmp .ge 15, 3, false, 0, 27) :: (15, .aload_n 0, 1, false, 0, 0) :: (16, .getfield 16, 3, false, 0, 0) :: (19, .aload_n 0, 1, false, 0, 0) :: (20, .getfield 75, 3, false, 0, 0) :: (23, .iaload, 1, false, 0, 0) :: (24, .goto 4, 3, false, 0, 28) :: (27, .iconst 0, 1, false, 0, 0) :: (28, .istore_n 3, 1, false, 0, 0) :: (29, .aload_n 0, 1, false, 0, 0) :: (30, .getfield 28, 3, false, 0, 0) :: (33, .iload_n 2, 1, false, 0, 0) :: (34, .iload_n 3, 1, false, 0, 0) :: (35, .bipush 109, 2, false, 109, 0) :: (37, .if_icmp .ne 7, 3, false, 0, 44) :: (40, .iconst 0, 1, false, 0, 0) :: (41, .goto 25, 3, false, 0, 66) :: (44, .iload_n 3, 1, false, 0, 0) :: (45, .bipush 98, 2, false, 98, 0) :: (47, .if_icmp .ne 7, 3, false, 0, 54) :: (50, .iconst 1, 1, false, 1, 0) :: (51, .goto 15, 3, false, 0, 66) :: (54, .iload_n 3, 1, false, 0, 0) :: (55, .bipush 115, 2, false, 115, 0) :: (57, .if_icmp .ne 7, 3, false, 0, 64) :: (60, .iconst 2, 1, false, 2, 0) :: (61, .goto 5, 3, false, 0, 66) :: (64, .bipush (-9), 2, false, (-9), 0) :: (66, .iastore, 1, false, 0, 0) :: (67, .aload_n 0, 1, true, 0, 0) :: (68, .getfield 28, 3, false, 0, 0) :: (71, .iload_n 2, 1, false, 0, 0) :: (72, .iaload, 1, false, 0, 0) :: (73, .bipush (-9), 2, false, (-9), 0) :: (75, .if_icmp .ne 5, 3, false, 0, 80) :: (78, .iconst 0, 1, false, 0, 0) :: (79, .ireturn, 1, false, 0, 0) :: (80, .aload_n 0, 1, false, 0, 0) :: (81, .dup, 1, false, 0, 0) :: (82, .getfield 75, 3, false, 0, 0) :: (85, .iconst 1, 1, false, 1, 0) :: (86, .iadd, 1, false, 0, 0) :: (87, .putfield 75, 3, false, 0, 0) :: (90, .aload_n 0, 1, false, 0, 0) :: (91, .getfield 28, 3, false, 0, 0) :: (94, .iload_n 2, 1, false, 0, 0) :: (95, .iconst 1, 1, false, 1, 0) :: (96, .iadd, 1, false, 0, 0) :: (97, .aload_n 0, 1, false, 0, 0) :: (98, .iload_n 1, 1, false, 0, 0) :: (99, .iconst 0, 1, false, 0, 0) :: (100, .aload_n 0, 1, false, 0, 0) :: (101, .getfield 106, 3, false, 0, 0) :: (104, .iconst 1, 1, false, 1, 0) :: (105, .isub, 1, false, 0, 0) :: (106, .invokevirtual 78, 3, false, 0, 0) :: (109, .iastore, 1, false, 0, 0) :: (110, .aload_n 0, 1, true, 0, 0) :: (111, .getfield 28, 3, false, 0, 0) :: (114, .iload_n 2, 1, false, 0, 0) :: (115, .iconst 1, 1, false, 1, 0) :: (116, .iadd, 1, false, 0, 0) :: (117, .iaload, 1, false, 0, 0) :: (118, .bipush (-9), 2, false, (-9), 0) :: (120, .if_icmp .ne 5, 3, false, 0, 125) :: (123, .iconst 0, 1, false, 0, 0) :: (124, .ireturn, 1, false, 0, 0) :: (125, .aload_n 0, 1, false, 0, 0) :: (126, .getfield 28, 3, false, 0, 0) :: (129, .iload_n 2, 1, false, 0, 0) :: (130, .iconst 2, 1, false, 2, 0) :: (131, .iadd, 1, false, 0, 0) :: (132, .aload_n 0, 1, false, 0, 0) :: (133, .iload_n 1, 1, false, 0, 0) :: (134, .invokevirtual 119, 3, false, 0, 0) :: (137, .iastore, 1, false, 0, 0) :: (138, .aload_n 0, 1, true, 0, 0) :: (139, .dup, 1, false, 0, 0) :: (140, .getfield 109, 3, false, 0, 0) :: (143, .iconst 1, 1, false, 1, 0) :: (144, .iadd, 1, false, 0, 0) :: (145, .putfield 109, 3, false, 0, 0) :: (148, .aload_n 0, 1, false, 0, 0) :: (149, .getfield 28, 3, false, 0, 0) :: (152, .iload_n 2, 1, false, 0, 0) :: (153, .iconst 2, 1, false, 2, 0) :: (154, .iadd, 1, false, 0, 0) :: (155, .iaload, 1, false, 0, 0) :: (156, .bipush (-9), 2, false, (-9), 0) :: (158, .if_icmp .eq 7, 3, false, 0, 165) :: (161, .iconst 1, 1, false, 1, 0) :: (162, .goto 4, 3, false, 0, 166) :: (165, .iconst 0, 1, false, 0, 0) :: (166, .ireturn, 1, false, 0, 0) :: []
set_option maxRecDepth 100000 in
theorem cj_X8_readMan : ip_chk cX8_readMan tc_X8_readMan = true := by decide +kernel
def cs_X8_readMan : List ip_G := [(78, 4, 8, C_X8_digit), (119, 2, 8, C_X8_readSet)]
def I_X8_readMan (R : Nat → Int32) (N : Nat → Nat → Int32) (A E r P : Nat) : Nat → Nat → ip_P := fun pc kk L st hp => ∃ (x y v : Int32) (l3 : Option Value) (F : Nat → Int32), x = nI (3 * r) ∧ L = [some (.ref 0), some (.int (nI E)), some (.int x), l3] ∧ st = [] ∧ hp = hpM (va_up R 12 y) (va_up N 7 F) ∧ (∀ i, i < 3 * r → F i = N 7 i) ∧
  ((pc = 67 ∧ kk = 3 ∧ F (3 * r) = v ∧ y = nI A ∧ ((v = -9 ∧ (A = E ∨ ¬ okL (N 3 A))) ∨ (v = nI (kdB (N 3 A)) ∧ A < E ∧ okL (N 3 A)))) ∨
  (pc = 110 ∧ kk = 2 ∧ A < E ∧ okL (N 3 A) ∧ F (3 * r) = nI (kdB (N 3 A)) ∧ F (3 * r + 1) = v ∧ ((v = -9 ∧ y = nI (A + 1) ∧ (A + 1 = E ∨ ¬ dgt (N 3 (A + 1)) 0 (P - 1))) ∨ (v = nI (nt (N 3 (A + 1)) - 48) ∧ y = nI (A + 2) ∧ A + 1 < E ∧ dgt (N 3 (A + 1)) 0 (P - 1)))) ∨
  (pc = 138 ∧ kk = 1 ∧ A + 1 < E ∧ okL (N 3 A) ∧ dgt (N 3 (A + 1)) 0 (P - 1) ∧ F (3 * r) = nI (kdB (N 3 A)) ∧ F (3 * r + 1) = nI (nt (N 3 (A + 1)) - 48) ∧ F (3 * r + 2) = v ∧ ((v = -9 ∧ y = nI (A + 2) ∧ (A + 2 = E ∨ ¬ isD1 (N 3 (A + 2)))) ∨ (v = -9 ∧ y = nI (A + 3) ∧ A + 2 < E ∧ isD1 (N 3 (A + 2)) ∧ (A + 3 = E ∨ ¬ isD2 (N 3 (A + 2)) (N 3 (A + 3)))) ∨ (v = nI (sv (N 3 (A + 2)) (N 3 (A + 3))) ∧ y = nI (A + 4) ∧ A + 3 < E ∧ isD1 (N 3 (A + 2)) ∧ isD2 (N 3 (A + 2)) (N 3 (A + 3))))))
theorem p_X8_readMan : ip_Pf fl_X8 cn_X8 cs_X8_readMan (some .boolean) tc_X8_readMan 4 C_X8_readMan := by
  rintro _ _ K ⟨R, N, A, E, r, P, hAE, hE, hr, hP1, hP6, rfl, rfl, h12, h14, h15, hbad, hgood⟩
  have e3r : 3 * R 15 = nI (3 * r) := by rw [h15, show (3 : Int32) = nI 3 from rfl, pk_mul]
  have vR : ∀ (x : Int32) (d : Nat), d < 3 → x = nI (3 * r + d) → vp_in x 12 ∧ x.toNatClampNeg = 3 * r + d := fun x d hd hx => by rw [hx]; exact ⟨pk_in (3 * r + d) 12 (by omega), nI_clamp (by omega)⟩
  refine ⟨Nat.le_of_ble_eq_true rfl, I_X8_readMan R N A E r P, ?_, ?_⟩
  · have b1 : ∀ {X Y : Prop}, (E ≤ A → X) → (A < E → Y) → (nI E ≤ R 12 → X) ∧ (¬ nI E ≤ R 12 → Y) := fun f g => by rw [h12]; exact pk_le E A f g
    obtain ⟨v0, c0⟩ := vR (3 * R 15) 0 (by omega) (by rw [e3r]; rfl)
    have h67 : ∀ (v : Int32) (l3 : Option Value), ((v = -9 ∧ (A = E ∨ ¬ okL (N 3 A))) ∨ (v = nI (kdB (N 3 A)) ∧ A < E ∧ okL (N 3 A))) → ∃ kk, ip_lt kk none ∧ I_X8_readMan R N A E r P 67 kk [some (.ref 0), some (.int (nI E)), some (.int (3 * R 15)), l3] [] (hpM R (va_up N 7 (upd (N 7) (3 * R 15).toNatClampNeg v))) := fun v l3 hv => ⟨3, trivial, 3 * R 15, R 12, v, l3, upd (N 7) (3 * R 15).toNatClampNeg v, e3r, rfl, rfl, congrArg (fun X => hpM X (va_up N 7 (upd (N 7) (3 * R 15).toNatClampNeg v))) (up_same R 12).symm, fun i hi => by rw [c0, pk_un (by omega)], Or.inl ⟨rfl, rfl, by rw [c0]; exact pk_us, h12, hv⟩⟩
    refine b1 (fun h => ?_) (fun h => ?_)
    · refine And.intro (fun _ => ?_) (fun z => absurd z (by decide))
      refine And.intro (fun _ => ?_) (fun z => absurd z (by decide))
      refine And.intro (fun _ => ?_) (fun z => absurd z (by decide))
      refine And.intro v0 ?_
      exact h67 (-9) _ (Or.inl ⟨rfl, Or.inl (by omega)⟩)
    · have hv : vp_in (R 12) 240 := by rw [h12]; exact pk_in A 240 (by omega)
      have hc : N 3 (R 12).toNatClampNeg = N 3 A := by rw [h12, nI_clamp (n := A) (by omega)]
      refine And.intro hv ?_
      rw [hc]
      refine bz_ne (N 3 A).toInt 109 (fun h1 => ?_) (fun h1 => ?_)
      · refine bz_ne (N 3 A).toInt 98 (fun h2 => ?_) (fun h2 => ?_)
        · refine bz_ne (N 3 A).toInt 115 (fun h3 => ?_) (fun h3 => ?_)
          · refine And.intro v0 ?_
            exact h67 (-9) _ (Or.inl ⟨rfl, Or.inr (fun z => by rcases z with z | z | z; exact h1 z; exact h2 z; exact h3 z)⟩)
          · refine And.intro v0 ?_
            exact h67 2 _ (Or.inr ⟨by rw [kdB, if_pos h3]; rfl, h, Or.inr (Or.inr h3)⟩)
        · refine And.intro v0 ?_
          exact h67 1 _ (Or.inr ⟨by rw [kdB, if_neg (by omega), if_pos h2]; rfl, h, Or.inr (Or.inl h2)⟩)
      · refine And.intro v0 ?_
        exact h67 0 _ (Or.inr ⟨by rw [kdB, if_neg (by omega), if_neg (by omega)]; rfl, h, Or.inl h1⟩)
  · rintro pc kk L st hp ⟨x, y, v, l3, F, hx, rfl, rfl, rfl, hF, ⟨rfl, rfl, hF0, hy, hv⟩ | ⟨rfl, rfl, hA, hL, hF0, hF1, hv⟩ | ⟨rfl, rfl, hA, hL, hD, hF0, hF1, hF2, hv⟩⟩
    · obtain ⟨v0, c0⟩ := vR x 0 (by omega) (by rw [hx]; rfl)
      have e1 : x + 1 = nI (3 * r + 1) := by rw [hx]; exact nI_1 (3 * r)
      obtain ⟨v1, c1⟩ := vR (x + 1) 1 (by omega) e1
      refine And.intro v0 ?_
      have c0' : F x.toNatClampNeg = v := by rw [c0]; exact hF0
      change ip_wp _ _ _ _ _ _ _ _ _ _ _ _ [Value.int (F x.toNatClampNeg)] _
      rw [c0']
      rcases hv with ⟨rfl, hn⟩ | ⟨rfl, hA, hL⟩
      · refine And.intro (fun z => absurd rfl z) (fun _ => ?_)
        exact And.intro rfl (hbad 0 y (R 15) F (by omega) (by omega) (fun i hi => absurd hi (by omega)) (hn.elim (fun q => Or.inl (by omega)) (fun q => Or.inr (fun z => q (okM_0.mp z)))) hy)
      · have hk3 : kdB (N 3 A) < 3 := by
          unfold kdB
          split
          · omega
          · split <;> omega
        refine And.intro (fun _ => ?_) (fun z => absurd z (ne9_n (by omega)))
        have ey : y + 1 = nI (A + 1) := by rw [hy]; exact nI_1 A
        have eP : R 14 - 1 = nI (P - 1) := by rw [h14, show (1 : Int32) = nI 1 from rfl, pk_sub hP1]
        refine Exists.intro (va_up R 12 (y + 1)) ⟨va_up N 7 F, A + 1, E, 0, P - 1, by omega, hE, by omega, by omega, (by show [Value.ref 0, Value.int (nI E), Value.int 0, Value.int (R 14 - 1)] = _; rw [eP]; rfl), rfl, ey, fun hn => ?_, fun q1 q2 => ?_⟩
        · refine And.intro v1 ?_
          refine Exists.intro 2 ⟨by show _ < _; omega, x, y + 1, -9, l3, upd F (x + 1).toNatClampNeg (-9), hx, rfl, rfl, rfl, fun i hi => by rw [c1, pk_un (by omega)]; exact hF i hi, Or.inr (Or.inl ⟨rfl, rfl, hA, hL, by rw [c1, pk_un (by omega)]; exact hF0, by rw [c1]; exact pk_us, Or.inl ⟨rfl, ey, ?_⟩⟩)⟩
          by_cases c : A + 1 = E
          · exact Or.inl c
          · exact Or.inr (fun z => hn ⟨by omega, z⟩)
        · refine And.intro v1 ?_
          exact Exists.intro 2 ⟨by show _ < _; omega, x, nI (A + 1 + 1), nI (nt (N 3 (A + 1)) - 48), l3, upd F (x + 1).toNatClampNeg (nI (nt (N 3 (A + 1)) - 48)), hx, rfl, rfl, rfl, fun i hi => by rw [c1, pk_un (by omega)]; exact hF i hi, Or.inr (Or.inl ⟨rfl, rfl, hA, hL, by rw [c1, pk_un (by omega)]; exact hF0, by rw [c1]; exact pk_us, Or.inr ⟨rfl, rfl, q1, q2⟩⟩)⟩
    · have e1 : x + 1 = nI (3 * r + 1) := by rw [hx]; exact nI_1 (3 * r)
      have e2 : x + 2 = nI (3 * r + 2) := by rw [hx]; exact nI_add (3 * r) 2
      obtain ⟨v1, c1⟩ := vR (x + 1) 1 (by omega) e1
      obtain ⟨v2, c2⟩ := vR (x + 2) 2 (by omega) e2
      refine And.intro v1 ?_
      have c1' : F (x + 1).toNatClampNeg = v := by rw [c1]; exact hF1
      change ip_wp _ _ _ _ _ _ _ _ _ _ _ _ [Value.int (F (x + 1).toNatClampNeg)] _
      rw [c1']
      rcases hv with ⟨rfl, hy, hn⟩ | ⟨rfl, hy, hA1, hD⟩
      · refine And.intro (fun z => absurd rfl z) (fun _ => ?_)
        exact And.intro rfl (hbad 1 y (R 15) F (by omega) (by omega) (fun i hi => by obtain rfl : i = 0 := by omega
                                                                                     exact okM_0.mpr hL) (hn.elim Or.inl (fun q => Or.inr (fun z => q (okM_1.mp z)))) hy)
      · have l1 : nt (N 3 (A + 1)) - 48 < 2147483648 := by unfold dgt at hD; unfold nt; omega
        refine And.intro (fun _ => ?_) (fun z => absurd z (ne9_n l1))
        refine Exists.intro (va_up R 12 y) ⟨va_up N 7 F, A + 2, E, by omega, hE, rfl, rfl, hy, fun hn => ?_, fun q1 q2 hn => ?_, fun q1 q2 q3 q4 => ?_⟩
        · refine And.intro v2 ?_
          refine Exists.intro 1 ⟨by show _ < _; omega, x, y, -9, l3, upd F (x + 2).toNatClampNeg (-9), hx, rfl, rfl, rfl, fun i hi => by rw [c2, pk_un (by omega)]; exact hF i hi, Or.inr (Or.inr ⟨rfl, rfl, hA1, hL, hD, by rw [c2, pk_un (by omega)]; exact hF0, by rw [c2, pk_un (by omega)]; exact hF1, by rw [c2]; exact pk_us, Or.inl ⟨rfl, hy, ?_⟩⟩)⟩
          by_cases c : A + 2 = E
          · exact Or.inl c
          · exact Or.inr (fun z => hn ⟨by omega, z⟩)
        · refine And.intro v2 ?_
          refine Exists.intro 1 ⟨by show _ < _; omega, x, nI (A + 2 + 1), -9, l3, upd F (x + 2).toNatClampNeg (-9), hx, rfl, rfl, rfl, fun i hi => by rw [c2, pk_un (by omega)]; exact hF i hi, Or.inr (Or.inr ⟨rfl, rfl, hA1, hL, hD, by rw [c2, pk_un (by omega)]; exact hF0, by rw [c2, pk_un (by omega)]; exact hF1, by rw [c2]; exact pk_us, Or.inr (Or.inl ⟨rfl, rfl, q1, q2, ?_⟩)⟩)⟩
          by_cases c : A + 3 = E
          · exact Or.inl c
          · exact Or.inr (fun z => hn ⟨by omega, z⟩)
        · refine And.intro v2 ?_
          exact Exists.intro 1 ⟨by show _ < _; omega, x, nI (A + 2 + 2), nI (sv (N 3 (A + 2)) (N 3 (A + 2 + 1))), l3, upd F (x + 2).toNatClampNeg (nI (sv (N 3 (A + 2)) (N 3 (A + 2 + 1)))), hx, rfl, rfl, rfl, fun i hi => by rw [c2, pk_un (by omega)]; exact hF i hi, Or.inr (Or.inr ⟨rfl, rfl, hA1, hL, hD, by rw [c2, pk_un (by omega)]; exact hF0, by rw [c2, pk_un (by omega)]; exact hF1, by rw [c2]; exact pk_us, Or.inr (Or.inr ⟨rfl, rfl, by omega, q2, q4⟩)⟩)⟩
    · have e2 : x + 2 = nI (3 * r + 2) := by rw [hx]; exact nI_add (3 * r) 2
      obtain ⟨v2, c2⟩ := vR (x + 2) 2 (by omega) e2
      have c2' : F (x + 2).toNatClampNeg = v := by rw [c2]; exact hF2
      refine And.intro v2 ?_
      change ip_wp _ _ _ _ _ _ _ _ _ _ _ _ [Value.int (F (x + 2).toNatClampNeg)] _
      rw [c2']
      rcases hv with ⟨rfl, hy, hn⟩ | ⟨rfl, hy, h2, hd1, hn⟩ | ⟨rfl, hy, h3, hd1, hd2⟩
      · refine And.intro (fun _ => ?_) (fun z => absurd rfl z)
        exact And.intro rfl (hbad 2 y (R 15 + 1) F (by omega) (by omega) (fun i hi => by
          rcases (show i = 0 ∨ i = 1 by omega) with rfl | rfl
          · exact okM_0.mpr hL
          · exact okM_1.mpr hD) (hn.elim Or.inl (fun q => Or.inr (fun z => q (okM_2.mp z)))) hy)
      · refine And.intro (fun _ => ?_) (fun z => absurd rfl z)
        exact And.intro rfl (hbad 3 y (R 15 + 1) F (by omega) (by omega) (fun i hi => by
          rcases (show i = 0 ∨ i = 1 ∨ i = 2 by omega) with rfl | rfl | rfl
          · exact okM_0.mpr hL
          · exact okM_1.mpr hD
          · exact okM_2.mpr hd1) (hn.elim Or.inl (fun q => Or.inr (fun z => q (okM_3.mp z)))) hy)
      · have l1 := (sv_ok hd1 hd2).2
        refine And.intro (fun z => absurd z (ne9_n (by omega))) (fun _ => ?_)
        have e15 : R 15 + 1 = nI (r + 1) := by rw [h15]; exact nI_1 r
        have hg := hgood (by omega) (fun i hi => by
          rcases (show i = 0 ∨ i = 1 ∨ i = 2 ∨ i = 3 by omega) with rfl | rfl | rfl | rfl
          · exact okM_0.mpr hL
          · exact okM_1.mpr hD
          · exact okM_2.mpr hd1
          · exact okM_3.mpr hd2) F hF hF0 hF1 hF2
        rw [← e15, ← hy] at hg
        exact And.intro rfl hg
set_option maxRecDepth 100000 in
set_option maxHeartbeats 4000000 in
theorem m_X8_readMan (l : Launch) : ip_Met l yX8_readMan cX8_readMan 4 (some .boolean) (ip_rm 3) C_X8_readMan := ip_met tc_X8_readMan 400 (by decide +kernel) fl_X8_ok cn_X8_ok (ip_cs1 (ip_gsV (m_X8_digit l) (ip_in [742, 744, 14, 39, 745] (by decide +kernel) (by decide +kernel)) rfl ⟨by decide +kernel, by decide +kernel, by decide +kernel⟩ ⟨rfl, rfl, Nat.le_of_ble_eq_true rfl, Nat.le_of_ble_eq_true rfl⟩) (ip_cs1 (ip_gsV (m_X8_readSet l) (ip_in [738, 740, 13, 39, 741] (by decide +kernel) (by decide +kernel)) rfl ⟨by decide +kernel, by decide +kernel, by decide +kernel⟩ ⟨rfl, rfl, Nat.le_of_ble_eq_true rfl, Nat.le_of_ble_eq_true rfl⟩) (ip_cs0))) cj_X8_readMan rfl p_X8_readMan
