/-! ===== the reference: the county by a text ===== -/
theorem go_0 {g : Nat → Int32} {a : Nat} : goP g a 0 ↔ (g a).toInt = 100 := by
  unfold goP
  constructor
  · rintro (h | h | h | h | h)
    · exact h.2
    · exact absurd h.1 (by decide)
    · exact absurd h.1 (by decide)
    · exact absurd h.1 (by decide)
    · exact absurd h.1 (by decide)
  · exact fun h => Or.inl ⟨rfl, h⟩
theorem go_1 {g : Nat → Int32} {a : Nat} : goP g a 1 ↔ isD1 (g (a + 1)) := by
  unfold goP
  constructor
  · rintro (h | h | h | h | h)
    · exact absurd h.1 (by decide)
    · exact h.2
    · exact absurd h.1 (by decide)
    · exact absurd h.1 (by decide)
    · exact absurd h.1 (by decide)
  · exact fun h => Or.inr (Or.inl ⟨rfl, h⟩)
theorem go_2 {g : Nat → Int32} {a : Nat} : goP g a 2 ↔ isD2 (g (a + 1)) (g (a + 2)) := by
  unfold goP
  constructor
  · rintro (h | h | h | h | h)
    · exact absurd h.1 (by decide)
    · exact absurd h.1 (by decide)
    · exact h.2
    · exact absurd h.1 (by decide)
    · exact absurd h.1 (by decide)
  · exact fun h => Or.inr (Or.inr (Or.inl ⟨rfl, h⟩))
theorem go_3 {g : Nat → Int32} {a : Nat} : goP g a 3 ↔ 50 ≤ (g (a + 3)).toInt ∧ (g (a + 3)).toInt ≤ 54 := by
  unfold goP
  constructor
  · rintro (h | h | h | h | h)
    · exact absurd h.1 (by decide)
    · exact absurd h.1 (by decide)
    · exact absurd h.1 (by decide)
    · exact h.2
    · exact absurd h.1 (by decide)
  · exact fun h => Or.inr (Or.inr (Or.inr (Or.inl ⟨rfl, h⟩)))
theorem go_m {g : Nat → Int32} {a i r : Nat} (hr : r < 5) : goP g a (4 + 5 * i + r) ↔ i < 4 ∧ mgo (g (a + (4 + 5 * i + r))) (g (a + 3)) (g (a + (4 + 5 * i + r) - 1)) r := by
  unfold goP
  have e : (4 + 5 * i + r - 4) % 5 = r := by omega
  rw [e]
  constructor
  · rintro (h | h | h | h | h)
    · exact absurd h.1 (by omega)
    · exact absurd h.1 (by omega)
    · exact absurd h.1 (by omega)
    · exact absurd h.1 (by omega)
    · exact ⟨by omega, h.2.2⟩
  · exact fun h => Or.inr (Or.inr (Or.inr (Or.inr ⟨by omega, by omega, h.2⟩)))
theorem mg_0 {c p q : Int32} : mgo c p q 0 ↔ c.toInt = 44 := by
  unfold mgo
  constructor
  · rintro (h | h | h | h | h)
    · exact h.2
    · exact absurd h.1 (by decide)
    · exact absurd h.1 (by decide)
    · exact absurd h.1 (by decide)
    · exact absurd h.1 (by decide)
  · exact fun h => Or.inl ⟨rfl, h⟩
theorem mg_1 {c p q : Int32} : mgo c p q 1 ↔ okL c := by
  unfold mgo okL
  constructor
  · rintro (h | h | h | h | h)
    · exact absurd h.1 (by decide)
    · exact h.2
    · exact absurd h.1 (by decide)
    · exact absurd h.1 (by decide)
    · exact absurd h.1 (by decide)
  · exact fun h => Or.inr (Or.inl ⟨rfl, h⟩)
theorem mg_2 {c p q : Int32} : mgo c p q 2 ↔ 48 ≤ c.toInt ∧ c.toInt < p.toInt := ⟨mgo_2, fun h => Or.inr (Or.inr (Or.inl ⟨rfl, h⟩))⟩
theorem mg_3 {c p q : Int32} : mgo c p q 3 ↔ isD1 c := ⟨mgo_3, fun h => Or.inr (Or.inr (Or.inr (Or.inl ⟨rfl, h⟩)))⟩
theorem mg_4 {c p q : Int32} : mgo c p q 4 ↔ isD2 q c := ⟨mgo_4, fun h => Or.inr (Or.inr (Or.inr (Or.inr ⟨rfl, h⟩)))⟩
/-- a man's codes are those of his places -/
theorem okM_go {g : Nat → Int32} {a i j P : Nat} (hi : i < 4) (hj : j < 4) (hP : 1 ≤ P) (h3 : (g (a + 3)).toInt = 48 + (P : Int)) : okM g (a + (4 + 5 * i) + 1) P j ↔ goP g a (4 + 5 * i + (j + 1)) := by
  rw [go_m (by omega)]
  have e : ∀ d : Nat, a + (4 + 5 * i) + 1 + d = a + (4 + 5 * i + (d + 1)) := fun d => by omega
  rcases (show j = 0 ∨ j = 1 ∨ j = 2 ∨ j = 3 by omega) with rfl | rfl | rfl | rfl
  · rw [okM_0, mg_1]; exact ⟨fun h => ⟨hi, h⟩, fun h => h.2⟩
  · rw [okM_1, mg_2, e 1, h3]
    unfold dgt
    constructor
    · intro h; exact ⟨hi, by omega⟩
    · intro h; omega
  · rw [okM_2, mg_3, e 2]; exact ⟨fun h => ⟨hi, h⟩, fun h => h.2⟩
  · rw [okM_3, mg_4, e 3, e 2, show a + (4 + 5 * i + (3 + 1)) - 1 = a + (4 + 5 * i + (2 + 1)) by omega]; exact ⟨fun h => ⟨hi, h⟩, fun h => h.2⟩
def rdF (C : Nat → Int32) (A r : Nat) (F : Nat → Int32) : Prop := ∀ i, i < r → F (3 * i) = nI (kdB (C (A + (4 + 5 * i + 1)))) ∧ F (3 * i + 1) = nI (nt (C (A + (4 + 5 * i + 2))) - 48) ∧ F (3 * i + 2) = nI (sv (C (A + (4 + 5 * i + 3))) (C (A + (4 + 5 * i + 4))))
def upC (R : Nat → Int32) (x12 x13 x14 x15 : Int32) : Nat → Int32 := va_up (va_up (va_up (va_up R 12 x12) 13 x13) 14 x14) 15 x15
def badT (C : Nat → Int32) (A n t : Nat) : Prop := t ≤ n ∧ (∀ i, i < t → goP C A i) ∧ ((t = n ∧ ¬ (9 ≤ n ∧ (n - 4) % 5 = 0)) ∨ (t < n ∧ ¬ goP C A t))
def C_X8_readCounty : ip_C := fun vs hp K => ∃ R N, ∃ A n : Nat, A + n ≤ 240 ∧ vs = [.ref 0, .int (nI (A + n))] ∧ hp = hpM R N ∧ R 12 = nI A ∧
  (∀ t x12 x13 x14 x15 F, badT (N 3) A n t → x12 = nI (A + t) → K (some (.int 0)) (hpM (upC R x12 x13 x14 x15) (va_up N 7 F))) ∧
  (∀ m F, 1 ≤ m → m ≤ 4 → n = 4 + 5 * m → (∀ i, i < n → goP (N 3) A i) → rdF (N 3) A m F → K (some (.int 1)) (hpM (upC R (nI (A + n)) (nI (sv (N 3 (A + 1)) (N 3 (A + 2)))) (nI (nt (N 3 (A + 3)) - 48)) (nI m)) (va_up N 7 F)))
def tc_X8_readCounty : List ip_I := (0, .aload_n 0, 1, false, 0, 0) :: (1, .iconst 0, 1, false, 0, 0) :: (2, .putfield 109, 3, false, 0, 0) :: (5, .aload_n 0, 1, false, 0, 0) :: (6, .iload_n 1, 1, false, 0, 0) :: (7, .bipush 100, 2, false, 100, 0) :: (9, .invokevirtual 115, 3, false, 0, 0) :: (12, .ifCond .ne 5, 3, false, 0, 17) :: (15, .iconst 0, 1, false, 0, 0) :: (16, .ireturn, 1, false, 0, 0) :: (17, .aload_n 0, 1, false, 0, 0) :: (18, .aload_n 0, 1, false, 0, 0) :: (19, .iload_n 1, 1, false, 0, 0) :: (20, .invokevirtual 119, 3, false, 0, 0) :: (23, .putfield 100, 3, false, 0, 0) :: (26, .aload_n 0, 1, false, 0, 0) :: (27, .getfield 100, 3, false, 0, 0) :: (30, .bipush (-9), 2, false, (-9), 0) :: (32, .if_icmp .ne 5, 3, false, 0, 37) :: (35, .iconst 0, 1, false, 0, 0) :: (36, .ireturn, 1, false, 0, 0) :: (37, .aload_n 0, 1, false, 0, 0) :: (38, .aload_n 0, 1, false, 0, 0) :: (39, .iload_n 1, 1, false, 0, 0) :: (40, .iconst 2, 1, false, 2, 0) :: (41, .bipush 6, 2, false, 6, 0) :: (43, .invokevirtual 78, 3, false, 0, 0) :: (46, .putfield 106, 3, false, 0, 0) :: (49, .aload_n 0, 1, false, 0, 0) :: (50, .getfield 106, 3, false, 0, 0) :: (53, .bipush (-9), 2, false, (-9), 0) :: (55, .if_icmp .ne 5, 3, false, 0, 60) :: (58, .iconst 0, 1, false, 0, 0) :: (59, .ireturn, 1, false, 0, 0) :: (60, .aload_n 0, 1, true, 0, 0) :: (61, .getfield 109, 3, false, 0, 0) :: (64, .ifCond .eq 19, 3, false, 0, 83) :: (67, .aload_n 0, 1, false, 0, 0) :: (68, .getfield 109, 3, false, 0, 0) :: (71, .iconst 4, 1, false, 4, 0) :: (72, .if_icmp .ge 31, 3, false, 0, 103) :: (75, .aload_n 0, 1, false, 0, 0) :: (76, .getfield 75, 3, false, 0, 0) :: (79, .iload_n 1, 1, false, 0, 0) :: (80, .if_icmp .ge 23, 3, false, 0, 103) :: (83, .aload_n 0, 1, true, 0, 0) :: (84, .iload_n 1, 1, false, 0, 0) :: (85, .bipush 44, 2, false, 44, 0) :: (87, .invokevirtual 115, 3, false, 0, 0) :: (90, .ifCond .eq 11, 3, false, 0, 101) :: (93, .aload_n 0, 1, false, 0, 0) :: (94, .iload_n 1, 1, false, 0, 0) :: (95, .invokevirtual 122, 3, false, 0, 0) :: (98, .ifCond .ne (-38), 3, false, 0, 60) :: (101, .iconst 0, 1, false, 0, 0) :: (102, .ireturn, 1, false, 0, 0) :: (103, .aload_n 0, 1, false, 0, 0) :: (104, .getfield 75, 3, false, 0, 0) :: (107, .iload_n 1, 1, false, 0, 0) :: (108, .if_icmp .ne 7, 3, false, 0, 115) :: (111, .iconst 1, 1, false, 1, 0) :: (112, .goto 4, 3, false, 0, 116) :: (115, .iconst 0, 1, false, 0, 0) :: (116, .ireturn, 1, false, 0, 0) :: []
set_option maxRecDepth 100000 in
theorem cj_X8_readCounty : ip_chk cX8_readCounty tc_X8_readCounty = true := by decide +kernel
def cs_X8_readCounty : List ip_G := [(115, 3, 8, C_X8_isSign), (119, 2, 8, C_X8_readSet), (78, 4, 8, C_X8_digit), (122, 2, 8, C_X8_readMan)]
def I_X8_readCounty (R : Nat → Int32) (N : Nat → Nat → Int32) (A n : Nat) : Nat → Nat → ip_P := fun pc kk L st hp => ∃ (r : Nat) (x12 x13 x14 x15 : Int32) (F : Nat → Int32), r ≤ 4 ∧ 4 + 5 * r ≤ n ∧ (∀ i, i < 4 + 5 * r → goP (N 3) A i) ∧ rdF (N 3) A r F ∧ x12 = nI (A + (4 + 5 * r)) ∧ x13 = nI (sv (N 3 (A + 1)) (N 3 (A + 2))) ∧ x14 = nI (nt (N 3 (A + 3)) - 48) ∧ x15 = nI r ∧ L = [some (.ref 0), some (.int (nI (A + n)))] ∧ st = [] ∧ hp = hpM (upC R x12 x13 x14 x15) (va_up N 7 F) ∧ ((pc = 60 ∧ kk = 2 * (4 - r) + 1) ∨ (pc = 83 ∧ kk = 2 * (4 - r) ∧ (r = 0 ∨ (r < 4 ∧ 4 + 5 * r < n))))
theorem p_X8_readCounty : ip_Pf fl_X8 cn_X8 cs_X8_readCounty (some .boolean) tc_X8_readCounty 2 C_X8_readCounty := by
  rintro _ _ K ⟨R, N, A, n, hAn, rfl, rfl, h12, hbad, hgood⟩
  refine ⟨Nat.le_of_ble_eq_true rfl, I_X8_readCounty R N A n, ?_, ?_⟩
  · refine Exists.intro (va_up R 15 0) ⟨N, A, A + n, 100, by omega, hAn, rfl, rfl, h12, fun hn => ?_, fun q1 q2 => ?_⟩
    · refine And.intro (fun z => absurd rfl z) (fun _ => ?_)
      have hb0 : badT (N 3) A n 0 := by
        refine ⟨by omega, fun i hi => absurd hi (by omega), ?_⟩
        by_cases c : n = 0
        · exact Or.inl ⟨c.symm, by omega⟩
        · refine Or.inr ⟨by omega, fun z => hn ⟨by omega, ?_⟩⟩
          rw [fa_eq, go_0.mp z]
          rfl
      exact And.intro rfl (hbad 0 (R 12) (R 13) (R 14) 0 (N 7) hb0 h12)
    refine And.intro (fun _ => ?_) (fun z => absurd z (by decide))
    have g0 : goP (N 3) A 0 := go_0.mpr (by rw [q2]; rfl)
    refine Exists.intro (va_up (va_up R 15 0) 12 (nI (A + 1))) ⟨N, A + 1, A + n, by omega, hAn, rfl, rfl, rfl, fun hn => ?_, fun q3 q4 hn => ?_, fun q3 q4 q5 q6 => ?_⟩
    · refine And.intro (fun z => absurd rfl z) (fun _ => ?_)
      have hb1 : badT (N 3) A n 1 := by
        refine ⟨by omega, fun i hi => by obtain rfl : i = 0 := by omega
                                         exact g0, ?_⟩
        by_cases c : n = 1
        · exact Or.inl ⟨c.symm, by omega⟩
        · exact Or.inr ⟨by omega, fun z => hn ⟨by omega, go_1.mp z⟩⟩
      exact And.intro rfl (hbad 1 (nI (A + 1)) (-9) (R 14) 0 (N 7) hb1 rfl)
    · refine And.intro (fun z => absurd rfl z) (fun _ => ?_)
      have hb2 : badT (N 3) A n 2 := by
        refine ⟨by omega, fun i hi => ?_, ?_⟩
        · rcases (show i = 0 ∨ i = 1 by omega) with rfl | rfl
          · exact g0
          · exact go_1.mpr q4
        by_cases c : n = 2
        · exact Or.inl ⟨c.symm, by omega⟩
        · exact Or.inr ⟨by omega, fun z => hn ⟨by omega, go_2.mp z⟩⟩
      exact And.intro rfl (hbad 2 (nI (A + 2)) (-9) (R 14) 0 (N 7) hb2 rfl)
    have l1 := (sv_ok q4 q6).2
    refine And.intro (fun _ => ?_) (fun z => absurd z (ne9_n (by omega)))
    refine Exists.intro (va_up (va_up (va_up (va_up R 15 0) 12 (nI (A + 1))) 12 (nI (A + 1 + 2))) 13 (nI (sv (N 3 (A + 1)) (N 3 (A + 1 + 1))))) ⟨N, A + 3, A + n, 2, 6, by omega, hAn, by omega, by omega, rfl, rfl, rfl, fun hn => ?_, fun q7 q8 => ?_⟩
    · refine And.intro (fun z => absurd rfl z) (fun _ => ?_)
      have hb3 : badT (N 3) A n 3 := by
        refine ⟨by omega, fun i hi => ?_, ?_⟩
        · rcases (show i = 0 ∨ i = 1 ∨ i = 2 by omega) with rfl | rfl | rfl
          · exact g0
          · exact go_1.mpr q4
          · exact go_2.mpr q6
        by_cases c : n = 3
        · exact Or.inl ⟨c.symm, by omega⟩
        · exact Or.inr ⟨by omega, fun z => hn ⟨by omega, by have := go_3.mp z; unfold dgt; omega⟩⟩
      exact And.intro rfl (hbad 3 (nI (A + 3)) (nI (sv (N 3 (A + 1)) (N 3 (A + 1 + 1)))) (-9) 0 (N 7) hb3 rfl)
    have l2 : nt (N 3 (A + 3)) - 48 < 7 := by unfold dgt at q8; unfold nt; omega
    refine And.intro (fun _ => ?_) (fun z => absurd z (ne9_n (by omega)))
    refine Exists.intro (2 * (4 - 0) + 1) ⟨trivial, 0, nI (A + 3 + 1), nI (sv (N 3 (A + 1)) (N 3 (A + 1 + 1))), nI (nt (N 3 (A + 3)) - 48), 0, N 7, by omega, by omega, fun i hi => ?_, fun i hi => absurd hi (by omega), rfl, rfl, rfl, rfl, rfl, rfl, ?_, Or.inl ⟨rfl, rfl⟩⟩
    · rcases (show i = 0 ∨ i = 1 ∨ i = 2 ∨ i = 3 by omega) with rfl | rfl | rfl | rfl
      · exact g0
      · exact go_1.mpr q4
      · exact go_2.mpr q6
      · exact go_3.mpr (by unfold dgt at q8; omega)
    · show _ = hpM _ (va_up N 7 (N 7))
      rw [up_same N 7]
      rfl
  · rintro pc kk L st hp ⟨r, x12, x13, x14, x15, F, hr4, hrn, hgo, hF, e12, e13, e14, e15, rfl, rfl, rfl, hpc⟩
    have h3 := go_3.mp (hgo 3 (by omega))
    obtain ⟨P, hP, hP1, hP6⟩ : ∃ P : Nat, (N 3 (A + 3)).toInt = 48 + (P : Int) ∧ 1 ≤ P ∧ P ≤ 6 := ⟨((N 3 (A + 3)).toInt - 48).toNat, by omega, by omega, by omega⟩
    have eP : nt (N 3 (A + 3)) - 48 = P := by unfold nt; omega
    rcases hpc with ⟨rfl, rfl⟩ | ⟨rfl, rfl, hrr⟩
    · have to83 : (r = 0 ∨ (r < 4 ∧ 4 + 5 * r < n)) → ∃ kk, ip_lt kk (some (2 * (4 - r) + 1)) ∧ I_X8_readCounty R N A n 83 kk [some (.ref 0), some (.int (nI (A + n)))] [] (hpM (upC R x12 x13 x14 x15) (va_up N 7 F)) := fun h => ⟨2 * (4 - r), by show _ < _; omega, r, x12, x13, x14, x15, F, hr4, hrn, hgo, hF, e12, e13, e14, e15, rfl, rfl, rfl, Or.inr ⟨rfl, rfl, h⟩⟩
      have b0 : ∀ {X Y : Prop}, (r = 0 → X) → (r ≠ 0 → Y) → (x15 = 0 → X) ∧ (¬ x15 = 0 → Y) := fun f g => by rw [e15]; exact pk_eq r 0 f g
      have b4 : ∀ {X Y : Prop}, (4 ≤ r → X) → (r < 4 → Y) → ((4 : Int32) ≤ x15 → X) ∧ (¬ (4 : Int32) ≤ x15 → Y) := fun f g => by rw [e15]; exact pk_le 4 r f g
      have bE : ∀ {X Y : Prop}, (A + n ≤ A + (4 + 5 * r) → X) → (A + (4 + 5 * r) < A + n → Y) → (nI (A + n) ≤ x12 → X) ∧ (¬ nI (A + n) ≤ x12 → Y) := fun f g => by rw [e12]; exact pk_le (A + n) (A + (4 + 5 * r)) f g
      have bN : ∀ {X Y : Prop}, (A + (4 + 5 * r) ≠ A + n → X) → (A + (4 + 5 * r) = A + n → Y) → (¬ x12 = nI (A + n) → X) ∧ (x12 = nI (A + n) → Y) := fun f g => by rw [e12]; exact pk_ne (A + (4 + 5 * r)) (A + n) f g
      have yes : r ≠ 0 → n = 4 + 5 * r → K (some (.int 1)) (hpM (upC R x12 x13 x14 x15) (va_up N 7 F)) := fun h0 hn => by
        have := hgood r F (by omega) hr4 hn (by rw [hn]; exact hgo) hF
        rw [e12, e13, e14, e15, ← hn]
        exact this
      refine b0 (fun h => ?_) (fun h => ?_)
      · exact to83 (Or.inl h)
      refine b4 (fun h2 => ?_) (fun h2 => ?_)
      · obtain rfl : r = 4 := by omega
        refine bN (fun h5 => ?_) (fun h5 => ?_)
        · refine And.intro rfl (hbad 24 x12 x13 x14 x15 F ⟨by omega, hgo, Or.inr ⟨by omega, fun z => ?_⟩⟩ e12)
          have := (go_m (g := N 3) (a := A) (i := 4) (r := 0) (by omega)).mp z
          omega
        · exact And.intro rfl (yes h (by omega))
      refine bE (fun h3 => ?_) (fun h3 => ?_)
      · refine bN (fun h5 => absurd h5 (by omega)) (fun h5 => ?_)
        exact And.intro rfl (yes h (by omega))
      · exact to83 (Or.inr ⟨h2, by omega⟩)
    · have hr : r < 4 := by omega
      refine Exists.intro (upC R x12 x13 x14 x15) ⟨va_up N 7 F, A + (4 + 5 * r), A + n, 44, by omega, hAn, rfl, rfl, e12, fun hn => ?_, fun q1 q2 => ?_⟩
      · refine And.intro (fun _ => ?_) (fun z => absurd rfl z)
        refine And.intro rfl (hbad (4 + 5 * r) x12 x13 x14 x15 F ⟨hrn, hgo, ?_⟩ e12)
        by_cases c : 4 + 5 * r = n
        · exact Or.inl ⟨c, by omega⟩
        · refine Or.inr ⟨by omega, fun z => hn ⟨by omega, ?_⟩⟩
          have := ((go_m (g := N 3) (a := A) (i := r) (r := 0) (by omega)).mp z).2
          rw [mg_0] at this
          rw [fa_eq]
          exact this
      refine And.intro (fun z => absurd z (by decide)) (fun _ => ?_)
      have g0 : goP (N 3) A (4 + 5 * r) := (go_m (g := N 3) (a := A) (i := r) (r := 0) (by omega)).mpr ⟨hr, mg_0.mpr (by
        have : N 3 (A + (4 + 5 * r)) = 44 := q2
        show (N 3 (A + (4 + 5 * r))).toInt = 44
        rw [this]; rfl)⟩
      have gat : ∀ t, t < 5 → (∀ i, i + 1 < t → okM (N 3) (A + (4 + 5 * r) + 1) P i) → ∀ i, i < 4 + 5 * r + t → goP (N 3) A i := fun t ht hok i hi => by
        by_cases c1 : i < 4 + 5 * r
        · exact hgo i c1
        · by_cases c2 : i = 4 + 5 * r
          · rw [c2]; exact g0
          · have := (okM_go (g := N 3) (a := A) (i := r) (j := i - (4 + 5 * r) - 1) hr (by omega) hP1 hP).mp (hok _ (by omega))
            rw [show 4 + 5 * r + (i - (4 + 5 * r) - 1 + 1) = i by omega] at this
            exact this
      refine Exists.intro (va_up (upC R x12 x13 x14 x15) 12 (nI (A + (4 + 5 * r) + 1))) ⟨va_up N 7 F, A + (4 + 5 * r) + 1, A + n, r, P, by omega, hAn, hr, hP1, hP6, rfl, rfl, rfl, (by show x14 = _; rw [e14, eP]), e15, fun j y12 y15 F' hj hjn hok hno hy => ?_, fun h4 hok F' hF1 hF2 hF3 hF4 => ?_⟩
      · refine And.intro (fun z => absurd rfl z) (fun _ => ?_)
        refine And.intro rfl (hbad (4 + 5 * r + (j + 1)) y12 x13 x14 y15 F' ⟨by omega, gat (j + 1) (by omega) (fun i hi => hok i (by omega)), ?_⟩ (by rw [hy, show A + (4 + 5 * r) + 1 + j = A + (4 + 5 * r + (j + 1)) by omega]))
        by_cases c : 4 + 5 * r + (j + 1) = n
        · exact Or.inl ⟨c, by omega⟩
        · refine Or.inr ⟨by omega, fun z => ?_⟩
          rcases hno with q | q
          · omega
          · exact q ((okM_go (g := N 3) (a := A) (i := r) hr hj hP1 hP).mpr z)
      · refine And.intro (fun _ => ?_) (fun z => absurd z (by decide))
        refine Exists.intro (2 * (4 - (r + 1)) + 1) ⟨by show _ < _; omega, r + 1, nI (A + (4 + 5 * r) + 1 + 4), x13, x14, nI (r + 1), F', by omega, by omega, fun i hi => ?_, fun i hi => ?_, by rw [show A + (4 + 5 * r) + 1 + 4 = A + (4 + 5 * (r + 1)) by omega], e13, e14, rfl, rfl, rfl, rfl, Or.inl ⟨rfl, rfl⟩⟩
        · by_cases c : i < 4 + 5 * r + 4
          · exact gat 4 (by omega) (fun i hi => hok i (by omega)) i c
          · obtain rfl : i = 4 + 5 * r + (3 + 1) := by omega
            exact (okM_go (g := N 3) (a := A) (i := r) (j := 3) hr (by omega) hP1 hP).mp (hok 3 (by omega))
        · by_cases c : i < r
          · obtain ⟨z1, z2, z3⟩ := hF i c
            rw [hF1 (3 * i) (by omega), hF1 (3 * i + 1) (by omega), hF1 (3 * i + 2) (by omega)]
            exact ⟨z1, z2, z3⟩
          · obtain rfl : i = r := by omega
            refine ⟨by rw [hF2]; rfl, by rw [hF3]; rfl, by rw [hF4]; rfl⟩
set_option maxRecDepth 100000 in
set_option maxHeartbeats 4000000 in
theorem m_X8_readCounty (l : Launch) : ip_Met l yX8_readCounty cX8_readCounty 2 (some .boolean) (ip_rm 4) C_X8_readCounty := ip_met tc_X8_readCounty 400 (by decide +kernel) fl_X8_ok cn_X8_ok (ip_cs1 (ip_gsV (m_X8_isSign l) (ip_in [734, 736, 12, 39, 737] (by decide +kernel) (by decide +kernel)) rfl ⟨by decide +kernel, by decide +kernel, by decide +kernel⟩ ⟨rfl, rfl, Nat.le_of_ble_eq_true rfl, Nat.le_of_ble_eq_true rfl⟩) (ip_cs1 (ip_gsV (m_X8_readSet l) (ip_in [738, 740, 13, 39, 741] (by decide +kernel) (by decide +kernel)) rfl ⟨by decide +kernel, by decide +kernel, by decide +kernel⟩ ⟨rfl, rfl, Nat.le_of_ble_eq_true rfl, Nat.le_of_ble_eq_true rfl⟩) (ip_cs1 (ip_gsV (m_X8_digit l) (ip_in [742, 744, 14, 39, 745] (by decide +kernel) (by decide +kernel)) rfl ⟨by decide +kernel, by decide +kernel, by decide +kernel⟩ ⟨rfl, rfl, Nat.le_of_ble_eq_true rfl, Nat.le_of_ble_eq_true rfl⟩) (ip_cs1 (ip_gsV (m_X8_readMan l) (ip_in [746, 748, 15, 39, 749] (by decide +kernel) (by decide +kernel)) rfl ⟨by decide +kernel, by decide +kernel, by decide +kernel⟩ ⟨rfl, rfl, Nat.le_of_ble_eq_true rfl, Nat.le_of_ble_eq_true rfl⟩) (ip_cs0))))) cj_X8_readCounty rfl p_X8_readCounty
