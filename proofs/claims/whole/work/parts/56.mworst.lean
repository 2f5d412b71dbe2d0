/-! ===== the reference: worst ===== -/
def C_X8_struckWith : ip_C := fun vs hp K => ∃ R N S, ∃ p s : Nat, p < 6 ∧ s < 64 ∧ vs = [.ref 0, .int (nI p), .int (nI s)] ∧ hp = hpM R N ∧ wfM S ∧ relM S R N 0 ∧ K (some (.int (nI (sw S p s)))) hp
def cs_X8_struckWith : List ip_G := [(150, 2, 8, C_X8_dangersOf)]
theorem p_X8_struckWith : ip_Pf fl_X8 cn_X8 cs_X8_struckWith (some .int) tb_X8_struckWith 3 C_X8_struckWith := ip_pf0 (by
  rintro _ _ K ⟨R, N, S, p, s, hp, hs, rfl, rfl, hw, hr, hK⟩
  refine ⟨Nat.le_of_ble_eq_true rfl, ?_⟩
  refine Exists.intro R ⟨N, S, p, 0, by omega, by decide, rfl, rfl, hw, hr, ?_⟩
  rw [dgpM_0]
  have hl := dgp_lt S p
  have hsh := sh1 ⟨p, by omega⟩
  simp only at hsh
  refine pk_ne (dgp S p) 0 (fun h => ?_) (fun h => ?_)
  · rw [sw, if_neg h, ← fa_or, ← hsh] at hK
    exact hK
  · rw [sw, if_pos h] at hK
    exact hK)
set_option maxRecDepth 100000 in
set_option maxHeartbeats 4000000 in
theorem m_X8_struckWith (l : Launch) : ip_Met l yX8_struckWith cX8_struckWith 3 (some .int) (ip_rm 4) C_X8_struckWith := ip_met tb_X8_struckWith 400 (by decide +kernel) fl_X8_ok cn_X8_ok (ip_cs1 (ip_gsV (m_X8_dangersOf l) (ip_in [804, 806, 21, 39, 807] (by decide +kernel) (by decide +kernel)) rfl ⟨by decide +kernel, by decide +kernel, by decide +kernel⟩ ⟨rfl, rfl, Nat.le_of_ble_eq_true rfl, Nat.le_of_ble_eq_true rfl⟩) (ip_cs0)) ck_X8_struckWith rfl p_X8_struckWith
theorem sw_lt {S : Nat → Nat} {q s : Nat} (hq : q < 6) (hs : s < 64) : sw S q s < 64 := by
  unfold sw
  split
  · exact hs
  · exact or64 hs (by have : 2 ^ q < 2 ^ 6 := Nat.pow_lt_pow_right (by omega) hq; omega)
def e3 (S : Nat → Nat) (q s j d : Nat) : Bool := decide (1 ≤ q + d ∧ q + d - 1 < S 2) && j == 64 * (q + d - 1) + sw S (q + d - 1) s
def e2 (S : Nat → Nat) (f : Nat → Bool) (q j s : Nat) : Bool := f (64 * q + s) && anyb 3 (e3 S q s j)
def e1 (S : Nat → Nat) (f : Nat → Bool) (j q : Nat) : Bool := anyb 64 (e2 S f q j)
theorem nxB_e (S : Nat → Nat) (f : Nat → Bool) (j : Nat) : nxB S f j = anyb (S 2) (e1 S f j) := rfl
def rowB (F : Nat → Int32) (f : Nat → Bool) : Prop := ∀ j, j < 384 → F j = ip_bi (f j)
def C_X8_goOn : ip_C := fun vs hp K => ∃ R N S f, vs = [.ref 0] ∧ hp = hpM R N ∧ wfM S ∧ relM S R N 0 ∧ rowB (N 12) f ∧ ∀ F12 F13, rowB F12 (nxB S f) → K none (hpM R (va_up (va_up N 12 F12) 13 F13))
def cs_X8_goOn : List ip_G := [(131, 2, 8, C_X8_isParish), (172, 3, 8, C_X8_struckWith)]
def I_X8_goOn (R : Nat → Int32) (N : Nat → Nat → Int32) (S : Nat → Nat) (f : Nat → Bool) : Nat → Nat → ip_P := fun pc kk L st hp => ∃ (A B : Nat → Int32), hp = hpM R (va_up (va_up N 12 A) 13 B) ∧ st = [] ∧
  ((pc = 2 ∧ ∃ (k : Nat) (x : Int32) (l2 l3 : Option Value), k ≤ 384 ∧ kk = 20000 + (384 - k) ∧ L = [some (.ref 0), some (.int x), l2, l3] ∧ x = nI k ∧ rowB A f ∧ ∀ j, j < k → B j = 0) ∨
  (pc = 24 ∧ ∃ (q : Nat) (x : Int32) (l2 l3 : Option Value), q ≤ S 2 ∧ kk = 1000 * (S 2 - q) + 1000 ∧ L = [some (.ref 0), some (.int x), l2, l3] ∧ x = nI q ∧ rowB A f ∧ rowB B (fun j => anyb q (e1 S f j))) ∨
  (pc = 34 ∧ ∃ (q s : Nat) (x y : Int32) (l3 : Option Value), q < S 2 ∧ s ≤ 64 ∧ kk = 1000 * (S 2 - q) + 10 * (64 - s) + 9 ∧ L = [some (.ref 0), some (.int x), some (.int y), l3] ∧ x = nI q ∧ y = nI s ∧ rowB A f ∧ rowB B (fun j => anyb q (e1 S f j) || anyb s (e2 S f q j))) ∨
  (pc = 44 ∧ ∃ (q s d : Nat) (x y z : Int32), q < S 2 ∧ s < 64 ∧ d ≤ 3 ∧ kk = 1000 * (S 2 - q) + 10 * (64 - s) + (3 - d) ∧ L = [some (.ref 0), some (.int x), some (.int y), some (.int z)] ∧ x = nI q ∧ y = nI s ∧ z = nI (q + d) - 1 ∧ rowB A f ∧ rowB B (fun j => anyb q (e1 S f j) || (anyb s (e2 S f q j) || (f (64 * q + s) && anyb d (e3 S q s j))))) ∨
  (pc = 110 ∧ ∃ (k : Nat) (x : Int32) (l2 l3 : Option Value), k ≤ 384 ∧ kk = 384 - k ∧ L = [some (.ref 0), some (.int x), l2, l3] ∧ x = nI k ∧ rowB B (nxB S f) ∧ ∀ j, j < k → A j = ip_bi (nxB S f j)))
theorem z_toInt {q d : Nat} (h : q + d < 50) : (nI (q + d) - 1).toInt = (q : Int) + d - 1 := by
  rw [nx1 (q + d) (by omega)]
  omega
theorem p_X8_goOn : ip_Pf fl_X8 cn_X8 cs_X8_goOn none tb_X8_goOn 4 C_X8_goOn := by
  rintro _ _ K ⟨R, N, S, f, rfl, rfl, hw, hr, hf, hK⟩
  have w2 := hw.2.1
  have m6 := hr.2.1
  refine ⟨Nat.le_of_ble_eq_true rfl, I_X8_goOn R N S f, ?_, ?_⟩
  · exact Exists.intro (20000 + (384 - 0)) ⟨trivial, N 12, N 13, congrArg (hpM R) (by rw [up_same N 12]; exact (up_same N 13).symm), rfl, Or.inl ⟨rfl, 0, _, _, _, by omega, rfl, rfl, rfl, hf, fun j hj => absurd hj (by omega)⟩⟩
  · rintro pc kk L st hp ⟨A, B, rfl, rfl, hI⟩
    rcases hI with ⟨rfl, k, x, l2, l3, hk, rfl, rfl, hx, hA, hB⟩ | ⟨rfl, q, x, l2, l3, hq, rfl, rfl, hx, hA, hB⟩ | ⟨rfl, q, s, x, y, l3, hq, hs, rfl, rfl, hx, hy, hA, hB⟩ | ⟨rfl, q, s, d, x, y, z, hq, hs, hd, rfl, rfl, hx, hy, hz, hA, hB⟩ | ⟨rfl, k, x, l2, l3, hk, rfl, rfl, hx, hB, hA⟩
    · have b1 : ∀ {X Y : Prop}, (384 ≤ k → X) → (k < 384 → Y) → ((384 : Int32) ≤ x → X) ∧ (¬ (384 : Int32) ≤ x → Y) := fun f g => by rw [hx]; exact pk_le 384 k f g
      refine b1 (fun h => ?_) (fun h => ?_)
      · exact Exists.intro (1000 * (S 2 - 0) + 1000) ⟨by show _ < _; omega, A, B, rfl, rfl, Or.inr (Or.inl ⟨rfl, 0, _, _, _, by omega, rfl, rfl, rfl, hA, fun j hj => by rw [hB j (by omega)]; rfl⟩)⟩
      · have hv : vp_in x 384 := by rw [hx]; exact pk_in k 384 h
        have hc : x.toNatClampNeg = k := by rw [hx]; exact nI_clamp (n := k) (by omega)
        refine And.intro hv ?_
        refine Exists.intro (20000 + (384 - (k + 1))) ⟨by show _ < _; omega, A, upd B x.toNatClampNeg (vp_nar .boolean 0), rfl, rfl, Or.inl ⟨rfl, k + 1, _, _, _, by omega, rfl, rfl, by rw [hx]; exact nI_1 k, hA, fun j hj => ?_⟩⟩
        rw [hc]
        rcases Nat.lt_or_ge j k with u | u
        · rw [pk_un (by omega)]; exact hB j u
        · obtain rfl : j = k := by omega
          rw [pk_us]; rfl
    · have b1 : ∀ {X Y : Prop}, (S 2 ≤ q → X) → (q < S 2 → Y) → (R 6 ≤ x → X) ∧ (¬ R 6 ≤ x → Y) := fun f g => by rw [hx, m6]; exact pk_le (S 2) q f g
      refine b1 (fun h => ?_) (fun h => ?_)
      · obtain rfl : q = S 2 := by omega
        exact Exists.intro (384 - 0) ⟨by show _ < _; omega, A, B, rfl, rfl, Or.inr (Or.inr (Or.inr (Or.inr ⟨rfl, 0, _, _, _, by omega, rfl, rfl, rfl, hB, fun j hj => absurd hj (by omega)⟩)))⟩
      · exact Exists.intro (1000 * (S 2 - q) + 10 * (64 - 0) + 9) ⟨by show _ < _; omega, A, B, rfl, rfl, Or.inr (Or.inr (Or.inl ⟨rfl, q, 0, _, _, _, h, by omega, rfl, rfl, hx, rfl, hA, fun j hj => by rw [hB j hj]; simp [anyb]⟩))⟩
    · have b1 : ∀ {X Y : Prop}, (64 ≤ s → X) → (s < 64 → Y) → ((64 : Int32) ≤ y → X) ∧ (¬ (64 : Int32) ≤ y → Y) := fun f g => by rw [hy]; exact pk_le 64 s f g
      refine b1 (fun h => ?_) (fun h => ?_)
      · obtain rfl : s = 64 := by omega
        exact Exists.intro (1000 * (S 2 - (q + 1)) + 1000) ⟨by show _ < _; omega, A, B, rfl, rfl, Or.inr (Or.inl ⟨rfl, q + 1, _, _, _, by omega, rfl, rfl, by rw [hx]; exact nI_1 q, hA, hB⟩)⟩
      · exact Exists.intro (1000 * (S 2 - q) + 10 * (64 - s) + (3 - 0)) ⟨by show _ < _; omega, A, B, rfl, rfl, Or.inr (Or.inr (Or.inr (Or.inl ⟨rfl, q, s, 0, _, _, _, hq, h, by omega, rfl, rfl, hx, hy, by rw [hx]; rfl, hA, fun j hj => by rw [hB j hj]; simp [anyb]⟩)))⟩
    · have ez := z_toInt (q := q) (d := d) (by omega)
      have ex : (x + 1).toInt = (q : Int) + 1 := by rw [hx, nI_1, ti_n (by omega)]; omega
      have b1 : ∀ {X Y : Prop}, ((q : Int) + 1 < (q : Int) + d - 1 → X) → ((q : Int) + d - 1 ≤ (q : Int) + 1 → Y) → (x + 1 < z → X) ∧ (¬ x + 1 < z → Y) := fun f g => bz_lt _ _ f g ex (by rw [hz]; exact ez)
      have hnext : rowB B (fun j => anyb q (e1 S f j) || anyb (s + 1) (e2 S f q j)) → ∃ kk', ip_lt kk' (some (1000 * (S 2 - q) + 10 * (64 - s) + (3 - d))) ∧ I_X8_goOn R N S f 34 kk' [some (.ref 0), some (.int x), some (.int (y + 1)), some (.int z)] [] (hpM R (va_up (va_up N 12 A) 13 B)) := fun hB' => ⟨1000 * (S 2 - q) + 10 * (64 - (s + 1)) + 9, by show _ < _; omega, A, B, rfl, rfl, Or.inr (Or.inr (Or.inl ⟨rfl, q, s + 1, _, _, _, hq, by omega, rfl, rfl, hx, by rw [hy]; exact nI_1 s, hA, hB'⟩))⟩
      have hgo : ∀ B', d < 3 → rowB B' (fun j => anyb q (e1 S f j) || (anyb s (e2 S f q j) || (f (64 * q + s) && anyb (d + 1) (e3 S q s j)))) → ∃ kk', ip_lt kk' (some (1000 * (S 2 - q) + 10 * (64 - s) + (3 - d))) ∧ I_X8_goOn R N S f 44 kk' [some (.ref 0), some (.int x), some (.int y), some (.int (z + 1))] [] (hpM R (va_up (va_up N 12 A) 13 B')) := fun B' hd3 hB' => ⟨1000 * (S 2 - q) + 10 * (64 - s) + (3 - (d + 1)), by show _ < _; omega, A, B', rfl, rfl, Or.inr (Or.inr (Or.inr (Or.inl ⟨rfl, q, s, d + 1, _, _, _, hq, hs, by omega, rfl, rfl, hx, hy, by rw [hz, Int32.sub_add_cancel]; exact (nI_pred (q + d)).symm, hA, hB'⟩)))⟩
      refine b1 (fun h => ?_) (fun h => ?_)
      · obtain rfl : d = 3 := by omega
        exact hnext (fun j hj => by rw [hB j hj]; rfl)
      have hd3 : d < 3 := by omega
      have e1' : 64 * x + y = nI (64 * q + s) := by rw [hx, hy, show (64 : Int32) = nI 64 from rfl, pk_mul, nI_add]
      have hv : vp_in (64 * x + y) 384 := by rw [e1']; exact pk_in (64 * q + s) 384 (by omega)
      have hAv : A (64 * x + y).toNatClampNeg = ip_bi (f (64 * q + s)) := by rw [e1', nI_clamp (by omega)]; exact hA _ (by omega)
      refine And.intro hv ?_
      have b2 : ∀ {X Y : Prop}, (f (64 * q + s) = false → X) → (f (64 * q + s) = true → Y) → (A (64 * x + y).toNatClampNeg = 0 → X) ∧ (¬ A (64 * x + y).toNatClampNeg = 0 → Y) := fun f g => by rw [hAv]; exact ip_bt f g
      refine b2 (fun h2 => ?_) (fun h2 => ?_)
      · exact hnext (fun j hj => by rw [hB j hj]; simp [anyb, e2, h2])
      refine Exists.intro R ⟨_, z, S 2, rfl, rfl, m6, w2, fun b hb => ?_⟩
      have hb : b = true ↔ inI z (S 2) := hb
      refine ip_bt (fun h3 => ?_) (fun h3 => ?_)
      · have hno : ¬ (1 ≤ q + d ∧ q + d - 1 < S 2) := fun u => by
          rw [hb.mpr (by unfold inI; rw [hz, ez]; omega)] at h3
          cases h3
        exact hgo B hd3 (fun j hj => by rw [hB j hj]; simp [anyb, e3, hno])
      · have hin := hb.mp h3
        have hyes : 1 ≤ q + d ∧ q + d - 1 < S 2 := by
          unfold inI at hin
          rw [hz, ez] at hin
          omega
        have ezn : z = nI (q + d - 1) := by rw [hz, show (1 : Int32) = nI 1 from rfl, pk_sub (by omega)]
        have hsw := sw_lt (S := S) (q := q + d - 1) (s := s) (by omega) hs
        refine Exists.intro R ⟨_, S, q + d - 1, s, by omega, hs, (by show [Value.ref 0, .int z, .int y] = _; rw [ezn, hy]), rfl, hw, hr, ?_⟩
        have e4 : 64 * z + nI (sw S (q + d - 1) s) = nI (64 * (q + d - 1) + sw S (q + d - 1) s) := by rw [ezn, show (64 : Int32) = nI 64 from rfl, pk_mul, nI_add]
        have hv2 : vp_in (64 * z + nI (sw S (q + d - 1) s)) 384 := by rw [e4]; exact pk_in (64 * (q + d - 1) + sw S (q + d - 1) s) 384 (by omega)
        have hc2 : (64 * z + nI (sw S (q + d - 1) s)).toNatClampNeg = 64 * (q + d - 1) + sw S (q + d - 1) s := by rw [e4]; exact nI_clamp (by omega)
        refine And.intro hv2 ?_
        refine hgo (upd B (64 * z + nI (sw S (q + d - 1) s)).toNatClampNeg (vp_nar .boolean 1)) hd3 (fun j hj => ?_)
        rw [hc2]
        by_cases e : j = 64 * (q + d - 1) + sw S (q + d - 1) s
        · subst e
          rw [pk_us]
          simp only [anyb, e3, h2, decide_eq_true hyes, beq_self_eq_true, Bool.true_and, Bool.or_true]
          rfl
        · rw [pk_un (by omega), hB j hj]
          have : (j == 64 * (q + d - 1) + sw S (q + d - 1) s) = false := by simpa using e
          simp only [anyb, e3, this, Bool.and_false, Bool.or_false]
    · have b1 : ∀ {X Y : Prop}, (384 ≤ k → X) → (k < 384 → Y) → ((384 : Int32) ≤ x → X) ∧ (¬ (384 : Int32) ≤ x → Y) := fun f g => by rw [hx]; exact pk_le 384 k f g
      refine b1 (fun h => ?_) (fun h => ?_)
      · exact hK A B (fun j hj => hA j (by omega))
      · have hv : vp_in x 384 := by rw [hx]; exact pk_in k 384 h
        have hc : x.toNatClampNeg = k := by rw [hx]; exact nI_clamp (n := k) (by omega)
        refine And.intro hv ?_
        refine And.intro hv ?_
        refine Exists.intro (384 - (k + 1)) ⟨by show _ < _; omega, upd A x.toNatClampNeg (vp_nar .boolean (B x.toNatClampNeg)), B, rfl, rfl, Or.inr (Or.inr (Or.inr (Or.inr ⟨rfl, k + 1, _, _, _, by omega, rfl, rfl, by rw [hx]; exact nI_1 k, hB, fun j hj => ?_⟩)))⟩
        rw [hc]
        rcases Nat.lt_or_ge j k with u | u
        · rw [pk_un (by omega)]; exact hA j u
        · obtain rfl : j = k := by omega
          rw [pk_us, hB j h, nar_bi]
set_option maxRecDepth 100000 in
set_option maxHeartbeats 4000000 in
theorem m_X8_goOn (l : Launch) : ip_Met l yX8_goOn cX8_goOn 4 none (ip_rm 5) C_X8_goOn := ip_met tb_X8_goOn 400 (by decide +kernel) fl_X8_ok cn_X8_ok (ip_cs1 (ip_gsV (m_X8_isParish l) (ip_in [769, 771, 17, 39, 772] (by decide +kernel) (by decide +kernel)) rfl ⟨by decide +kernel, by decide +kernel, by decide +kernel⟩ ⟨rfl, rfl, Nat.le_of_ble_eq_true rfl, Nat.le_of_ble_eq_true rfl⟩) (ip_cs1 (ip_gsV (m_X8_struckWith l) (ip_in [842, 844, 25, 39, 845] (by decide +kernel) (by decide +kernel)) rfl ⟨by decide +kernel, by decide +kernel, by decide +kernel⟩ ⟨rfl, rfl, Nat.le_of_ble_eq_true rfl, Nat.le_of_ble_eq_true rfl⟩) (ip_cs0))) ck_X8_goOn rfl p_X8_goOn
def C_X8_worst : ip_C := fun vs hp K => ∃ tc S G R N, ∃ p n : Int32, vs = [.ref 0, .int p, .int n] ∧ hp = hpM R N ∧ wfC S G ∧ relA tc S G R N ∧ ∀ R' N', relA tc S G R' N' → K (some (.int (r_worst S p n))) (hpM R' N')
def cs_X8_worst : List ip_G := [(131, 2, 8, C_X8_isParish), (65, 3, 0, C_X8_within), (172, 3, 8, C_X8_struckWith), (175, 1, 8, C_X8_goOn), (169, 1, 0, C_X8_size)]
def I_X8_worst (P : Prop) (R : Nat → Int32) (N : Nat → Nat → Int32) (S : Nat → Nat) (p n : Nat) : Nat → Nat → ip_P := fun pc kk L st hp => P ∧ ∃ (A B : Nat → Int32), hp = hpM R (va_up (va_up N 12 A) 13 B) ∧ st = [] ∧
  ((pc = 31 ∧ ∃ (k : Nat) (x : Int32) (l4 : Option Value), k ≤ 384 ∧ kk = 30000 + (384 - k) ∧ L = [some (.ref 0), some (.int (nI p)), some (.int (nI n)), some (.int x), l4] ∧ x = nI k ∧ ∀ j, j < k → A j = 0) ∨
  (pc = 70 ∧ ∃ (t : Nat) (x : Int32) (l4 : Option Value), t + 1 ≤ n ∧ kk = 1000 + (n - t) ∧ L = [some (.ref 0), some (.int (nI p)), some (.int (nI n)), some (.int x), l4] ∧ x = nI (t + 1) ∧ rowB A (rch S p t)) ∨
  (pc = 90 ∧ ∃ (k : Nat) (x y : Int32), k ≤ 384 ∧ kk = 384 - k ∧ L = [some (.ref 0), some (.int (nI p)), some (.int (nI n)), some (.int x), some (.int y)] ∧ x = nI (mxB (rch S p (n - 1)) k) ∧ y = nI k ∧ rowB A (rch S p (n - 1))))
theorem p_X8_worst : ip_Pf fl_X8 cn_X8 cs_X8_worst (some .int) tb_X8_worst 5 C_X8_worst := by
  rintro _ _ K ⟨tc, S, G, R, N, p, n, rfl, rfl, hwf, hrel, hK⟩
  have w2 := hwf.1.2.1
  have hr := hrel.2.2.1
  have m6 := hr.2.1
  refine ⟨Nat.le_of_ble_eq_true rfl, I_X8_worst (inI p (S 2) ∧ 0 < n.toInt ∧ n.toInt ≤ 12) R N S (nt p) (nt n), ?_, ?_⟩
  · refine Exists.intro R ⟨N, p, S 2, rfl, rfl, m6, w2, fun b hb => ?_⟩
    refine ip_bn (fun h => ?_) (fun h => ?_)
    rotate_left
    · have hno : ¬ inI p (S 2) := fun z => by rw [hb.mpr z] at h; cases h
      rw [r_worst, if_pos hno] at hK
      exact hK R N hrel
    have hin : inI p (S 2) := hb.mp h
    rw [r_worst, if_neg (not_not_intro hin)] at hK
    change ip_wp _ _ _ _ _ _ _ _ _ _ _ _ [] _
    refine Exists.intro n ⟨0, 12, rfl, fun b2 hb2 => ?_⟩
    have t0 : (0 : Int32).toInt = 0 := by decide
    have t12 : (12 : Int32).toInt = 12 := by decide
    rw [t0, t12] at hb2
    refine ip_bn (fun h2 => ?_) (fun h2 => ?_)
    rotate_left
    · have hno : ¬ (0 ≤ n.toInt ∧ n.toInt ≤ 12) := fun z => by rw [hb2.mpr z] at h2; cases h2
      rw [if_pos hno] at hK
      exact hK R N hrel
    have hn := hb2.mp h2
    rw [if_neg (not_not_intro hn)] at hK
    refine bz_ne n.toInt 0 (fun h3 => ?_) (fun h3 => ?_)
    · obtain ⟨i, hi, rfl, ei⟩ := ti_of hin.1
      obtain ⟨j, hj, rfl, ej⟩ := ti_of hn.1
      rw [nt_n hi, nt_n hj]
      exact Exists.intro (30000 + (384 - 0)) ⟨trivial, ⟨hin, by omega, hn.2⟩, N 12, N 13, congrArg (hpM R) (by rw [up_same N 12]; exact (up_same N 13).symm), rfl, Or.inl ⟨rfl, 0, _, _, by omega, rfl, rfl, rfl, fun j hj => absurd hj (by omega)⟩⟩
    · have e : nt n = 0 := by unfold nt; omega
      rw [e, worst_0] at hK
      exact hK R N hrel
  · rintro pc kk L st hp ⟨⟨hin, hn1, hn12⟩, A, B, rfl, rfl, hI⟩
    have hP : inI p (S 2) ∧ 0 < n.toInt ∧ n.toInt ≤ 12 := ⟨hin, hn1, hn12⟩
    obtain ⟨hpl, -⟩ := inI_nt hin
    have hn0 : 1 ≤ nt n := by unfold nt; omega
    have hn2 : nt n ≤ 12 := by unfold nt; omega
    rw [r_worst, if_neg (not_not_intro hin), if_neg (not_not_intro ⟨by omega, hn12⟩), show nt n = (nt n - 1) + 1 by omega, ← worst_is w2 hpl] at hK
    have hKA : ∀ A B, K (some (.int (nI (mxB (rch S (nt p) (nt n - 1)) 384)))) (hpM R (va_up (va_up N 12 A) 13 B)) := fun A B => hK R _ hrel
    clear hK
    generalize nt p = p' at *
    generalize nt n = n' at *
    rcases hI with ⟨rfl, k, x, l4, hk, rfl, rfl, hx, hA⟩ | ⟨rfl, t, x, l4, ht, rfl, rfl, hx, hA⟩ | ⟨rfl, k, x, y, hk, rfl, rfl, hx, hy, hA⟩
    · have b1 : ∀ {X Y : Prop}, (384 ≤ k → X) → (k < 384 → Y) → ((384 : Int32) ≤ x → X) ∧ (¬ (384 : Int32) ≤ x → Y) := fun f g => by rw [hx]; exact pk_le 384 k f g
      refine b1 (fun h => ?_) (fun h => ?_)
      · refine Exists.intro R ⟨_, S, p', 0, by omega, by decide, rfl, rfl, hwf.1, hr, ?_⟩
        have hsw := sw_lt (S := S) (q := p') (s := 0) (by omega) (by decide)
        have e4 : 64 * nI p' + nI (sw S p' 0) = nI (64 * p' + sw S p' 0) := by rw [show (64 : Int32) = nI 64 from rfl, pk_mul, nI_add]
        have hv2 : vp_in (64 * nI p' + nI (sw S p' 0)) 384 := by rw [e4]; exact pk_in (64 * p' + sw S p' 0) 384 (by omega)
        have hc2 : (64 * nI p' + nI (sw S p' 0)).toNatClampNeg = 64 * p' + sw S p' 0 := by rw [e4]; exact nI_clamp (by omega)
        refine And.intro hv2 ?_
        refine Exists.intro (1000 + (n' - 0)) ⟨by show _ < _; omega, hP, upd A (64 * nI p' + nI (sw S p' 0)).toNatClampNeg (vp_nar .boolean 1), B, rfl, rfl, Or.inr (Or.inl ⟨rfl, 0, _, _, by omega, rfl, rfl, rfl, fun j hj => ?_⟩)⟩
        rw [hc2]
        by_cases e : j = 64 * p' + sw S p' 0
        · subst e
          rw [pk_us]
          simp only [rch, beq_self_eq_true]
          rfl
        · rw [pk_un (by omega), hA j (by omega)]
          have : (j == 64 * p' + sw S p' 0) = false := by simpa using e
          simp only [rch, this]
          rfl
      · have hv : vp_in x 384 := by rw [hx]; exact pk_in k 384 h
        have hc : x.toNatClampNeg = k := by rw [hx]; exact nI_clamp (n := k) (by omega)
        refine And.intro hv ?_
        refine Exists.intro (30000 + (384 - (k + 1))) ⟨by show _ < _; omega, hP, upd A x.toNatClampNeg (vp_nar .boolean 0), B, rfl, rfl, Or.inl ⟨rfl, k + 1, _, _, by omega, rfl, rfl, by rw [hx]; exact nI_1 k, fun j hj => ?_⟩⟩
        rw [hc]
        rcases Nat.lt_or_ge j k with u | u
        · rw [pk_un (by omega)]; exact hA j u
        · obtain rfl : j = k := by omega
          rw [pk_us]; rfl
    · have b1 : ∀ {X Y : Prop}, (n' ≤ t + 1 → X) → (t + 1 < n' → Y) → (nI n' ≤ x → X) ∧ (¬ nI n' ≤ x → Y) := fun f g => by rw [hx]; exact pk_le n' (t + 1) f g
      refine b1 (fun h => ?_) (fun h => ?_)
      · obtain rfl : t = n' - 1 := by omega
        exact Exists.intro (384 - 0) ⟨by show _ < _; omega, hP, A, B, rfl, rfl, Or.inr (Or.inr ⟨rfl, 0, _, _, by omega, rfl, rfl, rfl, rfl, hA⟩)⟩
      · refine Exists.intro R ⟨va_up (va_up N 12 A) 13 B, S, rch S p' t, rfl, rfl, hwf.1, hr, hA, fun F12 F13 hF => ?_⟩
        exact Exists.intro (1000 + (n' - (t + 1))) ⟨by show _ < _; omega, hP, F12, F13, rfl, rfl, Or.inr (Or.inl ⟨rfl, t + 1, _, _, by omega, rfl, rfl, by rw [hx]; exact nI_1 (t + 1), hF⟩)⟩
    · have b1 : ∀ {X Y : Prop}, (384 ≤ k → X) → (k < 384 → Y) → ((384 : Int32) ≤ y → X) ∧ (¬ (384 : Int32) ≤ y → Y) := fun f g => by rw [hy]; exact pk_le 384 k f g
      generalize hf : rch S p' (n' - 1) = f at *
      refine b1 (fun h => ?_) (fun h => ?_)
      · obtain rfl : k = 384 := by omega
        rw [hx]
        exact hKA A B
      · have hv : vp_in y 384 := by rw [hy]; exact pk_in k 384 h
        have hc : y.toNatClampNeg = k := by rw [hy]; exact nI_clamp (n := k) (by omega)
        have hAv : A y.toNatClampNeg = ip_bi (f k) := by rw [hc]; exact hA k h
        have hn : ∀ x' : Int32, x' = nI (mxB f (k + 1)) → ∃ kk', ip_lt kk' (some (384 - k)) ∧ I_X8_worst (inI p (S 2) ∧ 0 < n.toInt ∧ n.toInt ≤ 12) R N S p' n' 90 kk' [some (.ref 0), some (.int (nI p')), some (.int (nI n')), some (.int x'), some (.int (y + 1))] [] (hpM R (va_up (va_up N 12 A) 13 B)) := fun x' hx' => ⟨384 - (k + 1), by show _ < _; omega, hP, A, B, rfl, rfl, Or.inr (Or.inr ⟨rfl, k + 1, x', _, by omega, rfl, rfl, by rw [hf]; exact hx', by rw [hy]; exact nI_1 k, by rw [hf]; exact hA⟩)⟩
        refine And.intro hv ?_
        have b2 : ∀ {X Y : Prop}, (f k = false → X) → (f k = true → Y) → (A y.toNatClampNeg = 0 → X) ∧ (¬ A y.toNatClampNeg = 0 → Y) := fun f g => by rw [hAv]; exact ip_bt f g
        refine b2 (fun h2 => ?_) (fun h2 => ?_)
        · exact hn x (by rw [hx, mxB, if_neg (fun z => by rw [h2] at z; cases z.1)])
        have em : y &&& 63 = nI (k % 64) := by rw [hy]; exact fa_mask k 6
        refine Exists.intro (k % 64) ⟨by omega, (by show [Value.int (y &&& 63)] = _; rw [em]), ?_⟩
        have l1 := pc6_le (k % 64)
        have l2 := mxB_le f k
        have b3 : ∀ {X Y : Prop}, (pc6 (k % 64) ≤ mxB f k → X) → (mxB f k < pc6 (k % 64) → Y) → (nI (pc6 (k % 64)) ≤ x → X) ∧ (¬ nI (pc6 (k % 64)) ≤ x → Y) := fun f' g => by rw [hx]; exact pk_le (pc6 (k % 64)) (mxB f k) f' g
        refine b3 (fun h3 => ?_) (fun h3 => ?_)
        · exact hn x (by rw [hx, mxB, if_neg (fun z => by omega)])
        · refine Exists.intro (k % 64) ⟨by omega, (by show [Value.int (y &&& 63)] = _; rw [em]), ?_⟩
          exact hn _ (by rw [mxB, if_pos ⟨h2, h3⟩])
set_option maxRecDepth 100000 in
set_option maxHeartbeats 4000000 in
theorem m_X8_worst (l : Launch) : ip_Met l yX8_worst cX8_worst 5 (some .int) (ip_rm 6) C_X8_worst := ip_met tb_X8_worst 400 (by decide +kernel) fl_X8_ok cn_X8_ok (ip_cs1 (ip_gsV (m_X8_isParish l) (ip_in [769, 771, 17, 39, 772] (by decide +kernel) (by decide +kernel)) rfl ⟨by decide +kernel, by decide +kernel, by decide +kernel⟩ ⟨rfl, rfl, Nat.le_of_ble_eq_true rfl, Nat.le_of_ble_eq_true rfl⟩) (ip_cs1 (ip_gsS (m_X8_within l) (ip_in [716, 717, 39, 718] (by decide +kernel) (by decide +kernel)) ⟨by decide +kernel, by decide +kernel, by decide +kernel⟩ ⟨rfl, rfl, Nat.le_of_ble_eq_true rfl, Nat.le_of_ble_eq_true rfl⟩) (ip_cs1 (ip_gsV (m_X8_struckWith l) (ip_in [842, 844, 25, 39, 845] (by decide +kernel) (by decide +kernel)) rfl ⟨by decide +kernel, by decide +kernel, by decide +kernel⟩ ⟨rfl, rfl, Nat.le_of_ble_eq_true rfl, Nat.le_of_ble_eq_true rfl⟩) (ip_cs1 (ip_gsV (m_X8_goOn l) (ip_in [846, 848, 26, 39, 849] (by decide +kernel) (by decide +kernel)) rfl ⟨by decide +kernel, by decide +kernel, by decide +kernel⟩ ⟨rfl, rfl, Nat.le_of_ble_eq_true rfl, Nat.le_of_ble_eq_true rfl⟩) (ip_cs1 (ip_gsS (m_X8_size l) (ip_in [835, 836, 39, 837] (by decide +kernel) (by decide +kernel)) ⟨by decide +kernel, by decide +kernel, by decide +kernel⟩ ⟨rfl, rfl, Nat.le_of_ble_eq_true rfl, Nat.le_of_ble_eq_true rfl⟩) (ip_cs0)))))) ck_X8_worst rfl p_X8_worst
