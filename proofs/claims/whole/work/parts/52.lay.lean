/-! ===== the reference: storms that are told ===== -/
def lsR (S : Nat → Nat) (G : Nat → Nat → Int32) (k : Nat) (ln i n : Int32) : Int32 × Nat := if fo S k ln.toInt i.toInt (2 * n.toInt) ≠ 0 then (-10 - nI (fo S k ln.toInt i.toInt (2 * n.toInt)), fo S k ln.toInt i.toInt (2 * n.toInt)) else if S 2 = 0 then (-3, 0) else (pairR S G k (nt i) (nt n), 0)
def layT (S : Nat → Nat) (G : Nat → Nat → Int32) (R : Nat → Int32) (N : Nat → Nat → Int32) (k a n : Nat) : Prop := R 17 = nI n ∧ n ≤ 20 ∧ ∀ t, t < n → N 8 t = G k (a + 2 * t) ∧ N 9 t = G k (a + 2 * t + 1)
theorem lay_ok {S : Nat → Nat} {G : Nat → Nat → Int32} {R : Nat → Int32} {N : Nat → Nat → Int32} {k a n : Nat} (w2 : S 2 ≤ 6) (h : layT S G R N k a n) (hs : stormOk S G k a n) (S' : Nat → Nat) : wfT' S' R N n ∧ ∀ t, t < n → pN (N 8) t = spP G k a t ∧ stM S' N t = stP S' G k a t := by
  obtain ⟨h1, h2, h3⟩ := h
  obtain ⟨-, -, -, -, hp⟩ := hs
  have key : ∀ t, t < n → pN (N 8) t = nt (G k (a + 2 * t)) ∧ pN (N 9) t = nt (G k (a + 2 * t + 1)) := fun t ht => by
    unfold pN
    rw [(h3 t ht).1, (h3 t ht).2]
    exact ⟨rfl, rfl⟩
  refine ⟨⟨h1, h2, fun t ht => ?_⟩, fun t ht => ⟨(key t ht).1, ?_⟩⟩
  · obtain ⟨q1, q2⟩ := hp t ht
    obtain ⟨k1, k2⟩ := key t ht
    obtain ⟨l1, m1⟩ := inI_nt q1
    obtain ⟨l2, m2⟩ := inI_nt q2
    rw [k1, k2, (h3 t ht).1, (h3 t ht).2]
    exact ⟨m1, by omega, m2, l2⟩
  · unfold stM stP
    rw [(key t ht).1, (key t ht).2]
theorem uu0 (S : Nat → Nat) (x y : Nat) : va_up (va_up S 0 x) 0 y = va_up S 0 y := bx_uu S 0 x y
theorem relM_0 {S : Nat → Nat} {R : Nat → Int32} {N : Nat → Nat → Int32} {sl x : Nat} (h : relM (va_up S 0 x) R N sl) : relM S R N sl := relM_S h rfl rfl rfl (fun i hi => (up0 S x (by omega)).symm)
def C_X8_layStorm : ip_C := fun vs hp K => ∃ tc S G R N, ∃ (k : Nat) (ln i n : Int32), k < 4 ∧ 0 ≤ n.toInt ∧ n.toInt ≤ 20 ∧ vs = [.ref 0, .int (nI k), .int ln, .int i, .int n] ∧ hp = hpM R N ∧ wfC S G ∧ relA tc (va_up S 0 0) G R N ∧
  ((lsR S G k ln i n).1 ≠ 0 → ∀ R' N', relA tc (va_up S 0 (lsR S G k ln i n).2) G R' N' → K (some (.int (lsR S G k ln i n).1)) (hpM R' N')) ∧
  (lsR S G k ln i n = (0, 0) → stormOk S G k (nt i) (nt n) → ∀ R' N', relA tc (va_up S 0 0) G R' N' → layT S G R' N' k (nt i) (nt n) → K (some (.int 0)) (hpM R' N'))
def cs_X8_layStorm : List ip_G := [(89, 5, 8, C_X8_against), (93, 2, 8, C_X8_fails), (131, 2, 8, C_X8_isParish), (137, 1, 0, C_X8_isQuestion)]
def I_X8_layStorm (P : Prop) (R : Nat → Int32) (N : Nat → Nat → Int32) (S : Nat → Nat) (G : Nat → Nat → Int32) (k a n : Nat) (ln : Int32) : Nat → Nat → ip_P := fun pc kk L st hp => pc = 46 ∧ P ∧ ∃ (t : Nat) (x y l5 : Int32) (f g : Nat → Int32), t ≤ n ∧ kk = n - t ∧ L = [some (.ref 0), some (.int (nI k)), some (.int ln), some (.int (nI a)), some (.int (nI n)), some (.int l5), some (.int x), some (.int y)] ∧ st = [] ∧ hp = hpM R (va_up (va_up N 8 f) 9 g) ∧ x = nI (60 * k + a) ∧ y = nI t ∧ (∀ i, i < t → f i = G k (a + 2 * i) ∧ g i = G k (a + 2 * i + 1)) ∧ ∀ i, i < t → okp S G k a i = true ∧ okq G k a i = true
theorem p_X8_layStorm : ip_Pf fl_X8 cn_X8 cs_X8_layStorm (some .int) tb_X8_layStorm 8 C_X8_layStorm := by
  rintro _ _ K ⟨tc, S, G, R, N, k, ln, i, n, hk, hn0, hn20, rfl, rfl, hwf, hrel, hK1, hK0⟩
  obtain ⟨m5, m6, m7, -⟩ := id hrel.2.2.1
  have w2 := hwf.1.2.1
  have w3 := hwf.1.2.2.1
  have w5 := hwf.2.2.2.2.1
  have e2 := t2n hn0 hn20
  refine ⟨Nat.le_of_ble_eq_true rfl, I_X8_layStorm (fo S k ln.toInt i.toInt (2 * n.toInt) = 0 ∧ S 2 ≠ 0) R N S G k (nt i) (nt n) ln, ?_, ?_⟩
  · have ef : fo (va_up S 0 0) k ln.toInt i.toInt (2 * n).toInt = fo S k ln.toInt i.toInt (2 * n.toInt) := by rw [fo_0, e2]
    have hf4 := fo_le S k ln.toInt i.toInt (2 * n.toInt)
    refine Exists.intro (va_up S 0 0) ⟨G, R, N, k, ln, i, 2 * n, hk, rfl, rfl, wfH_0 hwf.2.1 0, hrel.2.2.2.2, ?_⟩
    rw [ef]
    refine pk_eq (fo S k ln.toInt i.toInt (2 * n.toInt)) 0 (fun h => ?_) (fun h => ?_)
    · have b7 : ∀ {X Y : Prop}, (S 3 ≠ 0 → X) → (S 3 = 0 → Y) → (¬ R 7 = 0 → X) ∧ (R 7 = 0 → Y) := fun f g => by rw [m7]; exact pk_ne (S 3) 0 f g
      refine b7 (fun h2 => ?_) (fun h2 => ?_)
      · obtain ⟨z1, z2, z3, z4, z5⟩ := fo_zero h
        have hP : fo S k ln.toInt i.toInt (2 * n.toInt) = 0 ∧ S 2 ≠ 0 := ⟨h, fun q => h2 (w5.mp q)⟩
        obtain ⟨a, ha, rfl, ea⟩ := ti_of z4
        obtain ⟨m, hm, rfl, em⟩ := ti_of hn0
        rw [nt_n ha, nt_n hm]
        exact Exists.intro (m - 0) ⟨trivial, rfl, hP, 0, _, _, _, N 8, N 9, by omega, rfl, rfl, rfl, congrArg (hpM R) (by rw [up_same N 8]; exact (up_same N 9).symm), cel_i k a, rfl, fun i hi => absurd hi (by omega), fun i hi => absurd hi (by omega)⟩
      · have e : lsR S G k ln i n = (-3, 0) := by rw [lsR, if_neg (not_not_intro h), if_pos (w5.mpr h2)]
        rw [e] at hK1
        exact hK1 (by decide) R N hrel
    · have e : lsR S G k ln i n = (-10 - nI (fo S k ln.toInt i.toInt (2 * n.toInt)), fo S k ln.toInt i.toInt (2 * n.toInt)) := by rw [lsR, if_pos h]
      rw [e] at hK1
      have hr2 := relA_f (fo S k ln.toInt i.toInt (2 * n.toInt)) hrel
      rw [uu0] at hr2
      refine Exists.intro R ⟨N, _, rfl, rfl, ?_⟩
      exact hK1 (neg10 ⟨_, Nat.lt_succ_of_le hf4⟩ h) _ N hr2
  · rintro pc kk L st hp ⟨rfl, ⟨hfz, hS2⟩, t, x, y, l5, f, g, ht, rfl, rfl, rfl, rfl, rfl, rfl, hfg, hok⟩
    obtain ⟨z1, z2, z3, z4, z5⟩ := fo_zero hfz
    have hP : fo S k ln.toInt i.toInt (2 * n.toInt) = 0 ∧ S 2 ≠ 0 := ⟨hfz, hS2⟩
    have hls : lsR S G k ln i n = (pairR S G k (nt i) (nt n), 0) := by rw [lsR, if_neg (not_not_intro hfz), if_neg hS2]
    have han : nt i + 2 * nt n ≤ S (30 + k) := by unfold nt at z5 ⊢; omega
    have hn : nt n ≤ 20 := by unfold nt; omega
    have hnn : n = nI (nt n) := by
      obtain ⟨j, hj, rfl, ej⟩ := ti_of hn0
      rw [nt_n hj]
    rw [hls] at hK1 hK0
    generalize nt i = a at hK1 hK0 han hfg hok ⊢
    generalize nt n = n' at hK1 hK0 han hn ht hnn ⊢
    have hz := (hwf.2.1 k hk).2.2
    obtain ⟨hv, ⟨q0, -⟩ | ⟨-, -, -, -, e3, -, -⟩⟩ := sh_at hrel.2.2.2.2 (wfH_0 hwf.2.1 0) hk
    · exact absurd q0 (by rw [up0 S 0 (by omega)]; exact z1)
    refine pk_le n' t (fun h => ?_) (fun h => ?_)
    · obtain rfl : t = n' := by omega
      have hpr : pairR S G k a t = 0 := by
        unfold pairR
        rw [lst_none (fun i hi => by rw [(hok i hi).1, (hok i hi).2]; rfl)]
      exact hK0 (by rw [hpr]) ⟨hk, hn, han, hS2, fun i hi => ⟨of_decide_eq_true (hok i hi).1, of_decide_eq_true (hok i hi).2⟩⟩ (va_up R 17 (nI t)) (va_up (va_up N 8 f) 9 g) hrel ⟨rfl, hn, hfg⟩
    have e1 : nI (60 * k + a) + 2 * nI t = nI (60 * k + (a + 2 * t)) := by rw [show (2 : Int32) = nI 2 from rfl, pk_mul, nI_add, Nat.add_assoc]
    have e2 : nI (60 * k + a) + 2 * nI t + 1 = nI (60 * k + (a + 2 * t + 1)) := by rw [e1, nI_1]; rfl
    have v1 : vp_in (nI (60 * k + a) + 2 * nI t) 240 := by rw [e1]; exact pk_in _ 240 (by omega)
    have v2 : vp_in (nI (60 * k + a) + 2 * nI t + 1) 240 := by rw [e2]; exact pk_in _ 240 (by omega)
    have p1 : N 3 (nI (60 * k + a) + 2 * nI t).toNatClampNeg = G k (a + 2 * t) := by rw [e1, nI_clamp (by omega), e3 _ (by omega)]
    have p2 : N 3 (nI (60 * k + a) + 2 * nI t + 1).toNatClampNeg = G k (a + 2 * t + 1) := by rw [e2, nI_clamp (by omega), e3 _ (by omega)]
    have hv20 : vp_in (nI t) 20 := pk_in t 20 (by omega)
    have hct := nI_clamp (n := t) (by omega)
    have bad : ∀ c : Int32, (okp S G k a t && okq G k a t) = false → (if okp S G k a t then (-2 : Int32) else -1) = c → ¬ c = 0 → K (some (.int c)) (hpM R (va_up (va_up N 8 f) 9 g)) := fun c h1 h2 h3 => by
      have e : pairR S G k a n' = c := by
        unfold pairR
        rw [lst_some (s := t) (by rw [h1]; rfl) (fun i hi => by rw [(hok i hi).1, (hok i hi).2]; rfl) h]
        exact h2
      have := hK1 (by rw [e]; exact h3) R (va_up (va_up N 8 f) 9 g) hrel
      rw [e] at this
      exact this
    have good : okp S G k a t = true → okq G k a t = true → ∀ y : Int32, y = nI (t + 1) → ∃ kk, ip_lt kk (some (n' - t)) ∧ I_X8_layStorm (fo S k ln.toInt i.toInt (2 * n.toInt) = 0 ∧ S 2 ≠ 0) R N S G k a n' ln 46 kk [some (.ref 0), some (.int (nI k)), some (.int ln), some (.int (nI a)), some (.int (nI n')), some (.int l5), some (.int (nI (60 * k + a))), some (.int y)] [] (hpM R (va_up (va_up N 8 (upd f (nI t).toNatClampNeg (N 3 (nI (60 * k + a) + 2 * nI t).toNatClampNeg))) 9 (upd g (nI t).toNatClampNeg (N 3 (nI (60 * k + a) + 2 * nI t + 1).toNatClampNeg)))) := fun h1 h2 y hy => by
      refine ⟨n' - (t + 1), by show _ < _; omega, rfl, hP, t + 1, _, y, l5, _, _, by omega, rfl, rfl, rfl, rfl, rfl, hy, fun i hi => ?_, fun i hi => ?_⟩
      · rw [hct, p1, p2]
        rcases Nat.lt_or_ge i t with q | q
        · rw [pk_un (by omega), pk_un (by omega)]; exact hfg i q
        · obtain rfl : i = t := by omega
          rw [pk_us, pk_us]; exact ⟨rfl, rfl⟩
      · rcases Nat.lt_or_ge i t with q | q
        · exact hok i q
        · obtain rfl : i = t := by omega
          exact ⟨h1, h2⟩
    have h9 : nI t + 1 = nI (t + 1) := nI_1 t
    clear hK1 hK0
    refine And.intro v1 ?_
    refine Exists.intro R ⟨va_up (va_up N 8 f) 9 g, _, S 2, rfl, rfl, m6, w2, fun b hb => ?_⟩
    have hb : b = true ↔ inI (G k (a + 2 * t)) (S 2) := by rw [← p1]; exact hb
    refine ip_bn (fun h1 => ?_) (fun h1 => ?_)
    · have o1 : okp S G k a t = true := decide_eq_true (hb.mp h1)
      refine And.intro v2 ?_
      refine Exists.intro _ ⟨rfl, fun b2 hb2 => ?_⟩
      have hb2 : b2 = true ↔ inI (G k (a + 2 * t + 1)) 6 := by rw [← p2]; exact hb2
      refine ip_bn (fun h2 => ?_) (fun h2 => ?_)
      · have o2 : okq G k a t = true := decide_eq_true (hb2.mp h2)
        refine And.intro v1 ?_
        refine And.intro hv20 ?_
        refine And.intro v2 ?_
        refine And.intro hv20 ?_
        exact good o1 o2 _ h9
      · have o2 : okq G k a t = false := decide_eq_false (fun z => by rw [hb2.mpr z] at h2; cases h2)
        exact bad (-2) (by rw [o1, o2]; rfl) (by rw [o1]; rfl) (by decide)
    · have o1 : okp S G k a t = false := decide_eq_false (fun z => by rw [hb.mpr z] at h1; cases h1)
      exact bad (-1) (by rw [o1]; rfl) (by rw [o1]; rfl) (by decide)
set_option maxRecDepth 100000 in
set_option maxHeartbeats 4000000 in
theorem m_X8_layStorm (l : Launch) : ip_Met l yX8_layStorm cX8_layStorm 8 (some .int) (ip_rm 2) C_X8_layStorm := ip_met tb_X8_layStorm 400 (by decide +kernel) fl_X8_ok cn_X8_ok (ip_cs1 (ip_gsV (m_X8_against l) (ip_in [722, 724, 9, 39, 725] (by decide +kernel) (by decide +kernel)) rfl ⟨by decide +kernel, by decide +kernel, by decide +kernel⟩ ⟨rfl, rfl, Nat.le_of_ble_eq_true rfl, Nat.le_of_ble_eq_true rfl⟩) (ip_cs1 (ip_gsV (m_X8_fails l) (ip_in [726, 728, 10, 39, 729] (by decide +kernel) (by decide +kernel)) rfl ⟨by decide +kernel, by decide +kernel, by decide +kernel⟩ ⟨rfl, rfl, Nat.le_of_ble_eq_true rfl, Nat.le_of_ble_eq_true rfl⟩) (ip_cs1 (ip_gsV (m_X8_isParish l) (ip_in [769, 771, 17, 39, 772] (by decide +kernel) (by decide +kernel)) rfl ⟨by decide +kernel, by decide +kernel, by decide +kernel⟩ ⟨rfl, rfl, Nat.le_of_ble_eq_true rfl, Nat.le_of_ble_eq_true rfl⟩) (ip_cs1 (ip_gsS (m_X8_isQuestion l) (ip_in [781, 782, 39, 783] (by decide +kernel) (by decide +kernel)) ⟨by decide +kernel, by decide +kernel, by decide +kernel⟩ ⟨rfl, rfl, Nat.le_of_ble_eq_true rfl, Nat.le_of_ble_eq_true rfl⟩) (ip_cs0))))) ck_X8_layStorm rfl p_X8_layStorm
/-- hsR out of lsR -/
theorem hs_1 {S : Nat → Nat} {G : Nat → Nat → Int32} {sh ln i n : Int32} {w : Bool} (h : ¬ inI sh 4) : hsR S G sh ln i n w = (-1, 0) := by rw [hsR, if_pos h]
theorem hs_2 {S : Nat → Nat} {G : Nat → Nat → Int32} {sh ln i n : Int32} {w : Bool} (h : inI sh 4) (h2 : ¬ inI ln 3 ∨ n.toInt < 0 ∨ 20 < n.toInt ∨ w = false) : hsR S G sh ln i n w = (-2, 0) := by rw [hsR, if_neg (not_not_intro h), if_pos h2]
theorem hs_ls {S : Nat → Nat} {G : Nat → Nat → Int32} {sh ln i n : Int32} (h : inI sh 4) (h2 : inI ln 3) (h3 : 0 ≤ n.toInt) (h4 : n.toInt ≤ 20) : hsR S G sh ln i n true = lsR S G (nt sh) ln i n := by
  rw [hsR, if_neg (not_not_intro h), if_neg (by rintro (z | z | z | z); exact z h2; omega; omega; cases z)]
  rfl
