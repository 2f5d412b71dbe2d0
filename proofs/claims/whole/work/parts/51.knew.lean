/-! ===== knew, shares, worth ===== -/
theorem fq_f {f : Nat → Bool} {s : Nat} (h : f s = false) : fqB f (s + 1) = fqB f s := by
  simp only [fqB, h, Bool.false_and]; rfl
theorem fq_n {f : Nat → Bool} {s : Nat} (h : f s = true) (h2 : fqB f s = none) : fqB f (s + 1) = some s := by
  simp only [fqB, h, h2]; rfl
theorem fq_s {f : Nat → Bool} {s b : Nat} (h : f s = true) (h2 : fqB f s = some b) (h3 : pc6 s < pc6 b) : fqB f (s + 1) = some s := by
  simp only [fqB, h, h2, decide_eq_true h3]; rfl
theorem fq_k {f : Nat → Bool} {s b : Nat} (h2 : fqB f s = some b) (h3 : pc6 b ≤ pc6 s) : fqB f (s + 1) = fqB f s := by
  simp only [fqB, h2, decide_eq_false (Nat.not_lt.mpr h3), Bool.and_false]; rfl
theorem ne9_64 : ∀ b : Fin 64, ¬ nI b.val = -9 := by decide +kernel
def C_X8_knew : ip_C := fun vs hp K => ∃ tc S G R N, ∃ m w : Int32, vs = [.ref 0, .int m, .int w] ∧ hp = hpM R N ∧ wfC S G ∧ relA tc S G R N ∧ K (some (.int (r_knew S G m w))) hp
def cs_X8_knew : List ip_G := [(125, 2, 8, C_X8_isMan), (65, 3, 0, C_X8_within), (191, 1, 8, C_X8_areSo), (169, 1, 0, C_X8_size)]
def I_X8_knew (P : Prop) (R : Nat → Int32) (N : Nat → Nat → Int32) (m : Nat) (w : Int32) (f : Nat → Bool) : Nat → Nat → ip_P := fun pc k L st hp => pc = 39 ∧ P ∧ ∃ (s : Nat) (x y z : Int32) (F : Nat → Int32), s ≤ 64 ∧ k = 64 - s ∧ L = [some (.ref 0), some (.int (nI m)), some (.int w), some (.int (N 6 (nI m).toNatClampNeg)), some (.int x), some (.int y), some (.int z)] ∧ st = [] ∧ hp = hpM R (va_up N 6 F) ∧ x = nI (fb_ct f s) ∧ y = ob (fqB f s) ∧ z = nI s ∧ ∀ x, upd F (nI m).toNatClampNeg x = upd (N 6) (nI m).toNatClampNeg x
theorem p_X8_knew : ip_Pf fl_X8 cn_X8 cs_X8_knew (some .int) tb_X8_knew 7 C_X8_knew := by
  rintro _ _ K ⟨tc, S, G, R, N, m, w, rfl, rfl, hwf, hrel, hK⟩
  obtain ⟨m5, m6, m7, -⟩ := id hrel.2.2.1
  have w3 := hwf.1.2.2.1
  refine ⟨Nat.le_of_ble_eq_true rfl, I_X8_knew (inI m (S 3) ∧ (w.toInt = 0 ∨ w.toInt = 1)) R N (nt m) w (fun s => allSo (va_up S (60 + nt m) s) G), ?_, ?_⟩
  · refine Exists.intro R ⟨N, m, S 3, rfl, rfl, m7, w3, fun b hb => ?_⟩
    refine ip_bn (fun h => ?_) (fun h => ?_)
    · have hin : inI m (S 3) := hb.mp h
      refine Exists.intro w ⟨0, 1, rfl, fun b2 hb2 => ?_⟩
      have t0 : (0 : Int32).toInt = 0 := by decide
      have t1 : (1 : Int32).toInt = 1 := by decide
      rw [t0, t1] at hb2
      refine ip_bn (fun h2 => ?_) (fun h2 => ?_)
      · have h2 := hb2.mp h2
        obtain ⟨i, hi, rfl, ei⟩ := ti_of hin.1
        have l1 : i < 4 := by have := hin.2; omega
        rw [nt_n hi]
        refine And.intro (pk_in i 4 l1) ?_
        exact Exists.intro (64 - 0) ⟨trivial, rfl, ⟨hin, by omega⟩, 0, _, _, _, N 6, by omega, rfl, rfl, rfl, congrArg (hpM R) (up_same N 6).symm, rfl, rfl, rfl, fun _ => rfl⟩
      · have h2 : ¬ (0 ≤ w.toInt ∧ w.toInt ≤ 1) := fun z => by rw [hb2.mpr z] at h2; cases h2
        rw [r_knew, if_neg (not_not_intro hin), if_neg (by omega), if_neg (by omega)] at hK
        exact hK
    · have hin : ¬ inI m (S 3) := fun z => by rw [hb.mpr z] at h; cases h
      rw [r_knew, if_pos hin] at hK
      exact hK
  · rintro pc k L st hp ⟨rfl, ⟨hin, hw⟩, s, x, y, z, F, hs, rfl, rfl, rfl, rfl, rfl, rfl, rfl, hF⟩
    rw [r_knew, if_neg (not_not_intro hin)] at hK
    have l1 : nt m < 4 := by have := (inI_nt hin).1; omega
    have hP : inI m (S 3) ∧ (w.toInt = 0 ∨ w.toInt = 1) := ⟨hin, hw⟩
    generalize nt m = m' at hK hF l1 ⊢
    have hv : vp_in (nI m') 4 := pk_in m' 4 l1
    generalize hf : (fun s => allSo (va_up S (60 + m') s) G) = f at hK ⊢
    have hfs : allSo (va_up S (60 + m') s) G = f s := by rw [← hf]
    refine pk_lt 63 s (fun h => ?_) (fun h => ?_)
    · obtain rfl : s = 64 := by omega
      have e : va_up (va_up N 6 F) 6 (upd F (nI m').toNatClampNeg (N 6 (nI m').toNatClampNeg)) = N := by rw [hF, fa_upd_same rfl]; exact up_bk N 6 F
      have hK' : ∀ r, (if w.toInt = 0 then nI (fb_ct f 64) else if w.toInt = 1 then ob (fqB f 64) else -2) = r → K (some (.int r)) (hpM R (va_up (va_up N 6 F) 6 (upd F (nI m').toNatClampNeg (N 6 (nI m').toNatClampNeg)))) := fun r er => by rw [e, ← er]; exact hK
      refine And.intro hv ?_
      refine bz_ne w.toInt 0 (fun h2 => ?_) (fun h2 => ?_)
      · exact hK' _ (by rw [if_neg h2, if_pos (by omega)])
      · exact hK' _ (by rw [if_pos h2])
    have hr2 : relM (va_up S (60 + m') s) R (va_up N 6 (upd F (nI m').toNatClampNeg (nI s))) 0 := by rw [hF]; exact relM_l s l1 hrel.2.2.1
    have hrr : relR (va_up S (60 + m') s) G R (va_up N 6 (upd F (nI m').toNatClampNeg (nI s))) := ⟨by rw [up_n (f := S) 4 (by omega)]; exact hrel.2.2.2.1.1, hrel.2.2.2.1.2⟩
    have h9 : nI s + 1 = nI (s + 1) := nI_1 s
    have hn : ∀ (x y z : Int32), x = nI (fb_ct f (s + 1)) → y = ob (fqB f (s + 1)) → z = nI (s + 1) → ∃ k, ip_lt k (some (64 - s)) ∧ I_X8_knew (inI m (S 3) ∧ (w.toInt = 0 ∨ w.toInt = 1)) R N m' w f 39 k [some (.ref 0), some (.int (nI m')), some (.int w), some (.int (N 6 (nI m').toNatClampNeg)), some (.int x), some (.int y), some (.int z)] [] (hpM R (va_up N 6 (upd F (nI m').toNatClampNeg (nI s)))) := fun x y z hx hy hz => ⟨64 - (s + 1), by show _ < _; omega, rfl, hP, s + 1, x, y, z, _, by omega, rfl, rfl, rfl, rfl, hx, hy, hz, fun x => by rw [fa_upd_twice]; exact hF x⟩
    have x0 : f s = false → nI (fb_ct f s) = nI (fb_ct f (s + 1)) := fun h => by rw [fb_ct_succ, h]; simp
    have x1 : f s = true → nI (fb_ct f s) + 1 = nI (fb_ct f (s + 1)) := fun h => by rw [fb_ct_succ, h, nI_1]; simp
    clear hK
    refine And.intro hv ?_
    refine Exists.intro R ⟨va_up N 6 (upd F (nI m').toNatClampNeg (nI s)), va_up S (60 + m') s, G, rfl, rfl, wfM_li hwf.1 l1 (by omega), wfR_up hwf.2.2.1 (by omega), hr2, hrr, ?_⟩
    rw [hfs]
    refine ip_bt (fun h3 => ?_) (fun h3 => ?_)
    · exact hn _ _ _ (x0 h3) (by rw [fq_f h3]) h9
    cases hq : fqB f s with
    | none =>
      refine And.intro (fun _ => ?_) (fun z => absurd rfl z)
      exact hn _ _ _ (x1 h3) (by rw [fq_n h3 hq]; rfl) h9
    | some b =>
      have hb := fqB_lt hq
      have l2 := pc6_le b
      have l3 := pc6_le s
      refine And.intro (fun z => absurd z (ne9_64 ⟨b, by omega⟩)) (fun _ => ?_)
      refine Exists.intro s ⟨by omega, rfl, ?_⟩
      refine Exists.intro b ⟨by omega, rfl, ?_⟩
      refine pk_le (pc6 b) (pc6 s) (fun h5 => ?_) (fun h5 => ?_)
      · exact hn _ _ _ (x1 h3) (by rw [fq_k hq h5, hq]) h9
      · exact hn _ _ _ (x1 h3) (by rw [fq_s h3 hq h5]; rfl) h9
set_option maxRecDepth 100000 in
set_option maxHeartbeats 4000000 in
theorem m_X8_knew (l : Launch) : ip_Met l yX8_knew cX8_knew 7 (some .int) (ip_rm 4) C_X8_knew := ip_met tb_X8_knew 400 (by decide +kernel) fl_X8_ok cn_X8_ok (ip_cs1 (ip_gsV (m_X8_isMan l) (ip_in [754, 756, 16, 39, 757] (by decide +kernel) (by decide +kernel)) rfl ⟨by decide +kernel, by decide +kernel, by decide +kernel⟩ ⟨rfl, rfl, Nat.le_of_ble_eq_true rfl, Nat.le_of_ble_eq_true rfl⟩) (ip_cs1 (ip_gsS (m_X8_within l) (ip_in [716, 717, 39, 718] (by decide +kernel) (by decide +kernel)) ⟨by decide +kernel, by decide +kernel, by decide +kernel⟩ ⟨rfl, rfl, Nat.le_of_ble_eq_true rfl, Nat.le_of_ble_eq_true rfl⟩) (ip_cs1 (ip_gsV (m_X8_areSo l) (ip_in [883, 885, 29, 39, 886] (by decide +kernel) (by decide +kernel)) rfl ⟨by decide +kernel, by decide +kernel, by decide +kernel⟩ ⟨rfl, rfl, Nat.le_of_ble_eq_true rfl, Nat.le_of_ble_eq_true rfl⟩) (ip_cs1 (ip_gsS (m_X8_size l) (ip_in [835, 836, 39, 837] (by decide +kernel) (by decide +kernel)) ⟨by decide +kernel, by decide +kernel, by decide +kernel⟩ ⟨rfl, rfl, Nat.le_of_ble_eq_true rfl, Nat.le_of_ble_eq_true rfl⟩) (ip_cs0))))) ck_X8_knew rfl p_X8_knew
def C_X8_inLeastTerms : ip_C := fun vs hp K => ∃ u d w : Nat, u ≤ d ∧ 0 < d ∧ d < 2 ^ 62 ∧ w < 2 ∧ vs = [.long (lN u), .long (lN d), .int (nI w)] ∧ K (some (.long (lN (lst2 u d w)))) hp
def cs_X8_inLeastTerms : List ip_G := []
def I_X8_inLeastTerms (u d w : Nat) (hp0 : ip_H) : Nat → Nat → ip_P := fun pc k L st hp => pc = 6 ∧ ∃ (h l : Nat) (l9 l10 : Option Value), k = l ∧ h < 2 ^ 62 ∧ l < 2 ^ 62 ∧ L = [some (.long (lN u)), none, some (.long (lN d)), none, some (.int (nI w)), some (.long (lN h)), none, some (.long (lN l)), none, l9, l10] ∧ st = [] ∧ hp = hp0 ∧ Nat.gcd h l = Nat.gcd u d
theorem p_X8_inLeastTerms : ip_Pf fl_X8 cn_X8 cs_X8_inLeastTerms (some .long) tb_X8_inLeastTerms 11 C_X8_inLeastTerms := by
  rintro _ hp0 K ⟨u, d, w, hud, hd, hb, hw, rfl, hK⟩
  refine ⟨Nat.le_of_ble_eq_true rfl, I_X8_inLeastTerms u d w hp0, ?_, ?_⟩
  · exact Exists.intro d ⟨trivial, rfl, u, d, none, none, rfl, by omega, hb, rfl, rfl, rfl, rfl⟩
  · rintro pc k L st hp ⟨rfl, h, l, l9, l10, rfl, hh, hl, rfl, rfl, rfl, hg⟩
    have hg0 : 0 < Nat.gcd u d := Nat.gcd_pos_of_pos_right u hd
    have hgl : Nat.gcd u d ≤ d := Nat.gcd_le_right u hd
    refine And.intro (fun h2 => ?_) (fun h2 => ?_)
    · have h2 := (lg_cmp_eq _ _).mp h2
      have hz : k = 0 := (pk_lEQ (a := k) (b := 0) (by omega) (by omega)).mp h2
      subst hz
      rw [Nat.gcd_zero_right] at hg
      subst hg
      have hne : ¬ lN (Nat.gcd u d) = Int64.ofNat 0 := fun z => by
        have := (pk_lEQ (a := Nat.gcd u d) (b := 0) (by omega) (by omega)).mp z
        omega
      refine pk_ne w 0 (fun h => ?_) (fun h => ?_)
      · refine And.intro hne ?_
        rw [pk_lDiv (by omega) hg0 (by omega)]
        rw [lst2, if_neg h] at hK
        exact hK
      · refine And.intro hne ?_
        rw [pk_lDiv (by omega) hg0 (by omega)]
        rw [lst2, if_pos h] at hK
        exact hK
    · have hz : k ≠ 0 := fun z => h2 ((lg_cmp_eq _ _).mpr (by rw [z]; rfl))
      refine And.intro (fun z => hz ((pk_lEQ (a := k) (b := 0) (by omega) (by omega)).mp z)) ?_
      have hr : lN h - lN h / lN k * lN k = lN (h % k) := pk_lRem (by omega) (by omega) (by omega)
      rw [hr]
      have hm : h % k < k := Nat.mod_lt _ (by omega)
      refine Exists.intro (h % k) ⟨hm, rfl, k, h % k, _, _, rfl, hl, by omega, rfl, rfl, rfl, ?_⟩
      rw [← hg, Nat.gcd_comm k, ← Nat.gcd_rec, Nat.gcd_comm]
set_option maxRecDepth 100000 in
set_option maxHeartbeats 4000000 in
theorem m_X8_inLeastTerms (l : Launch) : ip_Met l yX8_inLeastTerms cX8_inLeastTerms 11 (some .long) (ip_rm 0) C_X8_inLeastTerms := ip_met tb_X8_inLeastTerms 400 (by decide +kernel) fl_X8_ok cn_X8_ok (ip_cs0) ck_X8_inLeastTerms rfl p_X8_inLeastTerms
theorem ct_rev (f : Nat → Bool) : ∀ n, fb_ct (fun i => f (n - 1 - i)) n = fb_ct f n
  | 0 => rfl
  | n + 1 => by
    rw [show n + 1 = 1 + n by omega, fb_ct_split, show 1 + n = n + 1 by omega, fb_ct_succ f n, ← ct_rev f n]
    have e : fb_ct (fun k => f (n + 1 - 1 - (1 + k))) n = fb_ct (fun i => f (n - 1 - i)) n := fb_ct_cong (fun k hk => by rw [show n + 1 - 1 - (1 + k) = n - 1 - k by omega])
    rw [e, fb_ct_succ]
    simp [fb_ct]
    omega
theorem odd_rev {S : Nat → Nat} (p q : Nat) : fb_ct (fun sl => heldS S (prS S sl p) q) (2 ^ S 3) = oddC S p q := by
  unfold oddC
  rw [← ct_rev]
  refine fb_ct_cong (fun a ha => ?_)
  unfold heldS
  refine held_cong (fun m hm => ⟨rfl, rfl, ?_⟩)
  unfold prS
  congr 1
  rw [show 2 ^ S 3 - 1 - a = 2 ^ S 3 - (a + 1) by omega, Nat.testBit_two_pow_sub_succ ha]
  simp [hm]
theorem relM_sl {S : Nat → Nat} {R : Nat → Int32} {N : Nat → Nat → Int32} {sl : Nat} (i : Nat) (h : relM S R N sl) : relM S (va_up R 11 (nI i)) N i := by
  obtain ⟨m5, m6, m7, m11, mm⟩ := h
  exact ⟨m5, m6, m7, rfl, mm⟩
def C_X8_odds : ip_C := fun vs hp K => ∃ S R N, ∃ p q w : Int32, vs = [.ref 0, .int p, .int q, .int w] ∧ hp = hpM R N ∧ wfM S ∧ relM S R N 0 ∧ K (some (.long (r_odds S p q w))) hp
def cs_X8_odds : List ip_G := [(131, 2, 8, C_X8_isParish), (137, 1, 0, C_X8_isQuestion), (65, 3, 0, C_X8_within), (147, 3, 8, C_X8_isHeld), (184, 3, 0, C_X8_inLeastTerms)]
def I_X8_odds (P : Prop) (R : Nat → Int32) (N : Nat → Nat → Int32) (S : Nat → Nat) (p q w : Nat) : Nat → Nat → ip_P := fun pc k L st hp => pc = 34 ∧ P ∧ ∃ (t : Nat) (x y v : Int32), t ≤ 2 ^ S 3 ∧ k = 2 ^ S 3 - t ∧ L = [some (.ref 0), some (.int (nI p)), some (.int (nI q)), some (.int (nI w)), some (.int x), some (.int y)] ∧ st = [] ∧ hp = hpM (va_up R 11 v) N ∧ x = nI (fb_ct (fun sl => heldS S (prS S sl p) q) t) ∧ y = nI t
theorem p_X8_odds : ip_Pf fl_X8 cn_X8 cs_X8_odds (some .long) tb_X8_odds 6 C_X8_odds := by
  rintro _ _ K ⟨S, R, N, p, q, w, rfl, rfl, hwf, hrel, hK⟩
  obtain ⟨m5, m6, m7, m11, -⟩ := id hrel
  have w2 := hwf.2.1
  have w3 := hwf.2.2.1
  have hpow : 2 ^ S 3 ≤ 16 := Nat.pow_le_pow_right (n := 2) (by omega) w3
  have hpow0 : 0 < 2 ^ S 3 := Nat.pow_pos (by decide)
  refine ⟨Nat.le_of_ble_eq_true rfl, I_X8_odds (inI p (S 2) ∧ inI q 6 ∧ inI w 2) R N S (nt p) (nt q) (nt w), ?_, ?_⟩
  · have lost : ¬ inI p (S 2) ∨ ¬ inI q 6 ∨ ¬ inI w 2 → K (some (.long (-9223372036854775808))) (hpM R N) := fun h => by rw [r_odds, if_pos h] at hK; exact hK
    clear hK
    refine Exists.intro R ⟨N, p, S 2, rfl, rfl, m6, w2, fun b hb => ?_⟩
    refine ip_bt (fun h => ?_) (fun h => ?_)
    · exact lost (Or.inl (fun z => by rw [hb.mpr z] at h; cases h))
    have hin1 : inI p (S 2) := hb.mp h
    refine Exists.intro q ⟨rfl, fun b2 hb2 => ?_⟩
    refine ip_bt (fun h2 => ?_) (fun h2 => ?_)
    · exact lost (Or.inr (Or.inl (fun z => by rw [hb2.mpr z] at h2; cases h2)))
    have hin2 : inI q 6 := hb2.mp h2
    refine Exists.intro w ⟨0, 1, rfl, fun b3 hb3 => ?_⟩
    have hb3 : b3 = true ↔ inI w 2 := by
      have t0 : (0 : Int32).toInt = 0 := by decide
      have t1 : (1 : Int32).toInt = 1 := by decide
      rw [hb3, t0, t1]
      unfold inI
      omega
    refine ip_bn (fun h3 => ?_) (fun h3 => ?_)
    rotate_left
    · exact lost (Or.inr (Or.inr (fun z => by rw [hb3.mpr z] at h3; cases h3)))
    have hin3 : inI w 2 := hb3.mp h3
    have hpre : inI p (S 2) ∧ inI q 6 ∧ inI w 2 := ⟨hin1, hin2, hin3⟩
    clear hb hb2 hb3 lost
    obtain ⟨i, hi, rfl, ei⟩ := ti_of hin1.1
    obtain ⟨j, hj, rfl, ej⟩ := ti_of hin2.1
    obtain ⟨l, hl, rfl, el⟩ := ti_of hin3.1
    rw [nt_n hi, nt_n hj, nt_n hl]
    exact Exists.intro _ ⟨trivial, rfl, hpre, 0, _, _, R 11, by omega, rfl, rfl, rfl, congrArg (fun R => hpM R N) (up_same R 11).symm, rfl, rfl⟩
  · rintro pc k L st hp ⟨rfl, hpre, t, x, y, v, ht, rfl, rfl, rfl, rfl, rfl, rfl⟩
    obtain ⟨hin1, hin2, hin3⟩ := id hpre
    rw [r_odds, if_neg (fun z => z.elim (fun y => y hin1) (fun z => z.elim (fun y => y hin2) (fun y => y hin3)))] at hK
    have l1 := (inI_nt hin1).1
    have l2 := (inI_nt hin2).1
    have l3 := (inI_nt hin3).1
    have hP := hpre
    generalize nt p = p' at hK l1 ⊢
    generalize nt q = q' at hK l2 ⊢
    generalize nt w = w' at hK l3 ⊢
    have hs := sh1 ⟨S 3, by omega⟩
    simp only at hs
    have b6 : ∀ {X Y : Prop}, (2 ^ S 3 ≤ t → X) → (t < 2 ^ S 3 → Y) → ((1 : Int32) <<< (R 7 &&& 31) ≤ nI t → X) ∧ (¬ (1 : Int32) <<< (R 7 &&& 31) ≤ nI t → Y) := fun f g => by rw [m7, hs]; exact pk_le (2 ^ S 3) t f g
    refine b6 (fun h => ?_) (fun h => ?_)
    · obtain rfl : t = 2 ^ S 3 := by omega
      have hc : oddC S p' q' ≤ 2 ^ S 3 := fb_ct_le _ _
      have e : va_up (va_up R 11 v) 11 0 = R := by
        have := up_bk R 11 v
        rw [m11] at this
        exact this
      have e2 : (nI (fb_ct (fun sl => heldS S (prS S sl p') q') (2 ^ S 3))).toInt64 = lN (oddC S p' q') := by rw [odd_rev, nI_l (Nat.lt_of_le_of_lt hc (by omega))]
      have e3 : Int64.ofNat 1 <<< ((R 7).toInt64 &&& 63) = lN (2 ^ S 3) := by
        rw [m7]
        have := wb_shl 1 (show S 3 < 64 by omega)
        rw [Nat.one_mul] at this
        exact this
      refine Exists.intro (oddC S p' q') ⟨2 ^ S 3, w', hc, hpow0, by omega, l3, (by show [Value.long (nI (fb_ct (fun sl => heldS S (prS S sl p') q') (2 ^ S 3))).toInt64, Value.long (Int64.ofNat 1 <<< ((R 7).toInt64 &&& 63)), Value.int (nI w')] = _; rw [e2, e3]), ?_⟩
      have hK' : K (some (.long (lN (lst2 (oddC S p' q') (2 ^ S 3) w')))) (hpM (va_up (va_up R 11 v) 11 0) N) := by rw [e]; exact hK
      exact hK'
    · refine Exists.intro (va_up R 11 (nI t)) ⟨N, S, p', q', t, by omega, l2, by omega, rfl, rfl, hwf, relM_sl t hrel, ?_⟩
      refine ip_bt (fun h3 => ?_) (fun h3 => ?_)
      · have e0 : nI (fb_ct (fun sl => heldS S (prS S sl p') q') t) + 0 = nI (fb_ct (fun sl => heldS S (prS S sl p') q') (t + 1)) := by rw [show (0 : Int32) = nI 0 from rfl, nI_add, fb_ct_succ, h3]; simp
        exact Exists.intro (2 ^ S 3 - (t + 1)) ⟨by show _ < _; omega, rfl, hP, t + 1, _, _, nI t, by omega, rfl, rfl, rfl, rfl, e0, nI_1 t⟩
      · exact Exists.intro (2 ^ S 3 - (t + 1)) ⟨by show _ < _; omega, rfl, hP, t + 1, _, _, nI t, by omega, rfl, rfl, rfl, rfl, by rw [fb_ct_succ, h3, nI_1]; simp, nI_1 t⟩
set_option maxRecDepth 100000 in
set_option maxHeartbeats 4000000 in
theorem m_X8_odds (l : Launch) : ip_Met l yX8_odds cX8_odds 6 (some .long) (ip_rm 3) C_X8_odds := ip_met tb_X8_odds 400 (by decide +kernel) fl_X8_ok cn_X8_ok (ip_cs1 (ip_gsV (m_X8_isParish l) (ip_in [769, 771, 17, 39, 772] (by decide +kernel) (by decide +kernel)) rfl ⟨by decide +kernel, by decide +kernel, by decide +kernel⟩ ⟨rfl, rfl, Nat.le_of_ble_eq_true rfl, Nat.le_of_ble_eq_true rfl⟩) (ip_cs1 (ip_gsS (m_X8_isQuestion l) (ip_in [781, 782, 39, 783] (by decide +kernel) (by decide +kernel)) ⟨by decide +kernel, by decide +kernel, by decide +kernel⟩ ⟨rfl, rfl, Nat.le_of_ble_eq_true rfl, Nat.le_of_ble_eq_true rfl⟩) (ip_cs1 (ip_gsS (m_X8_within l) (ip_in [716, 717, 39, 718] (by decide +kernel) (by decide +kernel)) ⟨by decide +kernel, by decide +kernel, by decide +kernel⟩ ⟨rfl, rfl, Nat.le_of_ble_eq_true rfl, Nat.le_of_ble_eq_true rfl⟩) (ip_cs1 (ip_gsV (m_X8_isHeld l) (ip_in [796, 798, 20, 39, 799] (by decide +kernel) (by decide +kernel)) rfl ⟨by decide +kernel, by decide +kernel, by decide +kernel⟩ ⟨rfl, rfl, Nat.le_of_ble_eq_true rfl, Nat.le_of_ble_eq_true rfl⟩) (ip_cs1 (ip_gsS (m_X8_inLeastTerms l) (ip_in [860, 861, 39, 862] (by decide +kernel) (by decide +kernel)) ⟨by decide +kernel, by decide +kernel, by decide +kernel⟩ ⟨rfl, rfl, Nat.le_of_ble_eq_true rfl, Nat.le_of_ble_eq_true rfl⟩) (ip_cs0)))))) ck_X8_odds rfl p_X8_odds
def C_X8_allDangers : ip_C := fun vs hp K => ∃ S R N, ∃ sl : Nat, sl < 16 ∧ vs = [.ref 0] ∧ hp = hpM R N ∧ wfM S ∧ relM S R N sl ∧ K (some (.int (nI (dw S sl)))) hp
def cs_X8_allDangers : List ip_G := [(150, 2, 8, C_X8_dangersOf), (169, 1, 0, C_X8_size)]
def I_X8_allDangers (R : Nat → Int32) (N : Nat → Nat → Int32) (S : Nat → Nat) (sl : Nat) : Nat → Nat → ip_P := fun pc k L st hp => pc = 4 ∧ ∃ (p : Nat) (x y : Int32), p ≤ S 2 ∧ k = S 2 - p ∧ L = [some (.ref 0), some (.int x), some (.int y)] ∧ st = [] ∧ hp = hpM R N ∧ x = nI (fb_sm (fun p => pc6 (dgs S (fun m => S (50 + m) == p && !sl.testBit m))) p) ∧ y = nI p
theorem p_X8_allDangers : ip_Pf fl_X8 cn_X8 cs_X8_allDangers (some .int) tb_X8_allDangers 3 C_X8_allDangers := by
  rintro _ _ K ⟨S, R, N, sl, hsl, rfl, rfl, hwf, hrel, hK⟩
  obtain ⟨m5, m6, m7, m11, -⟩ := id hrel
  have w2 := hwf.2.1
  refine ⟨Nat.le_of_ble_eq_true rfl, I_X8_allDangers R N S sl, ?_, ?_⟩
  · exact Exists.intro _ ⟨trivial, rfl, 0, _, _, by omega, rfl, rfl, rfl, rfl, rfl, rfl⟩
  · rintro pc k L st hp ⟨rfl, p, x, y, hp0, rfl, rfl, rfl, rfl, rfl, rfl⟩
    have b6 : ∀ {X Y : Prop}, (S 2 ≤ p → X) → (p < S 2 → Y) → (R 6 ≤ nI p → X) ∧ (¬ R 6 ≤ nI p → Y) := fun f g => by rw [m6]; exact pk_le (S 2) p f g
    refine b6 (fun h => ?_) (fun h => ?_)
    · obtain rfl : p = S 2 := by omega
      exact hK
    · refine Exists.intro R ⟨N, S, p, sl, by omega, hsl, rfl, rfl, hwf, hrel, ?_⟩
      refine Exists.intro (dgpM S sl p) ⟨dgs_lt S _, rfl, ?_⟩
      exact Exists.intro (S 2 - (p + 1)) ⟨by show _ < _; omega, rfl, p + 1, _, _, by omega, rfl, rfl, rfl, rfl, by rw [nI_add]; rfl, nI_1 p⟩
set_option maxRecDepth 100000 in
set_option maxHeartbeats 4000000 in
theorem m_X8_allDangers (l : Launch) : ip_Met l yX8_allDangers cX8_allDangers 3 (some .int) (ip_rm 4) C_X8_allDangers := ip_met tb_X8_allDangers 400 (by decide +kernel) fl_X8_ok cn_X8_ok (ip_cs1 (ip_gsV (m_X8_dangersOf l) (ip_in [804, 806, 21, 39, 807] (by decide +kernel) (by decide +kernel)) rfl ⟨by decide +kernel, by decide +kernel, by decide +kernel⟩ ⟨rfl, rfl, Nat.le_of_ble_eq_true rfl, Nat.le_of_ble_eq_true rfl⟩) (ip_cs1 (ip_gsS (m_X8_size l) (ip_in [835, 836, 39, 837] (by decide +kernel) (by decide +kernel)) ⟨by decide +kernel, by decide +kernel, by decide +kernel⟩ ⟨rfl, rfl, Nat.le_of_ble_eq_true rfl, Nat.le_of_ble_eq_true rfl⟩) (ip_cs0))) ck_X8_allDangers rfl p_X8_allDangers
theorem w100 (a b : Int32) : a - b + 100 = 100 + a - b := by
  rw [Int32.add_comm (a - b) 100, Int32.sub_eq_add_neg, Int32.sub_eq_add_neg, Int32.add_assoc]
def C_X8_worth : ip_C := fun vs hp K => ∃ S R N, ∃ m : Int32, vs = [.ref 0, .int m] ∧ hp = hpM R N ∧ wfM S ∧ relM S R N 0 ∧ K (some (.int (r_worth S m))) hp
def cs_X8_worth : List ip_G := [(125, 2, 8, C_X8_isMan), (188, 1, 8, C_X8_allDangers)]
theorem p_X8_worth : ip_Pf fl_X8 cn_X8 cs_X8_worth (some .int) tb_X8_worth 4 C_X8_worth := ip_pf0 (by
  rintro _ _ K ⟨S, R, N, m, rfl, rfl, hwf, hrel, hK⟩
  refine ⟨Nat.le_of_ble_eq_true rfl, ?_⟩
  obtain ⟨m5, m6, m7, m11, -⟩ := id hrel
  have w3 := hwf.2.2.1
  refine Exists.intro R ⟨N, m, S 3, rfl, rfl, m7, w3, fun b hb => ?_⟩
  refine ip_bn (fun h => ?_) (fun h => ?_)
  · have hin : inI m (S 3) := hb.mp h
    rw [r_worth, if_neg (not_not_intro hin)] at hK
    obtain ⟨i, hi, rfl, ei⟩ := ti_of hin.1
    have l1 : i < 4 := by have := hin.2; omega
    rw [nt_n hi, ← w100] at hK
    have hs := sh1 ⟨i, by omega⟩
    simp only at hs
    have h16 : 2 ^ i < 16 := Nat.pow_lt_pow_right (a := 2) (by decide) l1
    refine Exists.intro S ⟨R, N, 0, by decide, rfl, rfl, hwf, hrel, ?_⟩
    have hr2 : relM S (va_up R 11 ((1 : Int32) <<< (nI i &&& 31))) N (2 ^ i) := by rw [hs]; exact relM_sl _ hrel
    refine Exists.intro S ⟨va_up R 11 ((1 : Int32) <<< (nI i &&& 31)), N, 2 ^ i, h16, rfl, rfl, hwf, hr2, ?_⟩
    have e : va_up (va_up R 11 ((1 : Int32) <<< (nI i &&& 31))) 11 0 = R := by
      have := up_bk R 11 ((1 : Int32) <<< (nI i &&& 31))
      rw [m11] at this
      exact this
    have hK' : K (some (.int (nI (dw S (2 ^ i)) - nI (dw S 0) + 100))) (hpM (va_up (va_up R 11 ((1 : Int32) <<< (nI i &&& 31))) 11 0) N) := by rw [e]; exact hK
    exact hK'
  · have hin : ¬ inI m (S 3) := fun z => by rw [hb.mpr z] at h; cases h
    rw [r_worth, if_pos hin] at hK
    exact hK)
set_option maxRecDepth 100000 in
set_option maxHeartbeats 4000000 in
theorem m_X8_worth (l : Launch) : ip_Met l yX8_worth cX8_worth 4 (some .int) (ip_rm 5) C_X8_worth := ip_met tb_X8_worth 400 (by decide +kernel) fl_X8_ok cn_X8_ok (ip_cs1 (ip_gsV (m_X8_isMan l) (ip_in [754, 756, 16, 39, 757] (by decide +kernel) (by decide +kernel)) rfl ⟨by decide +kernel, by decide +kernel, by decide +kernel⟩ ⟨rfl, rfl, Nat.le_of_ble_eq_true rfl, Nat.le_of_ble_eq_true rfl⟩) (ip_cs1 (ip_gsV (m_X8_allDangers l) (ip_in [867, 869, 28, 39, 870] (by decide +kernel) (by decide +kernel)) rfl ⟨by decide +kernel, by decide +kernel, by decide +kernel⟩ ⟨rfl, rfl, Nat.le_of_ble_eq_true rfl, Nat.le_of_ble_eq_true rfl⟩) (ip_cs0))) ck_X8_worth rfl p_X8_worth
