/-! ===== stood ===== -/
def C_X8_stood : ip_C := fun vs hp K => ∃ tc S G R N, ∃ m : Int32, vs = [.ref 0, .int m] ∧ hp = hpM R N ∧ wfC S G ∧ relA tc S G R N ∧ K (some (.int (r_stood S G m))) hp
def cs_X8_stood : List ip_G := [(125, 2, 8, C_X8_isMan), (191, 1, 8, C_X8_areSo)]
def I_X8_stood (P : Prop) (R : Nat → Int32) (N : Nat → Nat → Int32) (m n : Nat) (f : Nat → Bool) : Nat → Nat → ip_P := fun pc k L st hp => pc = 22 ∧ P ∧ ∃ (s : Nat) (x y : Int32) (F : Nat → Int32), s ≤ n ∧ k = n - s ∧ L = [some (.ref 0), some (.int (nI m)), some (.int (N 5 (nI m).toNatClampNeg)), some (.int x), some (.int y)] ∧ st = [] ∧ hp = hpM R (va_up N 5 F) ∧ x = nI (bs s f) ∧ y = nI s ∧ ∀ x, upd F (nI m).toNatClampNeg x = upd (N 5) (nI m).toNatClampNeg x
theorem p_X8_stood : ip_Pf fl_X8 cn_X8 cs_X8_stood (some .int) tb_X8_stood 5 C_X8_stood := by
  rintro _ _ K ⟨tc, S, G, R, N, m, rfl, rfl, hwf, hrel, hK⟩
  obtain ⟨m5, m6, m7, -⟩ := id hrel.2.2.1
  have w3 := hwf.1.2.2.1
  have w2 := hwf.1.2.1
  refine ⟨Nat.le_of_ble_eq_true rfl, I_X8_stood (inI m (S 3)) R N (nt m) (S 2) (fun s => allSo (va_up S (50 + nt m) s) G), ?_, ?_⟩
  · refine Exists.intro R ⟨N, m, S 3, rfl, rfl, m7, w3, fun b hb => ?_⟩
    refine ip_bn (fun h => ?_) (fun h => ?_)
    · have hin : inI m (S 3) := hb.mp h
      obtain ⟨i, hi, rfl, ei⟩ := ti_of hin.1
      have l1 : i < 4 := by have := hin.2; omega
      rw [nt_n hi]
      refine And.intro (pk_in i 4 l1) ?_
      exact Exists.intro (S 2 - 0) ⟨trivial, rfl, hin, 0, _, _, N 5, by omega, rfl, rfl, rfl, congrArg (hpM R) (up_same N 5).symm, rfl, rfl, fun _ => rfl⟩
    · have hin : ¬ inI m (S 3) := fun z => by rw [hb.mpr z] at h; cases h
      rw [r_stood, if_pos hin] at hK
      exact hK
  · rintro pc k L st hp ⟨rfl, hin, s, x, y, F, hs, rfl, rfl, rfl, rfl, rfl, rfl, hF⟩
    rw [r_stood, if_neg (not_not_intro hin)] at hK
    have l1 : nt m < 4 := by have := (inI_nt hin).1; omega
    have hin0 := hin
    generalize nt m = m' at hK hF l1 ⊢
    have hv : vp_in (nI m') 4 := pk_in m' 4 l1
    generalize hf : (fun s => allSo (va_up S (50 + m') s) G) = f at hK ⊢
    have hfs : allSo (va_up S (50 + m') s) G = f s := by rw [← hf]
    have b6 : ∀ {X Y : Prop}, (S 2 ≤ s → X) → (s < S 2 → Y) → (R 6 ≤ nI s → X) ∧ (¬ R 6 ≤ nI s → Y) := fun f g => by rw [m6]; exact pk_le (S 2) s f g
    refine b6 (fun h => ?_) (fun h => ?_)
    · obtain rfl : s = S 2 := by omega
      have e : va_up (va_up N 5 F) 5 (upd F (nI m').toNatClampNeg (N 5 (nI m').toNatClampNeg)) = N := by rw [hF, fa_upd_same rfl]; exact up_bk N 5 F
      have hK' : K (some (.int (nI (bs (S 2) f)))) (hpM R (va_up (va_up N 5 F) 5 (upd F (nI m').toNatClampNeg (N 5 (nI m').toNatClampNeg)))) := by rw [e]; exact hK
      exact And.intro hv hK'
    have hr2 : relM (va_up S (50 + m') s) R (va_up N 5 (upd F (nI m').toNatClampNeg (nI s))) 0 := by rw [hF]; exact relM_p s l1 hrel.2.2.1
    have hrr : relR (va_up S (50 + m') s) G R (va_up N 5 (upd F (nI m').toNatClampNeg (nI s))) := ⟨by rw [up_n (f := S) 4 (by omega)]; exact hrel.2.2.2.1.1, hrel.2.2.2.1.2⟩
    have h9 : nI s + 1 = nI (s + 1) := nI_1 s
    have hn : ∀ (x y : Int32), x = nI (bs (s + 1) f) → y = nI (s + 1) → ∃ k, ip_lt k (some (S 2 - s)) ∧ I_X8_stood (inI m (S 3)) R N m' (S 2) f 22 k [some (.ref 0), some (.int (nI m')), some (.int (N 5 (nI m').toNatClampNeg)), some (.int x), some (.int y)] [] (hpM R (va_up N 5 (upd F (nI m').toNatClampNeg (nI s)))) := fun x y hx hy => ⟨S 2 - (s + 1), by show _ < _; omega, rfl, hin0, s + 1, x, y, _, by omega, rfl, rfl, rfl, rfl, hx, hy, fun x => by rw [fa_upd_twice]; exact hF x⟩
    have hb := bs_lt f s
    have e0 : f s = false → nI (bs s f) ||| 0 = nI (bs (s + 1) f) := fun h => by rw [show (0 : Int32) = nI 0 from rfl, fa_or, Nat.or_zero]; simp [bs, h]
    have e1 : f s = true → nI (bs s f) ||| ((1 : Int32) <<< (nI s &&& 31)) = nI (bs (s + 1) f) := fun h => by rw [or_bit hb (by omega)]; simp [bs, h]
    clear hK
    refine And.intro hv ?_
    refine Exists.intro R ⟨va_up N 5 (upd F (nI m').toNatClampNeg (nI s)), va_up S (50 + m') s, G, rfl, rfl, wfM_pl hwf.1 l1 (by omega), wfR_up hwf.2.2.1 (by omega), hr2, hrr, ?_⟩
    rw [hfs]
    refine ip_bt (fun h3 => ?_) (fun h3 => ?_)
    · exact hn _ _ (e0 h3) h9
    · exact hn _ _ (e1 h3) h9
set_option maxRecDepth 100000 in
set_option maxHeartbeats 4000000 in
theorem m_X8_stood (l : Launch) : ip_Met l yX8_stood cX8_stood 5 (some .int) (ip_rm 4) C_X8_stood := ip_met tb_X8_stood 400 (by decide +kernel) fl_X8_ok cn_X8_ok (ip_cs1 (ip_gsV (m_X8_isMan l) (ip_in [754, 756, 16, 39, 757] (by decide +kernel) (by decide +kernel)) rfl ⟨by decide +kernel, by decide +kernel, by decide +kernel⟩ ⟨rfl, rfl, Nat.le_of_ble_eq_true rfl, Nat.le_of_ble_eq_true rfl⟩) (ip_cs1 (ip_gsV (m_X8_areSo l) (ip_in [883, 885, 29, 39, 886] (by decide +kernel) (by decide +kernel)) rfl ⟨by decide +kernel, by decide +kernel, by decide +kernel⟩ ⟨rfl, rfl, Nat.le_of_ble_eq_true rfl, Nat.le_of_ble_eq_true rfl⟩) (ip_cs0))) ck_X8_stood rfl p_X8_stood
/-! ===== kinds ===== -/
def C_X8_kinds : ip_C := fun vs hp K => ∃ tc S G R N, ∃ m : Int32, vs = [.ref 0, .int m] ∧ hp = hpM R N ∧ wfC S G ∧ relA tc S G R N ∧ K (some (.int (r_kinds S G m))) hp
def cs_X8_kinds : List ip_G := [(125, 2, 8, C_X8_isMan), (191, 1, 8, C_X8_areSo)]
def I_X8_kinds (P : Prop) (R : Nat → Int32) (N : Nat → Nat → Int32) (m n : Nat) (f : Nat → Bool) : Nat → Nat → ip_P := fun pc k L st hp => pc = 22 ∧ P ∧ ∃ (s : Nat) (x y : Int32) (F : Nat → Int32), s ≤ n ∧ k = n - s ∧ L = [some (.ref 0), some (.int (nI m)), some (.int (N 4 (nI m).toNatClampNeg)), some (.int x), some (.int y)] ∧ st = [] ∧ hp = hpM R (va_up N 4 F) ∧ x = nI (bs s f) ∧ y = nI s ∧ ∀ x, upd F (nI m).toNatClampNeg x = upd (N 4) (nI m).toNatClampNeg x
theorem p_X8_kinds : ip_Pf fl_X8 cn_X8 cs_X8_kinds (some .int) tb_X8_kinds 5 C_X8_kinds := by
  rintro _ _ K ⟨tc, S, G, R, N, m, rfl, rfl, hwf, hrel, hK⟩
  obtain ⟨m5, m6, m7, -⟩ := id hrel.2.2.1
  have w3 := hwf.1.2.2.1
  have w2 := hwf.1.2.1
  refine ⟨Nat.le_of_ble_eq_true rfl, I_X8_kinds (inI m (S 3)) R N (nt m) (3) (fun s => allSo (va_up S (40 + nt m) s) G), ?_, ?_⟩
  · refine Exists.intro R ⟨N, m, S 3, rfl, rfl, m7, w3, fun b hb => ?_⟩
    refine ip_bn (fun h => ?_) (fun h => ?_)
    · have hin : inI m (S 3) := hb.mp h
      obtain ⟨i, hi, rfl, ei⟩ := ti_of hin.1
      have l1 : i < 4 := by have := hin.2; omega
      rw [nt_n hi]
      refine And.intro (pk_in i 4 l1) ?_
      exact Exists.intro (3 - 0) ⟨trivial, rfl, hin, 0, _, _, N 4, by omega, rfl, rfl, rfl, congrArg (hpM R) (up_same N 4).symm, rfl, rfl, fun _ => rfl⟩
    · have hin : ¬ inI m (S 3) := fun z => by rw [hb.mpr z] at h; cases h
      rw [r_kinds, if_pos hin] at hK
      exact hK
  · rintro pc k L st hp ⟨rfl, hin, s, x, y, F, hs, rfl, rfl, rfl, rfl, rfl, rfl, hF⟩
    rw [r_kinds, if_neg (not_not_intro hin)] at hK
    have l1 : nt m < 4 := by have := (inI_nt hin).1; omega
    have hin0 := hin
    generalize nt m = m' at hK hF l1 ⊢
    have hv : vp_in (nI m') 4 := pk_in m' 4 l1
    generalize hf : (fun s => allSo (va_up S (40 + m') s) G) = f at hK ⊢
    have hfs : allSo (va_up S (40 + m') s) G = f s := by rw [← hf]
    have b6 : ∀ {X Y : Prop}, (3 ≤ s → X) → (s < 3 → Y) → (nI 3 ≤ nI s → X) ∧ (¬ nI 3 ≤ nI s → Y) := fun f g => by exact pk_le (3) s f g
    refine b6 (fun h => ?_) (fun h => ?_)
    · obtain rfl : s = 3 := by omega
      have e : va_up (va_up N 4 F) 4 (upd F (nI m').toNatClampNeg (N 4 (nI m').toNatClampNeg)) = N := by rw [hF, fa_upd_same rfl]; exact up_bk N 4 F
      have hK' : K (some (.int (nI (bs (3) f)))) (hpM R (va_up (va_up N 4 F) 4 (upd F (nI m').toNatClampNeg (N 4 (nI m').toNatClampNeg)))) := by rw [e]; exact hK
      exact And.intro hv hK'
    have hr2 : relM (va_up S (40 + m') s) R (va_up N 4 (upd F (nI m').toNatClampNeg (nI s))) 0 := by rw [hF]; exact relM_k s l1 hrel.2.2.1
    have hrr : relR (va_up S (40 + m') s) G R (va_up N 4 (upd F (nI m').toNatClampNeg (nI s))) := ⟨by rw [up_n (f := S) 4 (by omega)]; exact hrel.2.2.2.1.1, hrel.2.2.2.1.2⟩
    have h9 : nI s + 1 = nI (s + 1) := nI_1 s
    have hn : ∀ (x y : Int32), x = nI (bs (s + 1) f) → y = nI (s + 1) → ∃ k, ip_lt k (some (3 - s)) ∧ I_X8_kinds (inI m (S 3)) R N m' (3) f 22 k [some (.ref 0), some (.int (nI m')), some (.int (N 4 (nI m').toNatClampNeg)), some (.int x), some (.int y)] [] (hpM R (va_up N 4 (upd F (nI m').toNatClampNeg (nI s)))) := fun x y hx hy => ⟨3 - (s + 1), by show _ < _; omega, rfl, hin0, s + 1, x, y, _, by omega, rfl, rfl, rfl, rfl, hx, hy, fun x => by rw [fa_upd_twice]; exact hF x⟩
    have hb := bs_lt f s
    have e0 : f s = false → nI (bs s f) ||| 0 = nI (bs (s + 1) f) := fun h => by rw [show (0 : Int32) = nI 0 from rfl, fa_or, Nat.or_zero]; simp [bs, h]
    have e1 : f s = true → nI (bs s f) ||| ((1 : Int32) <<< (nI s &&& 31)) = nI (bs (s + 1) f) := fun h => by rw [or_bit hb (by omega)]; simp [bs, h]
    clear hK
    refine And.intro hv ?_
    refine Exists.intro R ⟨va_up N 4 (upd F (nI m').toNatClampNeg (nI s)), va_up S (40 + m') s, G, rfl, rfl, wfM_kd hwf.1 l1 (by omega), wfR_up hwf.2.2.1 (by omega), hr2, hrr, ?_⟩
    rw [hfs]
    refine ip_bt (fun h3 => ?_) (fun h3 => ?_)
    · exact hn _ _ (e0 h3) h9
    · exact hn _ _ (e1 h3) h9
set_option maxRecDepth 100000 in
set_option maxHeartbeats 4000000 in
theorem m_X8_kinds (l : Launch) : ip_Met l yX8_kinds cX8_kinds 5 (some .int) (ip_rm 4) C_X8_kinds := ip_met tb_X8_kinds 400 (by decide +kernel) fl_X8_ok cn_X8_ok (ip_cs1 (ip_gsV (m_X8_isMan l) (ip_in [754, 756, 16, 39, 757] (by decide +kernel) (by decide +kernel)) rfl ⟨by decide +kernel, by decide +kernel, by decide +kernel⟩ ⟨rfl, rfl, Nat.le_of_ble_eq_true rfl, Nat.le_of_ble_eq_true rfl⟩) (ip_cs1 (ip_gsV (m_X8_areSo l) (ip_in [883, 885, 29, 39, 886] (by decide +kernel) (by decide +kernel)) rfl ⟨by decide +kernel, by decide +kernel, by decide +kernel⟩ ⟨rfl, rfl, Nat.le_of_ble_eq_true rfl, Nat.le_of_ble_eq_true rfl⟩) (ip_cs0))) ck_X8_kinds rfl p_X8_kinds
