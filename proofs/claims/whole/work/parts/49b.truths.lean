/-! ===== truths ===== -/
def C_X8_truths : ip_C := fun vs hp K => ∃ tc S G R N, ∃ w : Int32, vs = [.ref 0, .int w] ∧ hp = hpM R N ∧ wfC S G ∧ relA tc S G R N ∧ K (some (.int (r_truths S G w))) hp
def cs_X8_truths : List ip_G := [(65, 3, 0, C_X8_within), (191, 1, 8, C_X8_areSo)]
def I_X8_truths (P : Prop) (R : Nat → Int32) (N : Nat → Nat → Int32) (w : Int32) (f : Nat → Bool) : Nat → Nat → ip_P := fun pc k L st hp => pc = 50 ∧ P ∧ ∃ (s : Nat) (x y z u v : Int32), s ≤ 64 ∧ k = 64 - s ∧ L = [some (.ref 0), some (.int w), some (.int (R 5)), some (.int x), some (.int y), some (.int z), some (.int u)] ∧ st = [] ∧ hp = hpM (va_up R 5 v) N ∧ x = nI (fb_ct f s) ∧ y = ob (lst f s) ∧ z = (if w.toInt < 10 then 0 else nI (fb_ct (fun s => f s && s.testBit (w.toInt.toNat - 10)) s)) ∧ u = nI s
theorem p_X8_truths : ip_Pf fl_X8 cn_X8 cs_X8_truths (some .int) tb_X8_truths 7 C_X8_truths := by
  rintro _ _ K ⟨tc, S, G, R, N, w, rfl, rfl, hwf, hrel, hK⟩
  obtain ⟨m5, m6, m7, -⟩ := id hrel.2.2.1
  have w5 := hwf.2.2.2.2.1
  have w3 := hwf.1.2.2.1
  refine ⟨Nat.le_of_ble_eq_true rfl, I_X8_truths ((w.toInt = 0 ∨ w.toInt = 1 ∨ (10 ≤ w.toInt ∧ w.toInt ≤ 15)) ∧ S 2 ≠ 0) R N w (fun s => allSo (va_up S 1 s) G), ?_, ?_⟩
  · have b7 : ∀ {X Y : Prop}, (S 3 ≠ 0 → X) → (S 3 = 0 → Y) → (¬ R 7 = 0 → X) ∧ (R 7 = 0 → Y) := fun f g => by rw [m7]; exact pk_ne (S 3) 0 f g
    have kbad : ¬ (w.toInt = 0 ∨ w.toInt = 1 ∨ (10 ≤ w.toInt ∧ w.toInt ≤ 15)) → K (some (.int (-2))) (hpM R N) := fun z => by rw [r_truths, if_pos z] at hK; exact hK
    have kst : (w.toInt = 0 ∨ w.toInt = 1 ∨ (10 ≤ w.toInt ∧ w.toInt ≤ 15)) → S 3 = 0 → K (some (.int (-3))) (hpM R N) := fun z z2 => by rw [r_truths, if_neg (not_not_intro z), if_pos (w5.mpr z2)] at hK; exact hK
    have hu : va_up R 5 (R 5) = R := up_same R 5
    refine Exists.intro w ⟨0, 1, rfl, fun b hb => ?_⟩
    have t0 : (0 : Int32).toInt = 0 := by decide
    have t1 : (1 : Int32).toInt = 1 := by decide
    have t2 : (10 : Int32).toInt = 10 := by decide
    have t3 : (15 : Int32).toInt = 15 := by decide
    rw [t0, t1] at hb
    have hz : ∀ {X : Prop}, X → (if w.toInt < 10 then (0 : Int32) else nI (fb_ct (fun s => allSo (va_up S 1 s) G && s.testBit (w.toInt.toNat - 10)) 0)) = 0 := fun _ => by split <;> rfl
    have go : (w.toInt = 0 ∨ w.toInt = 1 ∨ (10 ≤ w.toInt ∧ w.toInt ≤ 15)) → S 3 ≠ 0 → ∃ k, ip_lt k none ∧ I_X8_truths ((w.toInt = 0 ∨ w.toInt = 1 ∨ (10 ≤ w.toInt ∧ w.toInt ≤ 15)) ∧ S 2 ≠ 0) R N w (fun s => allSo (va_up S 1 s) G) 50 k [some (.ref 0), some (.int w), some (.int (R 5)), some (.int 0), some (.int (-9)), some (.int 0), some (.int 0)] [] (hpM R N) := fun z z2 => ⟨64, trivial, rfl, ⟨z, fun q => z2 (w5.mp q)⟩, 0, 0, -9, 0, 0, R 5, by omega, rfl, rfl, rfl, by rw [hu], rfl, rfl, (hz trivial).symm, rfl⟩
    refine ip_bn (fun h => ?_) (fun h => ?_)
    · have h' := hb.mp h
      refine b7 (fun h2 => ?_) (fun h2 => ?_)
      · obtain ⟨k, r⟩ := go (by omega) h2
        exact Exists.intro k r
      · exact kst (by omega) h2
    · have h' : ¬ (0 ≤ w.toInt ∧ w.toInt ≤ 1) := fun z => by rw [hb.mpr z] at h; cases h
      refine Exists.intro w ⟨10, 15, rfl, fun b2 hb2 => ?_⟩
      rw [t2, t3] at hb2
      refine ip_bn (fun h3 => ?_) (fun h3 => ?_)
      · have h3 := hb2.mp h3
        refine b7 (fun h2 => ?_) (fun h2 => ?_)
        · obtain ⟨k, r⟩ := go (by omega) h2
          exact Exists.intro k r
        · exact kst (by omega) h2
      · have h4 : ¬ (10 ≤ w.toInt ∧ w.toInt ≤ 15) := fun z => by rw [hb2.mpr z] at h3; cases h3
        exact kbad (by omega)
  · rintro pc k L st hp ⟨rfl, ⟨hw, hs2⟩, s, x, y, z, u, v, hs, rfl, rfl, rfl, rfl, rfl, rfl, rfl, rfl⟩
    rw [r_truths, if_neg (not_not_intro hw), if_neg hs2] at hK
    refine pk_lt 63 s (fun h => ?_) (fun h => ?_)
    · obtain rfl : s = 64 := by omega
      have hu : va_up (va_up R 5 v) 5 (R 5) = R := up_bk R 5 v
      have hK' : ∀ r, (if w.toInt = 0 then nI (fb_ct (fun s => allSo (va_up S 1 s) G) 64) else if w.toInt = 1 then ob (lst (fun s => allSo (va_up S 1 s) G) 64) else nI (fb_ct (fun s => allSo (va_up S 1 s) G && s.testBit (w.toInt.toNat - 10)) 64)) = r → K (some (.int r)) (hpM (va_up (va_up R 5 v) 5 (R 5)) N) := fun r e => by rw [hu, ← e]; exact hK
      refine bz_ne w.toInt 0 (fun h2 => ?_) (fun h2 => ?_)
      · refine bz_ne w.toInt 1 (fun h3 => ?_) (fun h3 => ?_)
        · exact hK' _ (by rw [if_neg h2, if_neg h3, if_neg (by omega)])
        · exact hK' _ (by rw [if_neg h2, if_pos h3])
      · exact hK' _ (by rw [if_pos h2])
    generalize hf : (fun s => allSo (va_up S 1 s) G) = f at hK ⊢
    have hfs : allSo (va_up S 1 s) G = f s := by rw [← hf]
    have hct := ct_64 f hs
    have hP : (w.toInt = 0 ∨ w.toInt = 1 ∨ (10 ≤ w.toInt ∧ w.toInt ≤ 15)) ∧ S 2 ≠ 0 := ⟨hw, hs2⟩
    have h9 : nI s + 1 = nI (s + 1) := nI_1 s
    have hn : ∀ (x y z u : Int32), x = nI (fb_ct f (s + 1)) → y = ob (lst f (s + 1)) → z = (if w.toInt < 10 then 0 else nI (fb_ct (fun s => f s && s.testBit (w.toInt.toNat - 10)) (s + 1))) → u = nI (s + 1) → ∃ k, ip_lt k (some (64 - s)) ∧ I_X8_truths ((w.toInt = 0 ∨ w.toInt = 1 ∨ (10 ≤ w.toInt ∧ w.toInt ≤ 15)) ∧ S 2 ≠ 0) R N w f 50 k [some (.ref 0), some (.int w), some (.int (R 5)), some (.int x), some (.int y), some (.int z), some (.int u)] [] (hpM (va_up R 5 (nI s)) N) := fun x y z u hx hy hz hu => ⟨64 - (s + 1), by show _ < _; omega, rfl, hP, s + 1, x, y, z, u, nI s, by omega, rfl, rfl, rfl, rfl, hx, hy, hz, hu⟩
    have x0 : f s = false → nI (fb_ct f s) = nI (fb_ct f (s + 1)) := fun h => by rw [fb_ct_succ, h]; simp
    have x1 : f s = true → nI (fb_ct f s) + 1 = nI (fb_ct f (s + 1)) := fun h => by rw [fb_ct_succ, h, nI_1]; simp
    have y0 : f s = false → ob (lst f s) = ob (lst f (s + 1)) := fun h => by
      simp only [lst]
      cases lst f s with
      | none => rw [h]; rfl
      | some a => rfl
    have y1 : fb_ct f s = 0 → f s = true → nI s = ob (lst f (s + 1)) := fun h h2 => by
      simp only [lst]
      rw [(lst_ct s).mp h, h2]
      rfl
    have y2 : fb_ct f s ≠ 0 → ob (lst f s) = ob (lst f (s + 1)) := fun h => by
      simp only [lst]
      cases e : lst f s with
      | none => exact absurd ((lst_ct s).mpr e) h
      | some a => rfl
    have z0 : f s = false → (if w.toInt < 10 then (0 : Int32) else nI (fb_ct (fun s => f s && s.testBit (w.toInt.toNat - 10)) s)) = (if w.toInt < 10 then 0 else nI (fb_ct (fun s => f s && s.testBit (w.toInt.toNat - 10)) (s + 1))) := fun h => by rw [fb_ct_succ, h]; simp
    have z1 : w.toInt < 10 → (if w.toInt < 10 then (0 : Int32) else nI (fb_ct (fun s => f s && s.testBit (w.toInt.toNat - 10)) s)) + 0 = (if w.toInt < 10 then 0 else nI (fb_ct (fun s => f s && s.testBit (w.toInt.toNat - 10)) (s + 1))) := fun h => by rw [if_pos h, if_pos h]; rfl
    have z2 : 10 ≤ w.toInt → f s = true → (if w.toInt < 10 then (0 : Int32) else nI (fb_ct (fun s => f s && s.testBit (w.toInt.toNat - 10)) s)) + ((nI s >>> ((w - 10) &&& 31)) &&& 1) = (if w.toInt < 10 then 0 else nI (fb_ct (fun s => f s && s.testBit (w.toInt.toNat - 10)) (s + 1))) := fun h h2 => by
      obtain ⟨j, hj, rfl, ej⟩ := ti_of (show 0 ≤ w.toInt by omega)
      rw [if_neg (by omega), if_neg (by omega), ej, show ((j : Int)).toNat - 10 = j - 10 by omega, show nI j - 10 = nI (j - 10) from pk_sub (a := j) (b := 10) (by omega)]
      have hb := bt_bi ⟨s, by omega⟩ ⟨j - 10, by omega⟩
      simp only at hb
      rw [hb, add_bi, fb_ct_succ, h2]
      simp
    clear hK
    refine Exists.intro (va_up R 5 (nI s)) ⟨N, va_up S 1 s, G, rfl, rfl, wfM_tr hwf.1 (by omega), wfR_up hwf.2.2.1 (by decide), relM_t s hrel.2.2.1, hrel.2.2.2.1, ?_⟩
    rw [hfs]
    refine ip_bt (fun h3 => ?_) (fun h3 => ?_)
    · exact hn _ _ _ _ (x0 h3) (y0 h3) (z0 h3) h9
    refine pk_ne (fb_ct f s) 0 (fun h4 => ?_) (fun h4 => ?_)
    · refine bz_le 10 w.toInt (fun h5 => ?_) (fun h5 => ?_)
      · exact hn _ _ _ _ (x1 h3) (y2 h4) (z2 h5 h3) h9
      · exact hn _ _ _ _ (x1 h3) (y2 h4) (z1 h5) h9
    · refine bz_le 10 w.toInt (fun h5 => ?_) (fun h5 => ?_)
      · exact hn _ _ _ _ (x1 h3) (y1 h4 h3) (z2 h5 h3) h9
      · exact hn _ _ _ _ (x1 h3) (y1 h4 h3) (z1 h5) h9
set_option maxRecDepth 100000 in
set_option maxHeartbeats 4000000 in
theorem m_X8_truths (l : Launch) : ip_Met l yX8_truths cX8_truths 7 (some .int) (ip_rm 4) C_X8_truths := ip_met tb_X8_truths 400 (by decide +kernel) fl_X8_ok cn_X8_ok (ip_cs1 (ip_gsS (m_X8_within l) (ip_in [716, 717, 39, 718] (by decide +kernel) (by decide +kernel)) ⟨by decide +kernel, by decide +kernel, by decide +kernel⟩ ⟨rfl, rfl, Nat.le_of_ble_eq_true rfl, Nat.le_of_ble_eq_true rfl⟩) (ip_cs1 (ip_gsV (m_X8_areSo l) (ip_in [883, 885, 29, 39, 886] (by decide +kernel) (by decide +kernel)) rfl ⟨by decide +kernel, by decide +kernel, by decide +kernel⟩ ⟨rfl, rfl, Nat.le_of_ble_eq_true rfl, Nat.le_of_ble_eq_true rfl⟩) (ip_cs0))) ck_X8_truths rfl p_X8_truths
