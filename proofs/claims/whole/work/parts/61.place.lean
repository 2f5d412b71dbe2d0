/-! ===== find, place ===== -/
theorem heldS_S {S S' : Nat → Nat} (h1 : S' 1 = S 1) (h3 : S' 3 = S 3) (hm : ∀ m, m < S 3 → S' (40 + m) = S (40 + m) ∧ S' (60 + m) = S (60 + m)) (pr : Nat → Bool) (q : Nat) : heldS S' pr q = heldS S pr q := by
  unfold heldS
  rw [h1, h3]
  exact held_cong (fun m h => ⟨(hm m h).1, (hm m h).2, rfl⟩)
theorem Tm_S {S S' : Nat → Nat} (h1 : S' 1 = S 1) (h3 : S' 3 = S 3) (hm : ∀ m, m < S 3 → S' (40 + m) = S (40 + m) ∧ S' (60 + m) = S (60 + m)) (sp sq : Nat → Nat) (n m : Nat) (pl : Nat → Nat) : Tm S' sp sq n m pl = Tm S sp sq n m pl :=
  fb_ct_cong (fun t _ => by rw [heldS_S h1 h3 hm])
theorem up67 {S : Nat → Nat} {x y j : Nat} (h : j ≠ 6) (h2 : j ≠ 7) : va_up (va_up S 6 x) 7 y j = S j := by simp only [va_up]; rw [if_neg h2, if_neg h]
theorem wfM_67 {S : Nat → Nat} (h : wfM S) (x y : Nat) : wfM (va_up (va_up S 6 x) 7 y) := by
  obtain ⟨a, b, c, d⟩ := h
  refine ⟨a, b, c, fun m hm => ?_⟩
  rw [up67 (by omega) (by omega), up67 (by omega) (by omega), up67 (by omega) (by omega)]
  exact d m hm
def cF (S : Nat → Nat) (G : Nat → Nat → Int32) (x : Nat) : Nat := Tm S (pN (G 7)) (pN (G 8)) (S 5) (S 3) (dg (S 2) (S 3) x)
def C_X3_find : ip_C := fun vs hp K => ∃ tc S G, vs = [.ref 23, .ref 10, .ref 20] ∧ hp = hpC tc S G ∧ wfM S ∧ wfT S G ∧ 0 < S 2 ∧ ∀ F9 F10 F11 F12 few, few = cF S G (amn (cF S G) (S 2 ^ S 3)) → (∀ i, i < S 3 → F12 i = nI (dg (S 2) (S 3) (amn (cF S G) (S 2 ^ S 3)) i)) → K none (hpC tc (va_up (va_up (va_up S 6 (S 2)) 7 (S 3)) 8 few) (va_up (va_up (va_up (va_up G 9 F9) 10 F10) 11 F11) 12 F12))
def cs_X3_find : List ip_G := [(30, 2, 0, C_J9_min), (43, 3, 3, C_X3_weigh), (47, 2, 0, C_J7_fill), (61, 3, 0, C_X3_goOn)]
theorem crd_0 (pl : Nat → Nat) (p : Nat) : crd 0 pl p = 0 := by
  unfold crd
  rw [bs_cong (g := fun _ => false) (fun i _ => by simp)]
  rfl
theorem p_X3_find : ip_Pf fl_X3 [] cs_X3_find none tb_X3_find 3 C_X3_find := ip_pf0 (by
  rintro _ _ K ⟨tc, S, G, rfl, rfl, hw, hwt, hP, hK⟩
  have w2 := hw.2.1
  have w3 := hw.2.2.1
  have h20 := hwt.1
  refine ⟨Nat.le_of_ble_eq_true rfl, ?_⟩
  refine Exists.intro (nI (S 2)) ⟨6, rfl, fun r hr => ?_⟩
  have er : r = nI (S 2) := by
    rw [ti_n (by omega), show (6 : Int32).toInt = 6 by decide] at hr
    rw [fa_eq, hr, ti_n (by omega)]
    omega
  subst er
  refine Exists.intro (nI (S 3)) ⟨4, rfl, fun r hr => ?_⟩
  have er : r = nI (S 3) := by
    rw [ti_n (by omega), show (4 : Int32).toInt = 4 by decide] at hr
    rw [fa_eq, hr, ti_n (by omega)]
    omega
  subst er
  have hw' := wfM_67 hw (S 2) (S 3)
  refine Exists.intro tc ⟨va_up (va_up S 6 (S 2)) 7 (S 3), G, rfl, rfl, hw', hwt, fun F hF => ?_⟩
  refine Exists.intro tc ⟨va_up (va_up S 6 (S 2)) 7 (S 3), va_up G 9 F, 10, 25, 6, 0, Or.inr (Or.inr (Or.inr (Or.inr (Or.inr ⟨rfl, rfl, rfl⟩)))), rfl, rfl, ?_⟩
  have eT : ∀ m pl, Tm (va_up (va_up S 6 (S 2)) 7 (S 3)) (pN (G 7)) (pN (G 8)) (S 5) m pl = Tm S (pN (G 7)) (pN (G 8)) (S 5) m pl := fun m pl => Tm_S (S := S) (S' := va_up (va_up S 6 (S 2)) 7 (S 3)) rfl rfl (fun m _ => ⟨up67 (by omega) (by omega), up67 (by omega) (by omega)⟩) _ _ _ _ _
  have hst : ∀ m pl p, m < S 3 → p < S 2 → Tm S (pN (G 7)) (pN (G 8)) (S 5) (m + 1) (pls pl m p) + ctm (va_up (va_up S 6 (S 2)) 7 (S 3)) (pN (G 7)) (pN (G 8)) (S 5) p (crd m pl p) = Tm S (pN (G 7)) (pN (G 8)) (S 5) m pl + ctm (va_up (va_up S 6 (S 2)) 7 (S 3)) (pN (G 7)) (pN (G 8)) (S 5) p (crd (m + 1) (pls pl m p) p) := fun m pl p _ _ => by
    rw [← eT, ← eT]
    exact Tm_step (S := va_up (va_up S 6 (S 2)) 7 (S 3)) w3
  refine Exists.intro tc ⟨va_up (va_up (va_up S 6 (S 2)) 7 (S 3)) 8 (S 5 + 1), va_up (va_up G 9 F) 10 (fa_fill (fun _ => 0) (G 10) 6), ctm (va_up (va_up S 6 (S 2)) 7 (S 3)) (pN (G 7)) (pN (G 8)) (S 5), Tm S (pN (G 7)) (pN (G 8)) (S 5), 0, fun _ => 0, (by show S 3 - 0 ≤ 4; omega), (by show [Value.ref 23, Value.int (nI 0), Value.int (nI (S 5))] = _; rw [Tm_0]), ?_, ⟨w2, w3, Nat.zero_le _, (by show S 5 + 1 ≤ 21; omega), fun i hi => absurd hi (by omega), hF, fun p hp => ?_, fun i hi => absurd hi (by omega)⟩, ⟨fun m pl => Nat.le_trans (Tm_le _ _ _ _ _ _) h20, fun p c => Nat.le_trans (ctm_le _ _ _ _ _ _) h20, fun m pl pl' h => Tm_cong h, hst⟩, fun few' X Y Z hX hY hup => ?_⟩
  · exact congrArg (fun v => List.set (hpC tc (va_up (va_up S 6 (S 2)) 7 (S 3)) (va_up (va_up G 9 F) 10 (fa_fill (fun _ => 0) (G 10) 6))) 23 (.inr (2, [.ref 24, .ref 25, .ref 26, .ref 27, .int (nI (S 2)), .int (nI (S 3)), .int v]))) (nI_1 (S 5))
  · show fa_fill (fun _ => 0) (G 10) 6 p = _
    rw [fa_fill_in hp, crd_0]
    rfl
  · have hup : upR (cF S G) (S 2) (S 3) 0 (S 2 ^ S 3) (S 5 + 1) few' (G 12) Z := by
      have e1 : nm (S 2) (fun _ => 0) 0 * S 2 ^ (S 3 - 0) = 0 := by rw [nm, Nat.zero_mul]
      have e2 : (nm (S 2) (fun _ => 0) 0 + 1) * S 2 ^ (S 3 - 0) = S 2 ^ S 3 := by rw [nm, Nat.zero_add, Nat.one_mul, Nat.sub_zero]
      have := hup
      change upR (cF S G) (S 2) (S 3) (nm (S 2) (fun _ => 0) 0 * S 2 ^ (S 3 - 0)) ((nm (S 2) (fun _ => 0) 0 + 1) * S 2 ^ (S 3 - 0)) (S 5 + 1) few' (G 12) Z at this
      rw [e1, e2] at this
      exact this
    have hpos : 0 < S 2 ^ S 3 := Nat.pow_pos hP
    obtain ⟨w, hw⟩ : ∃ w, S 2 ^ S 3 = w + 1 := ⟨S 2 ^ S 3 - 1, by omega⟩
    rw [hw] at hup hK
    obtain ⟨r1, r2⟩ := upR_all hup (fun x => Nat.lt_succ_of_le (Tm_le _ _ _ _ _ _))
    exact hK F X Y Z few' r1 r2)
set_option maxRecDepth 100000 in
set_option maxHeartbeats 4000000 in
theorem m_X3_find (l : Launch) : ip_Met l yX3_find cX3_find 3 none (ip_rm 8) C_X3_find := ip_met tb_X3_find 400 (by decide +kernel) fl_X3_ok ip_cn0 (ip_cs1 (ip_gsMin (ip_in [395, 275, 41, 276] (by decide +kernel) (by decide +kernel)) ⟨Nat.le_of_ble_eq_true rfl, Nat.le_of_ble_eq_true rfl⟩) (ip_cs1 (ip_gsV (m_X3_weigh l) (ip_in [396, 397, 398, 37, 399] (by decide +kernel) (by decide +kernel)) rfl ⟨by decide +kernel, by decide +kernel, by decide +kernel⟩ ⟨rfl, rfl, Nat.le_of_ble_eq_true rfl, Nat.le_of_ble_eq_true rfl⟩) (ip_cs1 (ip_gsS (m_J7_fill l) (ip_in [400, 401, 42, 402] (by decide +kernel) (by decide +kernel)) ⟨by decide +kernel, by decide +kernel, by decide +kernel⟩ ⟨rfl, rfl, Nat.le_of_ble_eq_true rfl, Nat.le_of_ble_eq_true rfl⟩) (ip_cs1 (ip_gsS (m_X3_goOn l) (ip_in [405, 406, 37, 407] (by decide +kernel) (by decide +kernel)) ⟨by decide +kernel, by decide +kernel, by decide +kernel⟩ ⟨rfl, rfl, Nat.le_of_ble_eq_true rfl, Nat.le_of_ble_eq_true rfl⟩) (ip_cs0))))) ck_X3_find rfl p_X3_find
def sameC (S : Nat → Nat) (G : Nat → Nat → Int32) (f : Nat) (S' : Nat → Nat) (G' : Nat → Nat → Int32) : Prop := S' 0 = f ∧ (∀ j, j ≠ 0 → (j < 5 ∨ 8 < j) → S' j = S j) ∧ ∀ j, j < 7 → G' j = G j
def C_X7_place : ip_C := fun vs hp K => ∃ tc S G, ∃ (kk sh ln i n : Int32), vs = [.ref 0, .int kk, .int sh, .int ln, .int i, .int n] ∧ hp = hpC tc S G ∧ wfC S G ∧ ∀ S' G', sameC S G (q_place S G kk sh ln i n).2 S' G' → K (some (.int (q_place S G kk sh ln i n).1)) (hpC tc S' G')
def cs_X7_place : List ip_G := [(129, 6, 7, C_X7_hearStorm), (143, 3, 3, C_X3_find), (150, 2, 3, C_X3_parishOf)]
theorem same_05 (S : Nat → Nat) (G : Nat → Nat → Int32) (f x : Nat) (g h : Nat → Int32) : sameC S G f (va_up (va_up S 0 f) 5 x) (va_up (va_up G 7 g) 8 h) := by
  refine ⟨rfl, fun j h0 hj => up05 h0 (by omega), fun j hj => ?_⟩
  rw [up_n j (by omega), up_n j (by omega)]
theorem p_X7_place : ip_Pf fl_X7 cn_X7 cs_X7_place (some .int) tb_X7_place 7 C_X7_place := ip_pf0 (by
  rintro _ _ K ⟨tc, S, G, kk, sh, ln, i, n, rfl, rfl, hwf, hK⟩
  refine ⟨Nat.le_of_ble_eq_true rfl, ?_⟩
  have w3 := hwf.1.2.2.1
  have s0 : ∀ c : Nat, sameC S G c (va_up S 0 c) G := fun c => ⟨rfl, fun j h0 _ => up0 S c h0, fun _ _ => rfl⟩
  refine bz_le (-1) kk.toInt (fun h1 => ?_) (fun h1 => ?_)
  rotate_left
  · rw [q_place, if_pos h1] at hK
    exact hK _ _ (s0 0)
  rw [q_place, if_neg (by omega)] at hK
  have bad : (hsR (va_up S 0 0) G sh ln i n true).1 ≠ 0 → ∀ x f g, K (some (.int (hsR (va_up S 0 0) G sh ln i n true).1)) (hpC tc (va_up (va_up (va_up S 0 0) 0 (hsR (va_up S 0 0) G sh ln i n true).2) 5 x) (va_up (va_up G 7 f) 8 g)) := fun h x f g => by
    rw [hsR_0] at h ⊢
    rw [if_pos h] at hK
    rw [show va_up (va_up S 0 0) 0 (hsR S G sh ln i n true).2 = va_up S 0 (hsR S G sh ln i n true).2 from bx_uu S 0 0 _]
    exact hK _ _ (same_05 S G _ x f g)
  have good : hsR (va_up S 0 0) G sh ln i n true = (0, 0) → ∀ r S' G', (if kk.toInt = -1 then ((nI (cP S G (nt sh) (nt i) (nt n) (amn (cP S G (nt sh) (nt i) (nt n)) (S 2 ^ S 3))), 0) : Int32 × Nat) else if inI kk (S 3) then (nI (dg (S 2) (S 3) (amn (cP S G (nt sh) (nt i) (nt n)) (S 2 ^ S 3)) (nt kk)), 0) else (-9, 0)) = (r, 0) → sameC S G 0 S' G' → K (some (.int r)) (hpC tc S' G') := fun h r S' G' er hs => by
    rw [hsR_0] at h
    rw [h, if_neg (by decide), er] at hK
    exact hK S' G' hs
  clear hK
  refine Exists.intro tc ⟨va_up S 0 0, G, sh, ln, i, n, true, rfl, rfl, wfH_0 hwf.2.1 0, hwf.1.2.1, fun hb x f g => ?_, fun h0 hok _ f g hfg => ?_⟩
  · exact And.intro (fun h3 => absurd h3 hb) (fun _ => bad hb x f g)
  refine And.intro (fun _ => ?_) (fun h3 => absurd rfl h3)
  have hok' : stormOk S G (nt sh) (nt i) (nt n) := by
    obtain ⟨a1, a2, a3, a4, a5⟩ := hok
    exact ⟨a1, a2, by rw [up0 S 0 (by omega)] at a3; exact a3, a4, a5⟩
  obtain ⟨v1, v2, v3⟩ := heard (x := 0) hwf.1 hok' hfg
  have hP : 0 < S 2 := Nat.pos_of_ne_zero hok'.2.2.2.1
  have good := good h0
  generalize nt n = n' at *
  generalize nt sh = k at *
  generalize nt i = a at *
  have eC : cF (va_up (va_up S 0 0) 5 n') (va_up (va_up G 7 f) 8 g) = cP S G k a n' := by
    funext x
    show Tm (va_up (va_up S 0 0) 5 n') (pN f) (pN g) n' (S 3) (dg (S 2) (S 3) x) = Tm S (spP G k a) (sqP G k a) n' (S 3) (dg (S 2) (S 3) x)
    rw [Tm_S (S := S) (S' := va_up (va_up S 0 0) 5 n') rfl rfl (fun m _ => ⟨up05 (by omega) (by omega), up05 (by omega) (by omega)⟩)]
    refine fb_ct_cong (fun t ht => ?_)
    have e1 : pN f t = spP G k a t := by unfold pN spP; rw [(hfg t ht).1]; rfl
    have e2 : pN g t = sqP G k a t := by unfold pN sqP; rw [(hfg t ht).2]; rfl
    rw [e1, e2]
  have b1 : ∀ {X Y : Prop}, (kk.toInt < S 3 → X) → ((S 3 : Int) ≤ kk.toInt → Y) → (kk < nI (S 3) → X) ∧ (¬ kk < nI (S 3) → Y) := fun f g => bz_lt kk.toInt (S 3) f g rfl (ti_n (by omega))
  refine b1 (fun h2 => ?_) (fun h2 => ?_)
  rotate_left
  · have hk2 := good (-9) _ _ (by rw [if_neg (by omega), if_neg (by unfold inI; omega)]) (same_05 S G 0 n' f g)
    exact hk2
  refine Exists.intro tc ⟨va_up (va_up S 0 0) 5 n', va_up (va_up G 7 f) 8 g, rfl, rfl, v1, v2, hP, fun F9 F10 F11 F12 few hfew hF12 => ?_⟩
  have hF12 : ∀ i, i < S 3 → F12 i = nI (dg (S 2) (S 3) (amn (cP S G k a n') (S 2 ^ S 3)) i) := by rw [← eC]; exact hF12
  have hfew : few = cP S G k a n' (amn (cP S G k a n') (S 2 ^ S 3)) := by rw [← eC]; exact hfew
  have hs : sameC S G 0 (va_up (va_up (va_up (va_up (va_up S 0 0) 5 n') 6 (S 2)) 7 (S 3)) 8 few) (va_up (va_up (va_up (va_up (va_up (va_up G 7 f) 8 g) 9 F9) 10 F10) 11 F11) 12 F12) := by
    refine ⟨rfl, fun j h0 hj => ?_, fun j hj => ?_⟩
    · rw [up_n j (by omega), up67 (by omega) (by omega), up05 h0 (by omega)]
    · rw [up_n j (by omega), up_n j (by omega), up_n j (by omega), up_n j (by omega), up_n j (by omega), up_n j (by omega)]
  refine bz_le 0 kk.toInt (fun h3 => ?_) (fun h3 => ?_)
  · obtain ⟨j, hj, rfl, ej⟩ := ti_of h3
    have hj3 : j < S 3 := by omega
    refine Exists.intro tc ⟨_, _, j, by omega, rfl, rfl, ?_⟩
    show K (some (.int (F12 j))) _
    rw [hF12 j hj3]
    exact good _ _ _ (by rw [if_neg (by omega), if_pos (inI_n hj3 (by omega)), nt_n hj]) hs
  · exact good _ _ _ (by rw [if_pos (by omega), hfew]; rfl) hs)
set_option maxRecDepth 100000 in
set_option maxHeartbeats 4000000 in
theorem m_X7_place (l : Launch) : ip_Met l yX7_place cX7_place 7 (some .int) (ip_rm 9) C_X7_place := ip_met tb_X7_place 400 (by decide +kernel) fl_X7_ok cn_X7_ok (ip_cs1 (ip_gsV (m_X7_hearStorm l) (ip_in [361, 363, 2, 32, 364] (by decide +kernel) (by decide +kernel)) rfl ⟨by decide +kernel, by decide +kernel, by decide +kernel⟩ ⟨rfl, rfl, Nat.le_of_ble_eq_true rfl, Nat.le_of_ble_eq_true rfl⟩) (ip_cs1 (ip_gsV (m_X3_find l) (ip_in [391, 392, 393, 37, 394] (by decide +kernel) (by decide +kernel)) rfl ⟨by decide +kernel, by decide +kernel, by decide +kernel⟩ ⟨rfl, rfl, Nat.le_of_ble_eq_true rfl, Nat.le_of_ble_eq_true rfl⟩) (ip_cs1 (ip_gsV (m_X3_parishOf l) (ip_in [415, 416, 417, 37, 418] (by decide +kernel) (by decide +kernel)) rfl ⟨by decide +kernel, by decide +kernel, by decide +kernel⟩ ⟨rfl, rfl, Nat.le_of_ble_eq_true rfl, Nat.le_of_ble_eq_true rfl⟩) (ip_cs0)))) ck_X7_place rfl p_X7_place
