/-! ===== goesOn, firstFault, settle, county ===== -/
noncomputable def dcd (P : Prop) : Bool := @decide P (Classical.propDecidable P)
theorem dcd_iff {P : Prop} : dcd P = true ↔ P := by unfold dcd; exact @decide_eq_true_iff P (Classical.propDecidable P)
theorem dcd_t {P : Prop} (h : P) : dcd P = true := dcd_iff.mpr h
theorem dcd_f {P : Prop} (h : ¬ P) : dcd P = false := by
  cases e : dcd P
  · rfl
  · exact absurd (dcd_iff.mp e) h
def goP (g : Nat → Int32) (a t : Nat) : Prop := (t = 0 ∧ (g a).toInt = 100) ∨ (t = 1 ∧ isD1 (g (a + 1))) ∨ (t = 2 ∧ isD2 (g (a + 1)) (g (a + 2))) ∨ (t = 3 ∧ 50 ≤ (g (a + 3)).toInt ∧ (g (a + 3)).toInt ≤ 54) ∨ (4 ≤ t ∧ t < 24 ∧ mgo (g (a + t)) (g (a + 3)) (g (a + t - 1)) ((t - 4) % 5))
def C_X1_goesOn : ip_C := fun vs hp K => ∃ tc S G, ∃ (k a t : Nat), k < 4 ∧ a + t < S (30 + k) ∧ vs = [.ref (2 + 2 * k), .int (nI a), .int (nI t)] ∧ hp = hpC tc S G ∧ wfH S ∧ ∀ b : Bool, (b = true ↔ goP (G k) a t) → K (some (.int (ip_bi b))) hp
def cs_X1_goesOn : List ip_G := [(15, 2, 5, C_X5_valueAt), (21, 4, 0, C_X1_manGoesOn), (25, 1, 0, C_X1_isFirstDigit), (29, 2, 0, C_X1_isSecondDigit)]
set_option maxHeartbeats 4000000 in
theorem p_X1_goesOn : ip_Pf fl_X1 [] cs_X1_goesOn (some .boolean) tb_X1_goesOn 4 C_X1_goesOn := ip_pf0 (by
  rintro _ _ K ⟨tc, S, G, k, a, t, hk, hat, rfl, rfl, hwh, hK⟩
  refine ⟨Nat.le_of_ble_eq_true rfl, ?_⟩
  have hz := (hwh k hk).2.2
  have p0 : vat S G k (nI a + nI t).toInt = G k (a + t) := by rw [nI_add, ti_n (by omega), vat_in (by omega)]
  have kT : goP (G k) a t → K (some (.int 1)) (hpC tc S G) := fun h => hK true (by simp [h])
  have kF : ¬ goP (G k) a t → K (some (.int 0)) (hpC tc S G) := fun h => hK false (by simp [h])
  have et := ti_n (n := t) (by omega)
  have hsw : t < 4 → ∀ {X0 X1 X2 X3 : Prop}, (t = 0 → X0) → (t = 1 → X1) → (t = 2 → X2) → (t = 3 → X3) →
      ((nI t).toInt = 0 → X0) ∧ ((nI t).toInt ≠ 0 → ((nI t).toInt = 0 + 1 → X1) ∧ ((nI t).toInt ≠ 0 + 1 → ((nI t).toInt = 0 + 1 + 1 → X2) ∧ ((nI t).toInt ≠ 0 + 1 + 1 → (((nI t).toInt < 0 + 1 + 1 + 1 ∨ 0 + 1 + 1 + 1 ≤ (nI t).toInt) → X3)))) := fun ht X0 X1 X2 X3 f0 f1 f2 f3 => by
    rw [et]
    exact ⟨fun q => f0 (by omega), fun q0 => ⟨fun q => f1 (by omega), fun q1 => ⟨fun q => f2 (by omega), fun q2 _ => f3 (by omega)⟩⟩⟩
  have p1 : t = 2 → vat S G k (nI a + 1).toInt = G k (a + 1) := fun h => by rw [nI_1, ti_n (by omega), vat_in (by omega)]
  rcases four hk with rfl | rfl | rfl | rfl
  all_goals
    refine Exists.intro tc ⟨S, G, _, _, hk, rfl, rfl, hwh, ?_⟩
    rw [p0]
    refine pk_lt t 4 (fun h => ?_) (fun h => ?_)
    · refine hsw h (fun h1 => ?_) (fun h1 => ?_) (fun h1 => ?_) (fun h1 => ?_)
      · subst h1
        refine bz_ne _ 100 (fun h2 => ?_) (fun h2 => ?_)
        · exact And.intro rfl (kF (by simp [goP]; exact h2))
        · exact And.intro rfl (kT (by simp [goP]; exact h2))
      · subst h1
        refine Exists.intro _ ⟨rfl, fun b hb => ?_⟩
        refine And.intro (ip_bnar b) ?_
        cases b with
        | false => exact kF (by simp [goP]; intro q; have := hb.mpr q; cases this)
        | true => exact kT (by simp [goP]; exact hb.mp rfl)
      · refine Exists.intro tc ⟨S, G, _, _, hk, rfl, rfl, hwh, ?_⟩
        rw [p1 h1]
        subst h1
        refine Exists.intro _ ⟨_, rfl, fun b hb => ?_⟩
        refine And.intro (ip_bnar b) ?_
        cases b with
        | false => exact kF (by simp [goP]; intro q; have := hb.mpr q; cases this)
        | true => exact kT (by simp [goP]; exact hb.mp rfl)
      · subst h1
        refine bz_lt _ 50 (fun h2 => ?_) (fun h2 => ?_)
        · exact And.intro rfl (kF (by simp [goP]; omega))
        refine bz_lt 54 _ (fun h3 => ?_) (fun h3 => ?_)
        · exact And.intro rfl (kF (by simp [goP]; omega))
        · exact And.intro rfl (kT (by simp [goP]; omega))
    · refine pk_le 24 t (fun h1 => ?_) (fun h1 => ?_)
      · exact And.intro rfl (kF (by unfold goP; omega))
      refine Exists.intro tc ⟨S, G, _, a, t, _, hk, h, h1, hat, rfl, rfl, hwh, fun b hb => ?_⟩
      refine ip_bt (fun h2 => ?_) (fun h2 => ?_)
      · refine And.intro rfl (kF (fun q => ?_))
        have hbt : b = true := hb.mpr (by
          rcases q with q | q | q | q | q
          · exact absurd q.1 (by omega)
          · exact absurd q.1 (by omega)
          · exact absurd q.1 (by omega)
          · exact absurd q.1 (by omega)
          · exact q.2.2)
        rw [hbt] at h2
        cases h2
      · exact And.intro rfl (kT (Or.inr (Or.inr (Or.inr (Or.inr ⟨h, h1, hb.mp h2⟩))))))
set_option maxRecDepth 100000 in
set_option maxHeartbeats 4000000 in
theorem m_X1_goesOn (l : Launch) : ip_Met l yX1_goesOn cX1_goesOn 4 (some .boolean) (ip_rm 3) C_X1_goesOn := ip_met tb_X1_goesOn 400 (by decide +kernel) fl_X1_ok ip_cn0 (ip_cs1 (ip_gsV (m_X5_valueAt l) (ip_in [255, 256, 257, 38, 258] (by decide +kernel) (by decide +kernel)) rfl ⟨by decide +kernel, by decide +kernel, by decide +kernel⟩ ⟨rfl, rfl, Nat.le_of_ble_eq_true rfl, Nat.le_of_ble_eq_true rfl⟩) (ip_cs1 (ip_gsS (m_X1_manGoesOn l) (ip_in [259, 260, 40, 261] (by decide +kernel) (by decide +kernel)) ⟨by decide +kernel, by decide +kernel, by decide +kernel⟩ ⟨rfl, rfl, Nat.le_of_ble_eq_true rfl, Nat.le_of_ble_eq_true rfl⟩) (ip_cs1 (ip_gsS (m_X1_isFirstDigit l) (ip_in [262, 263, 40, 264] (by decide +kernel) (by decide +kernel)) ⟨by decide +kernel, by decide +kernel, by decide +kernel⟩ ⟨rfl, rfl, Nat.le_of_ble_eq_true rfl, Nat.le_of_ble_eq_true rfl⟩) (ip_cs1 (ip_gsS (m_X1_isSecondDigit l) (ip_in [265, 266, 40, 267] (by decide +kernel) (by decide +kernel)) ⟨by decide +kernel, by decide +kernel, by decide +kernel⟩ ⟨rfl, rfl, Nat.le_of_ble_eq_true rfl, Nat.le_of_ble_eq_true rfl⟩) (ip_cs0))))) ck_X1_goesOn rfl p_X1_goesOn
noncomputable def ffR (g : Nat → Int32) (a n : Nat) : Int32 := match lst (fun t => !dcd (goP g a t)) n with
  | some t => nI t
  | none => if 9 ≤ n ∧ (n - 4) % 5 = 0 then -1 else nI n
def C_X1_firstFault : ip_C := fun vs hp K => ∃ tc S G, ∃ (k a n : Nat), k < 4 ∧ a + n ≤ S (30 + k) ∧ vs = [.ref (2 + 2 * k), .int (nI a), .int (nI n)] ∧ hp = hpC tc S G ∧ wfH S ∧ ((lst (fun t => !dcd (goP (G k) a t)) n = none → ∀ t, t < n → goP (G k) a t) → K (some (.int (ffR (G k) a n))) hp)
def cs_X1_firstFault : List ip_G := [(9, 3, 0, C_X1_goesOn)]
def I_X1_firstFault (tc : Int32) (S : Nat → Nat) (G : Nat → Nat → Int32) (k a n : Nat) : Nat → Nat → ip_P := fun pc kk L st hp => pc = 2 ∧ ∃ (t : Nat) (y : Int32), t ≤ n ∧ kk = n - t ∧ L = [some (.ref (2 + 2 * k)), some (.int (nI a)), some (.int (nI n)), some (.int y)] ∧ st = [] ∧ hp = hpC tc S G ∧ y = nI t ∧ ∀ i, i < t → goP (G k) a i
set_option maxHeartbeats 4000000 in
theorem p_X1_firstFault : ip_Pf fl_X1 [] cs_X1_firstFault (some .int) tb_X1_firstFault 4 C_X1_firstFault := by
  rintro _ _ K ⟨tc, S, G, k, a, n, hk, han, rfl, rfl, hwh, hK⟩
  have hz := (hwh k hk).2.2
  refine ⟨Nat.le_of_ble_eq_true rfl, I_X1_firstFault tc S G k a n, ?_, ?_⟩
  · exact Exists.intro n ⟨trivial, rfl, 0, _, by omega, rfl, rfl, rfl, rfl, rfl, fun i hi => absurd hi (by omega)⟩
  · rintro pc kk L st hp ⟨rfl, t, y, ht, rfl, rfl, rfl, rfl, rfl, hgo⟩
    refine pk_le n t (fun h => ?_) (fun h => ?_)
    · obtain rfl : t = n := by omega
      have e : lst (fun t => !dcd (goP (G k) a t)) t = none := lst_none (fun i hi => by rw [dcd_t (hgo i hi)]; rfl)
      have hK := hK (fun _ => hgo)
      rw [ffR, e] at hK
      refine pk_lt t 9 (fun h1 => ?_) (fun h1 => ?_)
      · refine And.intro (fun _ => ?_) (fun h2 => absurd rfl h2)
        have hK : K (some (.int (if 9 ≤ t ∧ (t - 4) % 5 = 0 then (-1 : Int32) else nI t))) (hpC tc S G) := hK
        rw [if_neg (by omega)] at hK
        exact hK
      · have er : nI t - 4 - (nI t - 4) / 5 * 5 = nI ((t - 4) % 5) := by
          rw [show nI t - 4 = nI (t - 4) from pk_sub (a := t) (b := 4) (by omega)]
          exact pk_rem (by omega) (by decide) (by decide)
        refine And.intro (by decide) ?_
        rw [er]
        have hr : (t - 4) % 5 < 5 := Nat.mod_lt _ (by decide)
        have hK : K (some (.int (if 9 ≤ t ∧ (t - 4) % 5 = 0 then (-1 : Int32) else nI t))) (hpC tc S G) := hK
        refine pk_ne ((t - 4) % 5) 0 (fun h2 => ?_) (fun h2 => ?_)
        · refine And.intro (fun _ => ?_) (fun h3 => absurd rfl h3)
          rw [if_neg (by omega)] at hK
          exact hK
        · refine And.intro (fun h3 => absurd h3 (by decide)) (fun _ => ?_)
          rw [if_pos ⟨h1, h2⟩] at hK
          exact hK
    · refine Exists.intro tc ⟨S, G, k, a, t, hk, by omega, rfl, rfl, hwh, fun b hb => ?_⟩
      refine ip_bn (fun h2 => ?_) (fun h2 => ?_)
      · exact Exists.intro (n - (t + 1)) ⟨by show _ < _; omega, rfl, t + 1, _, by omega, rfl, rfl, rfl, rfl, nI_1 t, fun i hi => by
          rcases Nat.lt_or_ge i t with q | q
          · exact hgo i q
          · obtain rfl : i = t := by omega
            exact hb.mp h2⟩
      · have hno : ¬ goP (G k) a t := fun z => by rw [hb.mpr z] at h2; cases h2
        have e : lst (fun t => !dcd (goP (G k) a t)) n = some t := lst_some (f := fun t => !dcd (goP (G k) a t)) (by simp only [dcd_f hno]; rfl) (fun i hi => by simp only [dcd_t (hgo i hi)]; rfl) h
        have hK := hK (fun z => by rw [e] at z; cases z)
        rw [ffR, e] at hK
        exact hK
set_option maxRecDepth 100000 in
set_option maxHeartbeats 4000000 in
theorem m_X1_firstFault (l : Launch) : ip_Met l yX1_firstFault cX1_firstFault 4 (some .int) (ip_rm 4) C_X1_firstFault := ip_met tb_X1_firstFault 400 (by decide +kernel) fl_X1_ok ip_cn0 (ip_cs1 (ip_gsS (m_X1_goesOn l) (ip_in [252, 253, 40, 254] (by decide +kernel) (by decide +kernel)) ⟨by decide +kernel, by decide +kernel, by decide +kernel⟩ ⟨rfl, rfl, Nat.le_of_ble_eq_true rfl, Nat.le_of_ble_eq_true rfl⟩) (ip_cs0)) ck_X1_firstFault rfl p_X1_firstFault
