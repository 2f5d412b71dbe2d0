/-! ===== Placing ===== -/
def C_X3_parishOf : ip_C := fun vs hp K => ∃ tc S G, ∃ m : Nat, m < 4 ∧ vs = [.ref 23, .int (nI m)] ∧ hp = hpC tc S G ∧ K (some (.int (G 12 m))) hp
def cs_X3_parishOf : List ip_G := []
theorem p_X3_parishOf : ip_Pf fl_X3 [] cs_X3_parishOf (some .int) tb_X3_parishOf 2 C_X3_parishOf := ip_pf0 (by
  rintro _ _ K ⟨tc, S, G, m, hm, rfl, rfl, hK⟩
  refine ⟨Nat.le_of_ble_eq_true rfl, ?_⟩
  have hc := nI_clamp (n := m) (by omega)
  refine bz_lt (m : Int) 0 (fun h => absurd h (by omega)) (fun h => ?_)
  refine pk_le 4 m (fun h => absurd h (by omega)) (fun h => ?_)
  refine And.intro (pk_in m 4 hm) ?_
  rw [← hc] at hK
  exact hK)
set_option maxRecDepth 100000 in
set_option maxHeartbeats 4000000 in
theorem m_X3_parishOf (l : Launch) : ip_Met l yX3_parishOf cX3_parishOf 2 (some .int) (ip_rm 0) C_X3_parishOf := ip_met tb_X3_parishOf 400 (by decide +kernel) fl_X3_ok ip_cn0 (ip_cs0) ck_X3_parishOf rfl p_X3_parishOf
def C_X3_keepIfFewer : ip_C := fun vs hp K => ∃ tc S G, ∃ c : Nat, c ≤ 1000 ∧ S 8 ≤ 1000 ∧ vs = [.ref 23, .int (nI c)] ∧ hp = hpC tc S G ∧ (S 8 ≤ c → K none hp) ∧ (c < S 8 → ∀ Z, (∀ i, i < 4 → Z i = G 11 i) → K none (hpC tc (va_up S 8 c) (va_up G 12 Z)))
def cs_X3_keepIfFewer : List ip_G := [(82, 5, 0, C_arraycopy)]
theorem p_X3_keepIfFewer : ip_Pf fl_X3 [] cs_X3_keepIfFewer none tb_X3_keepIfFewer 2 C_X3_keepIfFewer := ip_pf0 (by
  rintro _ _ K ⟨tc, S, G, c, hc, h8, rfl, rfl, hK, hK2⟩
  refine ⟨Nat.le_of_ble_eq_true rfl, ?_⟩
  refine pk_le (S 8) c (fun h => ?_) (fun h => ?_)
  · exact hK h
  · refine Exists.intro 26 ⟨27, 4, 4, 0, 0, 4, G 11, G 12, rfl, rfl, rfl, by decide, by decide, by decide, by decide, by decide, ?_⟩
    refine hK2 h _ (fun i hi => ?_)
    show va_cpy (G 11) (G 12) 0 0 4 i = _
    unfold va_cpy
    rw [if_pos (by omega), show 0 + (i - 0) = i by omega])
set_option maxRecDepth 100000 in
set_option maxHeartbeats 4000000 in
theorem m_X3_keepIfFewer (l : Launch) : ip_Met l yX3_keepIfFewer cX3_keepIfFewer 2 none (ip_rm 1) C_X3_keepIfFewer := ip_met tb_X3_keepIfFewer 400 (by decide +kernel) fl_X3_ok ip_cn0 (ip_cs1 (ip_gsCopy (ip_in [412, 414, 413, 43] (by decide +kernel) (by decide +kernel)) ⟨Nat.le_of_ble_eq_true rfl, Nat.le_of_ble_eq_true rfl⟩) (ip_cs0)) ck_X3_keepIfFewer rfl p_X3_keepIfFewer
def wgR (F : Nat → Int32) (v : Nat → Nat → Nat) : Prop := ∀ p, p < 6 → ∀ c, c < 16 → F (p * 16 + c) = nI (v p c)
def C_X3_weigh : ip_C := fun vs hp K => ∃ tc S G, vs = [.ref 23, .ref 10, .ref 20] ∧ hp = hpC tc S G ∧ wfM S ∧ wfT S G ∧ ∀ F, wgR F (ctm S (pN (G 7)) (pN (G 8)) (S 5)) → K none (hpC tc S (va_up G 9 F))
def cs_X3_weigh : List ip_G := [(47, 2, 0, C_J7_fill), (65, 2, 1, C_X0_dangersBy), (74, 2, 0, C_X7_holds)]
def I_X3_weigh (tc : Int32) (S : Nat → Nat) (G : Nat → Nat → Int32) : Nat → Nat → ip_P := fun pc kk L st hp => ∃ (cr : Nat) (F : Nat → Int32) (x : Int32), x = nI cr ∧ hp = hpC tc S (va_up G 9 F) ∧ st = [] ∧
  ((pc = 10 ∧ cr ≤ 16 ∧ kk = 100 * (16 - cr) + 50 ∧ (∃ l4 l5 l6, L = [some (.ref 23), some (.ref 10), some (.ref 20), some (.int x), l4, l5, l6]) ∧ wgR F (fun p c => if c < cr then ctm S (pN (G 7)) (pN (G 8)) (S 5) p c else 0)) ∨
  (pc = 26 ∧ cr < 16 ∧ ∃ (t : Nat) (u y : Int32) (l6 : Option Value), t ≤ S 5 ∧ kk = 100 * (16 - cr) + (20 - t) ∧ L = [some (.ref 23), some (.ref 10), some (.ref 20), some (.int x), some (.int u), some (.int y), l6] ∧ u = nI (dgs S (fun m => cr.testBit m)) ∧ y = nI t ∧ wgR F (fun p c => if c < cr then ctm S (pN (G 7)) (pN (G 8)) (S 5) p c else if c = cr then ctm S (pN (G 7)) (pN (G 8)) t p c else 0)))
theorem dgs_bit {S : Nat → Nat} {pr : Nat → Bool} {q : Nat} (hq : q < 6) : (dgs S pr).testBit q = !heldS S pr q := by
  unfold dgs
  rw [bs_bit, decide_eq_true hq]
  rfl
theorem p_X3_weigh : ip_Pf fl_X3 [] cs_X3_weigh none tb_X3_weigh 7 C_X3_weigh := by
  rintro _ _ K ⟨tc, S, G, rfl, rfl, hw, hwt, hK⟩
  have h20 := hwt.1
  refine ⟨Nat.le_of_ble_eq_true rfl, I_X3_weigh tc S G, ?_, ?_⟩
  · refine Exists.intro tc ⟨S, G, 9, 24, 96, 0, Or.inr (Or.inr (Or.inr (Or.inr (Or.inl ⟨rfl, rfl, rfl⟩)))), rfl, rfl, ?_⟩
    refine Exists.intro (100 * (16 - 0) + 50) ⟨trivial, 0, _, _, rfl, rfl, rfl, Or.inl ⟨rfl, by omega, rfl, ⟨_, _, _, rfl⟩, fun p hp c hc => ?_⟩⟩
    rw [fa_fill_in (by omega)]
    rfl
  · rintro pc kk L st hp ⟨cr, F, x, hx, rfl, rfl, ⟨rfl, hcr, rfl, ⟨l4, l5, l6, rfl⟩, hF⟩ | ⟨rfl, hcr, t, u, y, l6, ht, rfl, rfl, hu, hy, hF⟩⟩
    · have b1 : ∀ {X Y : Prop}, (16 ≤ cr → X) → (cr < 16 → Y) → ((16 : Int32) ≤ x → X) ∧ (¬ (16 : Int32) ≤ x → Y) := fun f g => by rw [hx]; exact pk_le 16 cr f g
      refine b1 (fun h => ?_) (fun h => ?_)
      · refine hK F (fun p hp c hc => ?_)
        rw [hF p hp c hc]
        try dsimp only
        rw [if_pos (by omega)]
      · refine Exists.intro tc ⟨S, _, cr, h, (by show [Value.ref 10, Value.int x] = _; rw [hx]), rfl, hw, ?_⟩
        refine Exists.intro (100 * (16 - cr) + (20 - 0)) ⟨by show _ < _; omega, cr, F, _, hx, rfl, rfl, Or.inr ⟨rfl, h, 0, _, _, _, by omega, rfl, rfl, rfl, rfl, fun p hp c hc => ?_⟩⟩
        rw [hF p hp c hc]
        try dsimp only
        congr 1
        split
        · rfl
        · split
          · rfl
          · rfl
    · have b1 : ∀ {X Y : Prop}, (S 5 ≤ t → X) → (t < S 5 → Y) → (nI (S 5) ≤ y → X) ∧ (¬ nI (S 5) ≤ y → Y) := fun f g => by rw [hy]; exact pk_le (S 5) t f g
      refine b1 (fun h => ?_) (fun h => ?_)
      · obtain rfl : t = S 5 := by omega
        refine Exists.intro (100 * (16 - (cr + 1)) + 50) ⟨by show _ < _; omega, cr + 1, F, _, (by rw [hx]; exact nI_1 cr), rfl, rfl, Or.inl ⟨rfl, by omega, rfl, ⟨_, _, _, rfl⟩, fun p hp c hc => ?_⟩⟩
        rw [hF p hp c hc]
        try dsimp only
        congr 1
        by_cases e : c < cr
        · rw [if_pos e, if_pos (by omega)]
        · rw [if_neg e]
          by_cases e2 : c = cr
          · rw [if_pos e2, if_pos (by omega)]
          · rw [if_neg e2, if_neg (by omega)]
      · obtain ⟨s1, s2, s3, s4⟩ := hwt.2 t h
        have hc := nI_clamp (n := t) (by omega)
        have hv : vp_in y 20 := by rw [hy]; exact pk_in t 20 (by omega)
        have g7 : G 7 y.toNatClampNeg = nI (pN (G 7) t) := by rw [hy, hc]; exact s1
        have g8 : G 8 y.toNatClampNeg = nI (pN (G 8) t) := by rw [hy, hc]; exact s3
        have hn : ∀ (F' : Nat → Int32) (l6 : Option Value), wgR F' (fun p c => if c < cr then ctm S (pN (G 7)) (pN (G 8)) (S 5) p c else if c = cr then ctm S (pN (G 7)) (pN (G 8)) (t + 1) p c else 0) → ∃ kk, ip_lt kk (some (100 * (16 - cr) + (20 - t))) ∧ I_X3_weigh tc S G 26 kk [some (.ref 23), some (.ref 10), some (.ref 20), some (.int x), some (.int u), some (.int (y + 1)), l6] [] (hpC tc S (va_up G 9 F')) := fun F' l6 hF' => ⟨100 * (16 - cr) + (20 - (t + 1)), by show _ < _; omega, cr, F', x, hx, rfl, rfl, Or.inr ⟨rfl, hcr, t + 1, u, _, l6, by omega, rfl, rfl, hu, (by rw [hy]; exact nI_1 t), hF'⟩⟩
        have cts : ∀ p c, ctm S (pN (G 7)) (pN (G 8)) (t + 1) p c = ctm S (pN (G 7)) (pN (G 8)) t p c + (if (pN (G 7) t == p && !heldS S (fun i => c.testBit i) (pN (G 8) t)) = true then 1 else 0) := fun p c => rfl
        refine And.intro hv ?_
        change ip_wp _ _ _ _ _ _ _ _ _ _ _ _ [Value.int (G 7 y.toNatClampNeg)] _
        rw [g7]
        refine bz_lt (pN (G 7) t : Int) 0 (fun h1 => absurd h1 (by omega)) (fun h1 => ?_)
        refine pk_le 6 (pN (G 7) t) (fun h1 => absurd h1 (by omega)) (fun h2 => ?_)
        refine And.intro hv ?_
        refine Exists.intro (dgs S (fun m => cr.testBit m)) ⟨pN (G 8) t, dgs_lt S _, s4, (by show [Value.int u, Value.int (G 8 y.toNatClampNeg)] = _; rw [hu, g8]), ?_⟩
        rw [dgs_bit s4]
        refine ip_bt (fun h3 => ?_) (fun h3 => ?_)
        · refine hn F _ (fun p hp c hc => ?_)
          rw [hF p hp c hc]
          try dsimp only
          congr 1
          by_cases e : c < cr
          · rw [if_pos e, if_pos e]
          · rw [if_neg e, if_neg e]
            by_cases e2 : c = cr
            · rw [if_pos e2, if_pos e2, cts, e2, h3]; simp
            · rw [if_neg e2, if_neg e2]
        · have e16 : nI (pN (G 7) t) * 16 + x = nI (pN (G 7) t * 16 + cr) := by rw [hx, show (16 : Int32) = nI 16 from rfl, pk_mul, nI_add]
          have hv2 : vp_in (nI (pN (G 7) t) * 16 + x) 96 := by rw [e16]; exact pk_in (pN (G 7) t * 16 + cr) 96 (by omega)
          have hc2 : (nI (pN (G 7) t) * 16 + x).toNatClampNeg = pN (G 7) t * 16 + cr := by rw [e16]; exact nI_clamp (by omega)
          refine And.intro hv2 ?_
          refine And.intro hv2 ?_
          refine hn (upd F (nI (pN (G 7) t) * 16 + x).toNatClampNeg (F (nI (pN (G 7) t) * 16 + x).toNatClampNeg + 1)) _ (fun p hp c hc => ?_)
          rw [hc2]
          have hold := hF (pN (G 7) t) s2 cr hcr
          dsimp only at hold
          rw [if_neg (Nat.lt_irrefl _), if_pos rfl] at hold
          by_cases e0 : p * 16 + c = pN (G 7) t * 16 + cr
          · have ep : p = pN (G 7) t := by omega
            have ec : c = cr := by omega
            subst ec
            rw [e0, pk_us]
            try dsimp only
            rw [if_neg (Nat.lt_irrefl _), if_pos rfl, cts, ep, h3, hold, nI_1]
            simp
          · rw [pk_un e0, hF p hp c hc]
            try dsimp only
            congr 1
            by_cases e : c < cr
            · rw [if_pos e, if_pos e]
            · rw [if_neg e, if_neg e]
              by_cases e2 : c = cr
              · have : (pN (G 7) t == p) = false := by
                  have : pN (G 7) t ≠ p := fun z => e0 (by rw [z, e2])
                  simpa using this
                rw [if_pos e2, if_pos e2, cts, this]; simp
              · rw [if_neg e2, if_neg e2]
set_option maxRecDepth 100000 in
set_option maxHeartbeats 4000000 in
theorem m_X3_weigh (l : Launch) : ip_Met l yX3_weigh cX3_weigh 7 none (ip_rm 2) C_X3_weigh := ip_met tb_X3_weigh 400 (by decide +kernel) fl_X3_ok ip_cn0 (ip_cs1 (ip_gsS (m_J7_fill l) (ip_in [400, 401, 42, 402] (by decide +kernel) (by decide +kernel)) ⟨by decide +kernel, by decide +kernel, by decide +kernel⟩ ⟨rfl, rfl, Nat.le_of_ble_eq_true rfl, Nat.le_of_ble_eq_true rfl⟩) (ip_cs1 (ip_gsV (m_X0_dangersBy l) (ip_in [403, 346, 347, 33, 348] (by decide +kernel) (by decide +kernel)) rfl ⟨by decide +kernel, by decide +kernel, by decide +kernel⟩ ⟨rfl, rfl, Nat.le_of_ble_eq_true rfl, Nat.le_of_ble_eq_true rfl⟩) (ip_cs1 (ip_gsN "ThunderAsks" (m_X7_holds l) (fun U h => h.2) (ip_in [319, 32, 320] (by decide +kernel) (by decide +kernel)) ⟨by decide +kernel, by decide +kernel, by decide +kernel⟩ ⟨rfl, rfl, Nat.le_of_ble_eq_true rfl, Nat.le_of_ble_eq_true rfl⟩) (ip_cs0)))) ck_X3_weigh rfl p_X3_weigh
