/-! ===== Storm, Readings ===== -/
def pN (f : Nat → Int32) (t : Nat) : Nat := (f t).toNatClampNeg
def wfT (S : Nat → Nat) (G : Nat → Nat → Int32) : Prop := S 5 ≤ 20 ∧ ∀ t, t < S 5 → G 7 t = nI (pN (G 7) t) ∧ pN (G 7) t < 6 ∧ G 8 t = nI (pN (G 8) t) ∧ pN (G 8) t < 6
def stT (S : Nat → Nat) (G : Nat → Nat → Int32) (t : Nat) : Bool := stk S (pN (G 7) t) (pN (G 8) t)
def C_X6_add : ip_C := fun vs hp K => ∃ tc S G, ∃ (p q : Int32), vs = [.ref 20, .int p, .int q] ∧ hp = hpC tc S G ∧ S 5 < 20 ∧ ∀ hp', hp' = hpC tc (va_up S 5 (S 5 + 1)) (va_up (va_up G 7 (upd (G 7) (S 5) p)) 8 (upd (G 8) (S 5) q)) → K none hp'
def cs_X6_add : List ip_G := []
theorem p_X6_add : ip_Pf fl_X6 [] cs_X6_add none tb_X6_add 3 C_X6_add := ip_pf0 (by
  rintro _ _ K ⟨tc, S, G, p, q, rfl, rfl, h5, hK⟩
  refine ⟨Nat.le_of_ble_eq_true rfl, ?_⟩
  refine pk_lt (S 5) 0 (fun h => ?_) (fun h => ?_)
  · omega
  refine pk_le 20 (S 5) (fun h2 => ?_) (fun h2 => ?_)
  · omega
  refine And.intro (pk_in (S 5) 20 h5) ?_
  refine And.intro (pk_in (S 5) 20 h5) ?_
  refine hK _ ?_
  rw [nI_1, nI_clamp (by omega)]
  rfl)
set_option maxRecDepth 100000 in
set_option maxHeartbeats 4000000 in
theorem m_X6_add (l : Launch) : ip_Met l yX6_add cX6_add 3 none (ip_rm 0) C_X6_add := ip_met tb_X6_add 400 (by decide +kernel) fl_X6_ok ip_cn0 (ip_cs0) ck_X6_add rfl p_X6_add
def I_X6 (pc0 : Nat) (tc : Int32) (S : Nat → Nat) (G : Nat → Nat → Int32) (v : Nat → Int32) : Nat → Nat → ip_P := fun pc k L st hp => pc = pc0 ∧ ∃ (t : Nat) (x y : Int32), t ≤ S 5 ∧ k = 20 - t ∧ L = [some (.ref 20), some (.ref 10), some (.int x), some (.int y)] ∧ st = [] ∧ hp = hpC tc S G ∧ x = v t ∧ y = nI t
def C_X6_countIn : ip_C := fun vs hp K => ∃ tc S G, vs = [.ref 20, .ref 10] ∧ hp = hpC tc S G ∧ wfM S ∧ wfT S G ∧ K (some (.int (nI (fb_ct (stT S G) (S 5))))) hp
def cs_X6_countIn : List ip_G := [(22, 3, 1, C_X0_isStruck)]
theorem p_X6_countIn : ip_Pf fl_X6 [] cs_X6_countIn (some .int) tb_X6_countIn 4 C_X6_countIn := by
  rintro _ _ K ⟨tc, S, G, rfl, rfl, hwf, ⟨t0, t1⟩, hK⟩
  refine ⟨Nat.le_of_ble_eq_true rfl, I_X6 4 tc S G (fun t => nI (fb_ct (stT S G) t)), ?_, ?_⟩
  · exact Exists.intro 20 ⟨trivial, rfl, 0, _, _, by omega, rfl, rfl, rfl, rfl, rfl, rfl⟩
  · rintro pc k L st hp ⟨rfl, t, x, y, ht, rfl, rfl, rfl, rfl, rfl, rfl⟩
    refine pk_le (S 5) t (fun h => ?_) (fun h => ?_)
    · obtain rfl : t = S 5 := by omega
      exact hK
    obtain ⟨e1, e2, e3, e4⟩ := t1 t h
    have hc := nI_clamp (n := t) (by omega)
    have hn : ∀ x y : Int32, x = nI (fb_ct (stT S G) (t + 1)) → y = nI (t + 1) → ∃ k, ip_lt k (some (20 - t)) ∧ I_X6 4 tc S G (fun t => nI (fb_ct (stT S G) t)) 4 k [some (.ref 20), some (.ref 10), some (.int x), some (.int y)] [] (hpC tc S G) := fun x y hx hy => ⟨20 - (t + 1), by show _ < _; omega, rfl, t + 1, x, y, by omega, rfl, rfl, rfl, rfl, hx, hy⟩
    refine And.intro (pk_in t 20 (by omega)) ?_
    refine And.intro (pk_in t 20 (by omega)) ?_
    refine Exists.intro tc ⟨S, G, pN (G 7) t, pN (G 8) t, by omega, e4, (by show [Value.ref 10, .int (G 7 (nI t).toNatClampNeg), .int (G 8 (nI t).toNatClampNeg)] = _; rw [hc, ← e1, ← e3]), rfl, hwf, ?_⟩
    refine ip_bt (fun h3 => ?_) (fun h3 => ?_)
    · exact hn _ _ (by rw [fb_ct_succ, show stT S G t = false from h3]; simp) (nI_1 t)
    · exact hn _ _ (by rw [fb_ct_succ, show stT S G t = true from h3, nI_1]; simp) (nI_1 t)
set_option maxRecDepth 100000 in
set_option maxHeartbeats 4000000 in
theorem m_X6_countIn (l : Launch) : ip_Met l yX6_countIn cX6_countIn 4 (some .int) (ip_rm 4) C_X6_countIn := ip_met tb_X6_countIn 400 (by decide +kernel) fl_X6_ok ip_cn0 (ip_cs1 (ip_gsV (m_X0_isStruck l) (ip_in [378, 334, 335, 33, 336] (by decide +kernel) (by decide +kernel)) rfl ⟨by decide +kernel, by decide +kernel, by decide +kernel⟩ ⟨rfl, rfl, Nat.le_of_ble_eq_true rfl, Nat.le_of_ble_eq_true rfl⟩) (ip_cs0)) ck_X6_countIn rfl p_X6_countIn
def C_X6_firstIn : ip_C := fun vs hp K => ∃ tc S G, vs = [.ref 20, .ref 10] ∧ hp = hpC tc S G ∧ wfM S ∧ wfT S G ∧ (∀ t, t < S 5 → stT S G t = true → (∀ i, i < t → stT S G i = false) → K (some (.int (nI t))) hp) ∧ ((∀ i, i < S 5 → stT S G i = false) → K (some (.int (-9))) hp)
def cs_X6_firstIn : List ip_G := [(22, 3, 1, C_X0_isStruck)]
def I_X6_firstIn (tc : Int32) (S : Nat → Nat) (G : Nat → Nat → Int32) : Nat → Nat → ip_P := fun pc k L st hp => pc = 2 ∧ ∃ (t : Nat) (y : Int32), t ≤ S 5 ∧ k = 20 - t ∧ L = [some (.ref 20), some (.ref 10), some (.int y)] ∧ st = [] ∧ hp = hpC tc S G ∧ y = nI t ∧ ∀ i, i < t → stT S G i = false
theorem p_X6_firstIn : ip_Pf fl_X6 [] cs_X6_firstIn (some .int) tb_X6_firstIn 3 C_X6_firstIn := by
  rintro _ _ K ⟨tc, S, G, rfl, rfl, hwf, ⟨t0, t1⟩, hK, hK2⟩
  refine ⟨Nat.le_of_ble_eq_true rfl, I_X6_firstIn tc S G, ?_, ?_⟩
  · exact Exists.intro 20 ⟨trivial, rfl, 0, _, by omega, rfl, rfl, rfl, rfl, rfl, fun i hi => absurd hi (by omega)⟩
  · rintro pc k L st hp ⟨rfl, t, y, ht, rfl, rfl, rfl, rfl, rfl, hno⟩
    refine pk_le (S 5) t (fun h => ?_) (fun h => ?_)
    · exact hK2 (fun i hi => hno i (by omega))
    obtain ⟨e1, e2, e3, e4⟩ := t1 t h
    have hc := nI_clamp (n := t) (by omega)
    refine And.intro (pk_in t 20 (by omega)) ?_
    refine And.intro (pk_in t 20 (by omega)) ?_
    refine Exists.intro tc ⟨S, G, pN (G 7) t, pN (G 8) t, by omega, e4, (by show [Value.ref 10, .int (G 7 (nI t).toNatClampNeg), .int (G 8 (nI t).toNatClampNeg)] = _; rw [hc, ← e1, ← e3]), rfl, hwf, ?_⟩
    refine ip_bt (fun h3 => ?_) (fun h3 => ?_)
    · exact Exists.intro (20 - (t + 1)) ⟨by show _ < _; omega, rfl, t + 1, _, by omega, rfl, rfl, rfl, rfl, nI_1 t, fun i hi => by
        rcases Nat.lt_or_ge i t with q | q
        · exact hno i q
        · obtain rfl : i = t := by omega
          exact h3⟩
    · exact hK t h h3 hno
set_option maxRecDepth 100000 in
set_option maxHeartbeats 4000000 in
theorem m_X6_firstIn (l : Launch) : ip_Met l yX6_firstIn cX6_firstIn 3 (some .int) (ip_rm 4) C_X6_firstIn := ip_met tb_X6_firstIn 400 (by decide +kernel) fl_X6_ok ip_cn0 (ip_cs1 (ip_gsV (m_X0_isStruck l) (ip_in [378, 334, 335, 33, 336] (by decide +kernel) (by decide +kernel)) rfl ⟨by decide +kernel, by decide +kernel, by decide +kernel⟩ ⟨rfl, rfl, Nat.le_of_ble_eq_true rfl, Nat.le_of_ble_eq_true rfl⟩) (ip_cs0)) ck_X6_firstIn rfl p_X6_firstIn
theorem bs_or_one {n p : Nat} {f : Nat → Bool} (hp : p < n) : bs n f ||| 2 ^ p = bs n (fun i => f i || i == p) := by
  apply Nat.eq_of_testBit_eq
  intro i
  rw [Nat.testBit_or, bs_bit, bs_bit, Nat.testBit_two_pow]
  by_cases h : i = p
  · subst h; simp [hp]
  · have h1 : ¬ p = i := fun q => h q.symm
    have h2 : (i == p) = false := by simpa using h
    rw [h2]
    simp [h1]
def C_X6_struckIn : ip_C := fun vs hp K => ∃ tc S G, vs = [.ref 20, .ref 10] ∧ hp = hpC tc S G ∧ wfM S ∧ wfT S G ∧ K (some (.int (nI (bs 6 (fun p => anyb (S 5) (fun t => stT S G t && pN (G 7) t == p)))))) hp
def cs_X6_struckIn : List ip_G := [(22, 3, 1, C_X0_isStruck)]
theorem p_X6_struckIn : ip_Pf fl_X6 [] cs_X6_struckIn (some .int) tb_X6_struckIn 4 C_X6_struckIn := by
  rintro _ _ K ⟨tc, S, G, rfl, rfl, hwf, ⟨t0, t1⟩, hK⟩
  refine ⟨Nat.le_of_ble_eq_true rfl, I_X6 4 tc S G (fun n => nI (bs 6 (fun p => anyb n (fun t => stT S G t && pN (G 7) t == p)))), ?_, ?_⟩
  · refine Exists.intro 20 ⟨trivial, rfl, 0, _, _, by omega, rfl, rfl, rfl, rfl, ?_, rfl⟩
    exact (by decide +kernel : (0 : Int32) = nI (bs 6 (fun _ => false)))
  · rintro pc k L st hp ⟨rfl, t, x, y, ht, rfl, rfl, rfl, rfl, rfl, rfl⟩
    refine pk_le (S 5) t (fun h => ?_) (fun h => ?_)
    · obtain rfl : t = S 5 := by omega
      exact hK
    obtain ⟨e1, e2, e3, e4⟩ := t1 t h
    have hc := nI_clamp (n := t) (by omega)
    have hn : ∀ x y : Int32, x = nI (bs 6 (fun p => anyb (t + 1) (fun t => stT S G t && pN (G 7) t == p))) → y = nI (t + 1) → ∃ k, ip_lt k (some (20 - t)) ∧ I_X6 4 tc S G (fun n => nI (bs 6 (fun p => anyb n (fun t => stT S G t && pN (G 7) t == p)))) 4 k [some (.ref 20), some (.ref 10), some (.int x), some (.int y)] [] (hpC tc S G) := fun x y hx hy => ⟨20 - (t + 1), by show _ < _; omega, rfl, t + 1, x, y, by omega, rfl, rfl, rfl, rfl, hx, hy⟩
    refine And.intro (pk_in t 20 (by omega)) ?_
    refine And.intro (pk_in t 20 (by omega)) ?_
    refine Exists.intro tc ⟨S, G, pN (G 7) t, pN (G 8) t, by omega, e4, (by show [Value.ref 10, .int (G 7 (nI t).toNatClampNeg), .int (G 8 (nI t).toNatClampNeg)] = _; rw [hc, ← e1, ← e3]), rfl, hwf, ?_⟩
    refine ip_bt (fun h3 => ?_) (fun h3 => ?_)
    · exact hn _ _ (by simp only [anyb, show stT S G t = false from h3]; simp) (nI_1 t)
    · refine And.intro (pk_in t 20 (by omega)) ?_
      refine hn _ _ ?_ (nI_1 t)
      have hs := sh1 ⟨pN (G 7) t, by omega⟩
      simp only at hs
      rw [hc, e1, hs, fa_or, bs_or_one e2]
      congr 1
      refine bs_cong (fun p _ => ?_)
      simp only [anyb, show stT S G t = true from h3, Bool.true_and]
      congr 1
      exact Bool.eq_iff_iff.mpr (by simp; exact eq_comm)
set_option maxRecDepth 100000 in
set_option maxHeartbeats 4000000 in
theorem m_X6_struckIn (l : Launch) : ip_Met l yX6_struckIn cX6_struckIn 4 (some .int) (ip_rm 4) C_X6_struckIn := ip_met tb_X6_struckIn 400 (by decide +kernel) fl_X6_ok ip_cn0 (ip_cs1 (ip_gsV (m_X0_isStruck l) (ip_in [378, 334, 335, 33, 336] (by decide +kernel) (by decide +kernel)) rfl ⟨by decide +kernel, by decide +kernel, by decide +kernel⟩ ⟨rfl, rfl, Nat.le_of_ble_eq_true rfl, Nat.le_of_ble_eq_true rfl⟩) (ip_cs0)) ck_X6_struckIn rfl p_X6_struckIn
def wfR (S : Nat → Nat) (G : Nat → Nat → Int32) : Prop := S 4 ≤ 8 ∧ ∀ r, r < S 4 → G 4 r = nI (pN (G 4) r) ∧ pN (G 4) r < 6 ∧ G 5 r = nI (pN (G 5) r) ∧ pN (G 5) r < 6 ∧ (G 6 r = 0 ∨ G 6 r = 1)
def isSo (S : Nat → Nat) (G : Nat → Nat → Int32) (r : Nat) : Bool := stk S (pN (G 4) r) (pN (G 5) r) == decide (G 6 r = 1)
def allSo (S : Nat → Nat) (G : Nat → Nat → Int32) : Bool := !anyb (S 4) (fun r => !isSo S G r)
def C_X4_note : ip_C := fun vs hp K => ∃ tc S G, ∃ (p q : Int32) (b : Bool), vs = [.ref 16, .int p, .int q, .int (ip_bi b)] ∧ hp = hpC tc S G ∧ S 4 ≤ 8 ∧ (S 4 = 8 → K (some (.int 0)) hp) ∧ (S 4 < 8 → ∀ hp', hp' = hpC tc (va_up S 4 (S 4 + 1)) (va_up (va_up (va_up G 4 (upd (G 4) (S 4) p)) 5 (upd (G 5) (S 4) q)) 6 (upd (G 6) (S 4) (ip_bi b))) → K (some (.int 1)) hp')
def cs_X4_note : List ip_G := []
theorem nar_bi (b : Bool) : vp_nar .boolean (ip_bi b) = ip_bi b := by cases b <;> decide
theorem p_X4_note : ip_Pf fl_X4 [] cs_X4_note (some .boolean) tb_X4_note 4 C_X4_note := ip_pf0 (by
  rintro _ _ K ⟨tc, S, G, p, q, b, rfl, rfl, h4, hK, hK2⟩
  refine ⟨Nat.le_of_ble_eq_true rfl, ?_⟩
  refine pk_lt (S 4) 0 (fun h => ?_) (fun h => ?_)
  · omega
  refine pk_lt (S 4) 8 (fun h2 => ?_) (fun h2 => ?_)
  · refine And.intro (pk_in (S 4) 8 h2) ?_
    refine And.intro (pk_in (S 4) 8 h2) ?_
    refine And.intro (pk_in (S 4) 8 h2) ?_
    refine And.intro rfl (hK2 h2 _ ?_)
    rw [nI_1, nI_clamp (by omega), nar_bi]
    rfl
  · exact And.intro rfl (hK (by omega)))
set_option maxRecDepth 100000 in
set_option maxHeartbeats 4000000 in
theorem m_X4_note (l : Launch) : ip_Met l yX4_note cX4_note 4 (some .boolean) (ip_rm 0) C_X4_note := ip_met tb_X4_note 400 (by decide +kernel) fl_X4_ok ip_cn0 (ip_cs0) ck_X4_note rfl p_X4_note
def C_X4_allSoIn : ip_C := fun vs hp K => ∃ tc S G, vs = [.ref 16, .ref 10] ∧ hp = hpC tc S G ∧ wfM S ∧ wfR S G ∧ K (some (.int (ip_bi (allSo S G)))) hp
def cs_X4_allSoIn : List ip_G := [(26, 3, 1, C_X0_isStruck)]
def I_X4_allSoIn (tc : Int32) (S : Nat → Nat) (G : Nat → Nat → Int32) : Nat → Nat → ip_P := fun pc k L st hp => pc = 2 ∧ ∃ (t : Nat) (y : Int32), t ≤ S 4 ∧ k = 8 - t ∧ L = [some (.ref 16), some (.ref 10), some (.int y)] ∧ st = [] ∧ hp = hpC tc S G ∧ y = nI t ∧ anyb t (fun r => !isSo S G r) = false
theorem anyb_true {f : Nat → Bool} : ∀ {n i : Nat}, i < n → f i = true → anyb n f = true
  | n + 1, i, h, hf => by
    simp only [anyb]
    rcases Nat.lt_or_ge i n with q | q
    · rw [anyb_true q hf]; rfl
    · obtain rfl : i = n := by omega
      rw [hf, Bool.or_true]
theorem anyb_false {f : Nat → Bool} {n : Nat} (h : ∀ i, i < n → f i = false) : anyb n f = false := by
  induction n with
  | zero => rfl
  | succ n ih => rw [anyb, ih (fun i hi => h i (by omega)), h n (by omega)]; rfl
theorem anyb_iff {f : Nat → Bool} {n : Nat} : anyb n f = true ↔ ∃ i, i < n ∧ f i = true := by
  constructor
  · induction n with
    | zero => intro h; cases h
    | succ n ih =>
      intro h
      rw [anyb, Bool.or_eq_true] at h
      rcases h with h | h
      · obtain ⟨i, a, b⟩ := ih h
        exact ⟨i, by omega, b⟩
      · exact ⟨n, by omega, h⟩
  · rintro ⟨i, a, b⟩
    exact anyb_true a b
theorem p_X4_allSoIn : ip_Pf fl_X4 [] cs_X4_allSoIn (some .boolean) tb_X4_allSoIn 3 C_X4_allSoIn := by
  rintro _ _ K ⟨tc, S, G, rfl, rfl, hwf, ⟨t0, t1⟩, hK⟩
  refine ⟨Nat.le_of_ble_eq_true rfl, I_X4_allSoIn tc S G, ?_, ?_⟩
  · exact Exists.intro 8 ⟨trivial, rfl, 0, _, by omega, rfl, rfl, rfl, rfl, rfl, rfl⟩
  · rintro pc k L st hp ⟨rfl, t, y, ht, rfl, rfl, rfl, rfl, rfl, hno⟩
    refine pk_le (S 4) t (fun h => ?_) (fun h => ?_)
    · obtain rfl : t = S 4 := by omega
      rw [allSo, hno] at hK
      exact And.intro rfl hK
    obtain ⟨e1, e2, e3, e4, e5⟩ := t1 t h
    have hc := nI_clamp (n := t) (by omega)
    refine And.intro (pk_in t 8 (by omega)) ?_
    refine And.intro (pk_in t 8 (by omega)) ?_
    refine Exists.intro tc ⟨S, G, pN (G 4) t, pN (G 5) t, by omega, e4, (by show [Value.ref 10, .int (G 4 (nI t).toNatClampNeg), .int (G 5 (nI t).toNatClampNeg)] = _; rw [hc, ← e1, ← e3]), rfl, hwf, ?_⟩
    refine And.intro (pk_in t 8 (by omega)) ?_
    have hso : (ip_bi (stk S (pN (G 4) t) (pN (G 5) t)) = G 6 (nI t).toNatClampNeg) ↔ isSo S G t = true := by
      rw [hc, isSo]
      rcases e5 with e5 | e5 <;> rw [e5] <;> cases stk S (pN (G 4) t) (pN (G 5) t) <;> decide
    refine And.intro (fun h3 => ?_) (fun h3 => ?_)
    · exact Exists.intro (8 - (t + 1)) ⟨by show _ < _; omega, rfl, t + 1, _, by omega, rfl, rfl, rfl, rfl, nI_1 t, by rw [anyb, hno, hso.mp h3]; rfl⟩
    · have h4 : isSo S G t = false := by
        cases h5 : isSo S G t
        · rfl
        · exact absurd (hso.mpr h5) h3
      rw [allSo, anyb_true (i := t) h (by rw [h4]; rfl)] at hK
      exact And.intro rfl hK
set_option maxRecDepth 100000 in
set_option maxHeartbeats 4000000 in
theorem m_X4_allSoIn (l : Launch) : ip_Met l yX4_allSoIn cX4_allSoIn 3 (some .boolean) (ip_rm 4) C_X4_allSoIn := ip_met tb_X4_allSoIn 400 (by decide +kernel) fl_X4_ok ip_cn0 (ip_cs1 (ip_gsV (m_X0_isStruck l) (ip_in [502, 334, 335, 33, 336] (by decide +kernel) (by decide +kernel)) rfl ⟨by decide +kernel, by decide +kernel, by decide +kernel⟩ ⟨rfl, rfl, Nat.le_of_ble_eq_true rfl, Nat.le_of_ble_eq_true rfl⟩) (ip_cs0)) ck_X4_allSoIn rfl p_X4_allSoIn
