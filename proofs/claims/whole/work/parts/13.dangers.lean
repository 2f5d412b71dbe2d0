/-! ===== Man, dangers ===== -/
theorem sw12 {kd : Nat} (h : kd ≤ 2) {X Y Z : Prop} (f1 : kd = 1 → X) (f2 : kd = 2 → Y) (f0 : kd = 0 → Z) : ((1 : Int) = (nI kd).toInt → X) ∧ (¬ (1 : Int) = (nI kd).toInt → ((2 : Int) = (nI kd).toInt → Y) ∧ (¬ (2 : Int) = (nI kd).toInt → Z)) := by
  rw [ti_n (by omega)]
  exact ⟨fun q => f1 (by omega), fun q => ⟨fun q2 => f2 (by omega), fun q2 => f0 (by omega)⟩⟩
def rb (tr kd li : Nat) : Nat := if kd = 2 then 0 else if kd = 1 then li ||| tr else li
def wb (tr kd li : Nat) : Nat := if kd = 2 then li else if kd = 1 then 63 ^^^ (li ||| tr) else 0
theorem or64 {a b : Nat} (ha : a < 64) (hb : b < 64) : a ||| b < 64 := Nat.or_lt_two_pow (n := 6) ha hb
theorem rb_lt {tr kd li : Nat} (h1 : tr < 64) (h2 : li < 64) : rb tr kd li < 64 := by
  unfold rb
  split
  · omega
  · split
    · exact or64 h2 h1
    · exact h2
theorem x63 : ∀ a : Fin 64, 63 ^^^ a.val < 64 := by decide +kernel
theorem x63b : ∀ a : Fin 64, ∀ q : Fin 6, (63 ^^^ a.val).testBit q.val = !a.val.testBit q.val := by decide +kernel
theorem nb63 : ∀ a : Fin 64, (63 : Int32) &&& (nI a.val ^^^ (-1)) = nI (63 ^^^ a.val) := by decide +kernel
theorem wb_lt {tr kd li : Nat} (h1 : tr < 64) (h2 : li < 64) : wb tr kd li < 64 := by
  unfold wb
  split
  · exact h2
  · split
    · exact x63 ⟨_, or64 h2 h1⟩
    · omega
theorem rb_bit {tr kd li : Nat} (q : Nat) : (rb tr kd li).testBit q = ar tr kd li q := by
  unfold rb ar
  split
  · rename_i h; simp [h]
  · rename_i h
    split
    · rename_i h2; simp [h2, Nat.testBit_or]
    · rename_i h2
      have h3 : (kd != 2) = true := by simpa using h
      have h4 : (kd == 1) = false := by simpa using h2
      rw [h3, h4]; simp
theorem wbs_bit {tr kd li q : Nat} (h1 : tr < 64) (h2 : li < 64) (hq : q < 6) : (wb tr kd li).testBit q = aw tr kd li q := by
  unfold wb aw
  split
  · rename_i h; simp [h]
  · rename_i h
    split
    · rename_i h3
      have := x63b ⟨_, or64 h2 h1⟩ ⟨q, hq⟩
      simp only at this
      rw [this]
      simp [h3, Nat.testBit_or]
    · rename_i h3; simp [h, h3]
def C_X2_rightBy : ip_C := fun vs hp K => ∃ tc S G, ∃ m tr : Nat, m < 4 ∧ vs = [.ref (12 + m), .int (nI tr)] ∧ hp = hpC tc S G ∧ wfM S ∧ K (some (.int (nI (rb tr (S (40 + m)) (S (60 + m)))))) hp
def cs_X2_rightBy : List ip_G := []
theorem p_X2_rightBy : ip_Pf fl_X2 [] cs_X2_rightBy (some .int) tb_X2_rightBy 2 C_X2_rightBy := ip_pf0 (by
  rintro _ _ K ⟨tc, S, G, m, tr, hm, rfl, rfl, ⟨w1, w2, w3, w4⟩, hK⟩
  refine ⟨Nat.le_of_ble_eq_true rfl, ?_⟩
  obtain ⟨k1, k2, k3⟩ := w4 m hm
  have hsw : ∀ {X Y Z : Prop}, (S (40 + m) = 1 → X) → (S (40 + m) = 2 → Y) → (S (40 + m) = 0 → Z) → ((1 : Int) = (nI (S (40 + m))).toInt → X) ∧ (¬ (1 : Int) = (nI (S (40 + m))).toInt → ((2 : Int) = (nI (S (40 + m))).toInt → Y) ∧ (¬ (2 : Int) = (nI (S (40 + m))).toInt → Z)) := fun f1 f2 f0 => sw12 k1 f1 f2 f0
  have e1 : S (40 + m) = 1 → K (some (.int (nI (S (60 + m)) ||| nI tr))) (hpC tc S G) := fun h => by rw [fa_or]; rw [rb, if_neg (by omega), if_pos h] at hK; exact hK
  have e2 : S (40 + m) = 2 → K (some (.int 0)) (hpC tc S G) := fun h => by rw [rb, if_pos h] at hK; exact hK
  have e0 : S (40 + m) = 0 → K (some (.int (nI (S (60 + m))))) (hpC tc S G) := fun h => by rw [rb, if_neg (by omega), if_neg (by omega)] at hK; exact hK
  rcases four hm with rfl | rfl | rfl | rfl
  all_goals exact hsw e1 e2 e0)
set_option maxRecDepth 100000 in
set_option maxHeartbeats 4000000 in
theorem m_X2_rightBy (l : Launch) : ip_Met l yX2_rightBy cX2_rightBy 2 (some .int) (ip_rm 0) C_X2_rightBy := ip_met tb_X2_rightBy 400 (by decide +kernel) fl_X2_ok ip_cn0 (ip_cs0) ck_X2_rightBy rfl p_X2_rightBy
def C_X2_wrongBy : ip_C := fun vs hp K => ∃ tc S G, ∃ m tr : Nat, m < 4 ∧ tr < 64 ∧ vs = [.ref (12 + m), .int (nI tr)] ∧ hp = hpC tc S G ∧ wfM S ∧ K (some (.int (nI (wb tr (S (40 + m)) (S (60 + m)))))) hp
def cs_X2_wrongBy : List ip_G := []
theorem p_X2_wrongBy : ip_Pf fl_X2 [] cs_X2_wrongBy (some .int) tb_X2_wrongBy 2 C_X2_wrongBy := ip_pf0 (by
  rintro _ _ K ⟨tc, S, G, m, tr, hm, ht, rfl, rfl, ⟨w1, w2, w3, w4⟩, hK⟩
  refine ⟨Nat.le_of_ble_eq_true rfl, ?_⟩
  obtain ⟨k1, k2, k3⟩ := w4 m hm
  have hsw : ∀ {X Y Z : Prop}, (S (40 + m) = 1 → X) → (S (40 + m) = 2 → Y) → (S (40 + m) = 0 → Z) → ((1 : Int) = (nI (S (40 + m))).toInt → X) ∧ (¬ (1 : Int) = (nI (S (40 + m))).toInt → ((2 : Int) = (nI (S (40 + m))).toInt → Y) ∧ (¬ (2 : Int) = (nI (S (40 + m))).toInt → Z)) := fun f1 f2 f0 => sw12 k1 f1 f2 f0
  have e1 : S (40 + m) = 1 → K (some (.int (63 &&& ((nI (S (60 + m)) ||| nI tr) ^^^ (-1))))) (hpC tc S G) := fun h => by
    have hb := nb63 ⟨_, or64 k3 ht⟩
    simp only at hb
    rw [fa_or, hb]; rw [wb, if_neg (by omega), if_pos h] at hK; exact hK
  have e2 : S (40 + m) = 2 → K (some (.int (nI (S (60 + m))))) (hpC tc S G) := fun h => by rw [wb, if_pos h] at hK; exact hK
  have e0 : S (40 + m) = 0 → K (some (.int 0)) (hpC tc S G) := fun h => by rw [wb, if_neg (by omega), if_neg (by omega)] at hK; exact hK
  rcases four hm with rfl | rfl | rfl | rfl
  all_goals exact hsw e1 e2 e0)
set_option maxRecDepth 100000 in
set_option maxHeartbeats 4000000 in
theorem m_X2_wrongBy (l : Launch) : ip_Met l yX2_wrongBy cX2_wrongBy 2 (some .int) (ip_rm 0) C_X2_wrongBy := ip_met tb_X2_wrongBy 400 (by decide +kernel) fl_X2_ok ip_cn0 (ip_cs0) ck_X2_wrongBy rfl p_X2_wrongBy
def RB (S : Nat → Nat) (th : Nat → Bool) : Nat → Nat
  | 0 => 0
  | n + 1 => if th n then RB S th n ||| rb (S 1) (S (40 + n)) (S (60 + n)) else RB S th n
def WB (S : Nat → Nat) (th : Nat → Bool) : Nat → Nat
  | 0 => 0
  | n + 1 => if th n then WB S th n ||| wb (S 1) (S (40 + n)) (S (60 + n)) else WB S th n
theorem RB_lt {S : Nat → Nat} (hS : wfM S) (th : Nat → Bool) : ∀ n, n ≤ 4 → RB S th n < 64 ∧ WB S th n < 64
  | 0, _ => by simp [RB, WB]
  | n + 1, h => by
    obtain ⟨a, b⟩ := RB_lt hS th n (by omega)
    obtain ⟨-, -, k⟩ := hS.2.2.2 n (by omega)
    simp only [RB, WB]
    constructor
    · split
      · exact or64 a (rb_lt hS.1 k)
      · exact a
    · split
      · exact or64 b (wb_lt hS.1 k)
      · exact b
theorem RB_bit {S : Nat → Nat} (hS : wfM S) (th : Nat → Bool) {q : Nat} (hq : q < 6) : ∀ n, n ≤ 4 → (RB S th n).testBit q = anyb n (fun m => th m && ar (S 1) (S (40 + m)) (S (60 + m)) q) ∧ (WB S th n).testBit q = anyb n (fun m => th m && aw (S 1) (S (40 + m)) (S (60 + m)) q)
  | 0, _ => by simp [RB, WB, anyb]
  | n + 1, h => by
    obtain ⟨a, b⟩ := RB_bit hS th hq n (by omega)
    obtain ⟨-, -, k⟩ := hS.2.2.2 n (by omega)
    simp only [RB, WB, anyb]
    constructor
    · split
      · rename_i ht; rw [Nat.testBit_or, a, rb_bit, ht]; simp
      · rename_i ht; simp [ht, a]
    · split
      · rename_i ht; rw [Nat.testBit_or, b, wbs_bit hS.1 k hq, ht]; simp
      · rename_i ht; simp [ht, b]
theorem dgc : ∀ R W : Fin 64, (63 : Int32) &&& ((nI R.val &&& (nI W.val ^^^ (-1))) ^^^ (-1)) = nI (bs 6 (fun q => !(R.val.testBit q && !W.val.testBit q))) := by decide +kernel
theorem dgs_RB {S : Nat → Nat} (hS : wfM S) (th : Nat → Bool) : bs 6 (fun q => !((RB S th (S 3)).testBit q && !(WB S th (S 3)).testBit q)) = dgs S th := by
  refine bs_cong (fun q hq => ?_)
  obtain ⟨a, b⟩ := RB_bit hS th hq (S 3) hS.2.2.1
  rw [a, b]
  rfl
theorem dgs_lt (S : Nat → Nat) (pr : Nat → Bool) : dgs S pr < 64 := bs_lt _ 6
theorem dgs_cong {S : Nat → Nat} {p p' : Nat → Bool} (h : ∀ m, m < S 3 → p m = p' m) : dgs S p = dgs S p' := bs_cong (fun q _ => by rw [heldS, heldS, held_cong (fun m hm => ⟨rfl, rfl, h m hm⟩)])
def C_X0_dangersBy : ip_C := fun vs hp K => ∃ tc S G, ∃ th : Nat, th < 16 ∧ vs = [.ref 10, .int (nI th)] ∧ hp = hpC tc S G ∧ wfM S ∧ K (some (.int (nI (dgs S (fun m => th.testBit m))))) hp
def cs_X0_dangersBy : List ip_G := [(28, 2, 0, C_X7_holds), (35, 2, 2, C_X2_rightBy), (39, 2, 2, C_X2_wrongBy)]
def I_X0_dangersBy (tc : Int32) (S : Nat → Nat) (G : Nat → Nat → Int32) (th : Nat) : Nat → Nat → ip_P := fun pc k L st hp => pc = 7 ∧ ∃ (m : Nat) (x y z : Int32), m ≤ S 3 ∧ k = 4 - m ∧ L = [some (.ref 10), some (.int (nI th)), some (.int x), some (.int y), some (.int z)] ∧ st = [] ∧ hp = hpC tc S G ∧ x = nI (RB S (fun m => th.testBit m) m) ∧ y = nI (WB S (fun m => th.testBit m) m) ∧ z = nI m
set_option maxHeartbeats 4000000 in
theorem p_X0_dangersBy : ip_Pf fl_X0 [] cs_X0_dangersBy (some .int) tb_X0_dangersBy 5 C_X0_dangersBy := by
  rintro _ _ K ⟨tc, S, G, th, hth, rfl, rfl, hwf, hK⟩
  obtain ⟨w1, w2, w3, w4⟩ := id hwf
  refine ⟨Nat.le_of_ble_eq_true rfl, I_X0_dangersBy tc S G th, ?_, ?_⟩
  · exact Exists.intro 4 ⟨trivial, rfl, 0, _, _, _, by omega, rfl, rfl, rfl, rfl, rfl, rfl, rfl⟩
  · rintro pc k L st hp ⟨rfl, m, x, y, z, hm, rfl, rfl, rfl, rfl, rfl, rfl, rfl⟩
    have hend : m = S 3 → K (some (.int ((63 : Int32) &&& ((nI (RB S (fun m => th.testBit m) m) &&& (nI (WB S (fun m => th.testBit m) m) ^^^ (-1))) ^^^ (-1))))) (hpC tc S G) := by
      rintro rfl
      obtain ⟨a, b⟩ := RB_lt hwf (fun m => th.testBit m) (S 3) w3
      have hd := dgc ⟨_, a⟩ ⟨_, b⟩
      simp only at hd
      rw [hd, dgs_RB hwf]
      exact hK
    refine pk_le (S 3) m (fun h => ?_) (fun h => ?_)
    · exact hend (by omega)
    refine pk_le 4 m (fun h2 => ?_) (fun h2 => ?_)
    · omega
    have hin : vp_in (nI m) 4 := pk_in m 4 h2
    have hn : ∀ x y z : Int32, x = nI (RB S (fun m => th.testBit m) (m + 1)) → y = nI (WB S (fun m => th.testBit m) (m + 1)) → z = nI (m + 1) → ∃ k, ip_lt k (some (4 - m)) ∧ I_X0_dangersBy tc S G th 7 k [some (.ref 10), some (.int (nI th)), some (.int x), some (.int y), some (.int z)] [] (hpC tc S G) := fun x y z hx hy hz => ⟨4 - (m + 1), by show _ < _; omega, rfl, m + 1, x, y, z, by omega, rfl, rfl, rfl, rfl, hx, hy, hz⟩
    have h9 : nI m + 1 = nI (m + 1) := nI_1 m
    have h0 : th.testBit m = false → nI (RB S (fun m => th.testBit m) m) = nI (RB S (fun m => th.testBit m) (m + 1)) ∧ nI (WB S (fun m => th.testBit m) m) = nI (WB S (fun m => th.testBit m) (m + 1)) := fun h => by simp [RB, WB, h]
    have h1 : th.testBit m = true → nI (RB S (fun m => th.testBit m) m) ||| nI (rb (S 1) (S (40 + m)) (S (60 + m))) = nI (RB S (fun m => th.testBit m) (m + 1)) ∧ nI (WB S (fun m => th.testBit m) m) ||| nI (wb (S 1) (S (40 + m)) (S (60 + m))) = nI (WB S (fun m => th.testBit m) (m + 1)) := fun h => by simp [RB, WB, h, fa_or]
    refine Exists.intro th ⟨m, by omega, by omega, rfl, ?_⟩
    refine ip_bt (fun h3 => ?_) (fun h3 => ?_)
    · exact hn _ _ _ (h0 h3).1 (h0 h3).2 h9
    obtain ⟨h1a, h1b⟩ := h1 h3
    rcases four h2 with rfl | rfl | rfl | rfl
    all_goals
      refine And.intro hin ?_
      refine Exists.intro tc ⟨S, G, _, S 1, h2, rfl, rfl, hwf, ?_⟩
      refine And.intro hin ?_
      refine Exists.intro tc ⟨S, G, _, S 1, h2, w1, rfl, rfl, hwf, ?_⟩
      exact hn _ _ _ h1a h1b h9
set_option maxRecDepth 100000 in
set_option maxHeartbeats 4000000 in
theorem m_X0_dangersBy (l : Launch) : ip_Met l yX0_dangersBy cX0_dangersBy 5 (some .int) (ip_rm 1) C_X0_dangersBy := ip_met tb_X0_dangersBy 400 (by decide +kernel) fl_X0_ok ip_cn0 (ip_cs1 (ip_gsN "ThunderAsks" (m_X7_holds l) (fun U h => h.1) (ip_in [319, 32, 320] (by decide +kernel) (by decide +kernel)) ⟨by decide +kernel, by decide +kernel, by decide +kernel⟩ ⟨rfl, rfl, Nat.le_of_ble_eq_true rfl, Nat.le_of_ble_eq_true rfl⟩) (ip_cs1 (ip_gsV (m_X2_rightBy l) (ip_in [350, 322, 323, 34, 324] (by decide +kernel) (by decide +kernel)) rfl ⟨by decide +kernel, by decide +kernel, by decide +kernel⟩ ⟨rfl, rfl, Nat.le_of_ble_eq_true rfl, Nat.le_of_ble_eq_true rfl⟩) (ip_cs1 (ip_gsV (m_X2_wrongBy l) (ip_in [351, 326, 327, 34, 328] (by decide +kernel) (by decide +kernel)) rfl ⟨by decide +kernel, by decide +kernel, by decide +kernel⟩ ⟨rfl, rfl, Nat.le_of_ble_eq_true rfl, Nat.le_of_ble_eq_true rfl⟩) (ip_cs0)))) ck_X0_dangersBy rfl p_X0_dangersBy
/-- DANGERS of a parish -/
def dgp (S : Nat → Nat) (p : Nat) : Nat := dgs S (fun m => S (50 + m) == p)
theorem dgp_lt (S : Nat → Nat) (p : Nat) : dgp S p < 64 := dgs_lt S _
def C_X0_dangersOf : ip_C := fun vs hp K => ∃ tc S G, ∃ p : Nat, p < 2147483648 ∧ vs = [.ref 10, .int (nI p)] ∧ hp = hpC tc S G ∧ wfM S ∧ K (some (.int (nI (dgp S p)))) hp
def cs_X0_dangersOf : List ip_G := [(42, 2, 1, C_X0_menIn), (45, 2, 1, C_X0_dangersBy)]
theorem bs16 {S : Nat → Nat} (hS : wfM S) (f : Nat → Bool) : bs (S 3) f < 16 := Nat.lt_of_lt_of_le (bs_lt f (S 3)) (Nat.pow_le_pow_right (n := 2) (by omega) hS.2.2.1)
theorem p_X0_dangersOf : ip_Pf fl_X0 [] cs_X0_dangersOf (some .int) tb_X0_dangersOf 2 C_X0_dangersOf := ip_pf0 (by
  rintro _ _ K ⟨tc, S, G, p, hp0, rfl, rfl, hwf, hK⟩
  refine ⟨Nat.le_of_ble_eq_true rfl, ?_⟩
  refine Exists.intro tc ⟨S, G, p, hp0, rfl, rfl, hwf, ?_⟩
  refine Exists.intro tc ⟨S, G, _, bs16 hwf _, rfl, rfl, hwf, ?_⟩
  have e : dgs S (fun m => (bs (S 3) (fun m => S (50 + m) == p)).testBit m) = dgp S p := dgs_cong (fun m hm => by rw [bs_bit]; simp [hm])
  rw [← e] at hK
  exact hK)
set_option maxRecDepth 100000 in
set_option maxHeartbeats 4000000 in
theorem m_X0_dangersOf (l : Launch) : ip_Met l yX0_dangersOf cX0_dangersOf 2 (some .int) (ip_rm 2) C_X0_dangersOf := ip_met tb_X0_dangersOf 400 (by decide +kernel) fl_X0_ok ip_cn0 (ip_cs1 (ip_gsV (m_X0_menIn l) (ip_in [341, 342, 343, 33, 344] (by decide +kernel) (by decide +kernel)) rfl ⟨by decide +kernel, by decide +kernel, by decide +kernel⟩ ⟨rfl, rfl, Nat.le_of_ble_eq_true rfl, Nat.le_of_ble_eq_true rfl⟩) (ip_cs1 (ip_gsV (m_X0_dangersBy l) (ip_in [345, 346, 347, 33, 348] (by decide +kernel) (by decide +kernel)) rfl ⟨by decide +kernel, by decide +kernel, by decide +kernel⟩ ⟨rfl, rfl, Nat.le_of_ble_eq_true rfl, Nat.le_of_ble_eq_true rfl⟩) (ip_cs0))) ck_X0_dangersOf rfl p_X0_dangersOf
/-- STRUCK -/
def stk (S : Nat → Nat) (p q : Nat) : Bool := !heldS S (fun m => S (50 + m) == p) q
theorem dgp_bit {S : Nat → Nat} {p q : Nat} (hq : q < 6) : (dgp S p).testBit q = stk S p q := by
  unfold dgp dgs stk
  rw [bs_bit]
  simp [hq]
def C_X0_isStruck : ip_C := fun vs hp K => ∃ tc S G, ∃ p q : Nat, p < 2147483648 ∧ q < 6 ∧ vs = [.ref 10, .int (nI p), .int (nI q)] ∧ hp = hpC tc S G ∧ wfM S ∧ K (some (.int (ip_bi (stk S p q)))) hp
def cs_X0_isStruck : List ip_G := [(48, 2, 1, C_X0_dangersOf), (28, 2, 0, C_X7_holds)]
theorem p_X0_isStruck : ip_Pf fl_X0 [] cs_X0_isStruck (some .boolean) tb_X0_isStruck 3 C_X0_isStruck := ip_pf0 (by
  rintro _ _ K ⟨tc, S, G, p, q, hp0, hq, rfl, rfl, hwf, hK⟩
  refine ⟨Nat.le_of_ble_eq_true rfl, ?_⟩
  refine Exists.intro tc ⟨S, G, p, hp0, rfl, rfl, hwf, ?_⟩
  refine Exists.intro (dgp S p) ⟨q, dgp_lt S p, hq, rfl, ?_⟩
  rw [dgp_bit hq]
  exact And.intro (ip_bnar _) hK)
set_option maxRecDepth 100000 in
set_option maxHeartbeats 4000000 in
theorem m_X0_isStruck (l : Launch) : ip_Met l yX0_isStruck cX0_isStruck 3 (some .boolean) (ip_rm 3) C_X0_isStruck := ip_met tb_X0_isStruck 400 (by decide +kernel) fl_X0_ok ip_cn0 (ip_cs1 (ip_gsV (m_X0_dangersOf l) (ip_in [337, 338, 339, 33, 340] (by decide +kernel) (by decide +kernel)) rfl ⟨by decide +kernel, by decide +kernel, by decide +kernel⟩ ⟨rfl, rfl, Nat.le_of_ble_eq_true rfl, Nat.le_of_ble_eq_true rfl⟩) (ip_cs1 (ip_gsN "ThunderAsks" (m_X7_holds l) (fun U h => h.1) (ip_in [319, 32, 320] (by decide +kernel) (by decide +kernel)) ⟨by decide +kernel, by decide +kernel, by decide +kernel⟩ ⟨rfl, rfl, Nat.le_of_ble_eq_true rfl, Nat.le_of_ble_eq_true rfl⟩) (ip_cs0))) ck_X0_isStruck rfl p_X0_isStruck
