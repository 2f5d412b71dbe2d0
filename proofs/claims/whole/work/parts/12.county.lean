/-! ===== County ===== -/
def C_X0_isThere : ip_C := fun vs hp K => ∃ tc S G, vs = [.ref 10] ∧ hp = hpC tc S G ∧ S 2 ≤ 6 ∧ K (some (.int (ip_bi (decide (0 < S 2))))) hp
def cs_X0_isThere : List ip_G := []
theorem p_X0_isThere : ip_Pf fl_X0 [] cs_X0_isThere (some .boolean) tb_X0_isThere 1 C_X0_isThere := ip_pf0 (by
  rintro _ _ K ⟨tc, S, G, rfl, rfl, h0, hK⟩
  refine ⟨Nat.le_of_ble_eq_true rfl, ?_⟩
  refine pk_le (S 2) 0 (fun h => ?_) (fun h => ?_)
  · rw [decide_eq_false (by omega)] at hK
    exact And.intro rfl hK
  · rw [decide_eq_true (by omega)] at hK
    exact And.intro rfl hK)
set_option maxRecDepth 100000 in
set_option maxHeartbeats 4000000 in
theorem m_X0_isThere (l : Launch) : ip_Met l yX0_isThere cX0_isThere 1 (some .boolean) (ip_rm 0) C_X0_isThere := ip_met tb_X0_isThere 400 (by decide +kernel) fl_X0_ok ip_cn0 (ip_cs0) ck_X0_isThere rfl p_X0_isThere
def C_X0_hasParish : ip_C := fun vs hp K => ∃ tc S G, ∃ p : Int32, vs = [.ref 10, .int p] ∧ hp = hpC tc S G ∧ S 2 ≤ 6 ∧ ∀ b : Bool, (b = true ↔ 0 ≤ p.toInt ∧ p.toInt < S 2) → K (some (.int (ip_bi b))) hp
def cs_X0_hasParish : List ip_G := []
theorem p_X0_hasParish : ip_Pf fl_X0 [] cs_X0_hasParish (some .boolean) tb_X0_hasParish 2 C_X0_hasParish := ip_pf0 (by
  rintro _ _ K ⟨tc, S, G, p, rfl, rfl, h0, hK⟩
  refine ⟨Nat.le_of_ble_eq_true rfl, ?_⟩
  refine bz_lt p.toInt 0 (fun h => ?_) (fun h => ?_)
  · exact And.intro rfl (hK false (by simp; omega))
  refine bz_le (S 2) p.toInt (fun h2 => ?_) (fun h2 => ?_)
  · exact And.intro rfl (hK false (by simp; omega))
  · exact And.intro rfl (hK true (by simp; omega)))
set_option maxRecDepth 100000 in
set_option maxHeartbeats 4000000 in
theorem m_X0_hasParish (l : Launch) : ip_Met l yX0_hasParish cX0_hasParish 2 (some .boolean) (ip_rm 0) C_X0_hasParish := ip_met tb_X0_hasParish 400 (by decide +kernel) fl_X0_ok ip_cn0 (ip_cs0) ck_X0_hasParish rfl p_X0_hasParish
def C_X0_manOf : ip_C := fun vs hp K => ∃ tc S G, ∃ m : Int32, vs = [.ref 10, .int m] ∧ hp = hpC tc S G ∧ S 3 ≤ 4 ∧ (¬ (0 ≤ m.toInt ∧ m.toInt < S 3) → K (some .null) hp) ∧ ∀ j : Nat, j < S 3 → m = nI j → K (some (.ref (12 + j))) hp
def cs_X0_manOf : List ip_G := []
theorem p_X0_manOf : ip_Pf fl_X0 [] cs_X0_manOf (some (.object "ThunderAsks$Man")) tb_X0_manOf 2 C_X0_manOf := ip_pf0 (by
  rintro _ _ K ⟨tc, S, G, m, rfl, rfl, h0, hK, hK2⟩
  refine ⟨Nat.le_of_ble_eq_true rfl, ?_⟩
  refine bz_lt m.toInt 0 (fun h => ?_) (fun h => ?_)
  · exact hK (by omega)
  refine bz_le (S 3) m.toInt (fun h2 => ?_) (fun h2 => ?_)
  · exact hK (by omega)
  refine bz_lt m.toInt 4 (fun h3 => ?_) (fun h3 => ?_)
  · obtain ⟨j, -, rfl, hj⟩ := ti_of h
    have hj4 : j < S 3 := by omega
    have hk := hK2 j hj4 rfl
    have hin : vp_in (nI j) 4 := pk_in j 4 (by omega)
    rcases four (show j < 4 by omega) with rfl | rfl | rfl | rfl
    all_goals exact And.intro hin hk
  · exact absurd h2 (by omega))
set_option maxRecDepth 100000 in
set_option maxHeartbeats 4000000 in
theorem m_X0_manOf (l : Launch) : ip_Met l yX0_manOf cX0_manOf 2 (some (.object "ThunderAsks$Man")) (ip_rm 0) C_X0_manOf := ip_met tb_X0_manOf 400 (by decide +kernel) fl_X0_ok ip_cn0 (ip_cs0) ck_X0_manOf rfl p_X0_manOf
def C_X0_menIn : ip_C := fun vs hp K => ∃ tc S G, ∃ p : Nat, p < 2147483648 ∧ vs = [.ref 10, .int (nI p)] ∧ hp = hpC tc S G ∧ wfM S ∧ K (some (.int (nI (bs (S 3) (fun m => S (50 + m) == p))))) hp
def cs_X0_menIn : List ip_G := []
def I_X0_menIn (tc : Int32) (S : Nat → Nat) (G : Nat → Nat → Int32) (p : Nat) : Nat → Nat → ip_P := fun pc k L st hp => pc = 4 ∧ ∃ (m : Nat) (x y : Int32), m ≤ S 3 ∧ k = 4 - m ∧ L = [some (.ref 10), some (.int (nI p)), some (.int x), some (.int y)] ∧ st = [] ∧ hp = hpC tc S G ∧ x = nI (bs m (fun m => S (50 + m) == p)) ∧ y = nI m
set_option maxHeartbeats 4000000 in
theorem p_X0_menIn : ip_Pf fl_X0 [] cs_X0_menIn (some .int) tb_X0_menIn 4 C_X0_menIn := by
  rintro _ _ K ⟨tc, S, G, p, hp0, rfl, rfl, ⟨w1, w2, w3, w4⟩, hK⟩
  refine ⟨Nat.le_of_ble_eq_true rfl, I_X0_menIn tc S G p, ?_, ?_⟩
  · exact Exists.intro 4 ⟨trivial, rfl, 0, _, _, by omega, rfl, rfl, rfl, rfl, rfl, rfl⟩
  · rintro pc k L st hp ⟨rfl, m, x, y, hm, rfl, rfl, rfl, rfl, rfl, rfl⟩
    refine pk_le (S 3) m (fun h => ?_) (fun h => ?_)
    · obtain rfl : m = S 3 := by omega
      exact hK
    refine pk_le 4 m (fun h2 => ?_) (fun h2 => ?_)
    · omega
    obtain ⟨-, w5, -⟩ := w4 m (by omega)
    have hb := bs_lt (fun m => S (50 + m) == p) m
    have hin : vp_in (nI m) 4 := pk_in m 4 h2
    have hbr : ∀ {X Y : Prop}, (S (50 + m) ≠ p → X) → (S (50 + m) = p → Y) → (¬ nI (S (50 + m)) = nI p → X) ∧ (nI (S (50 + m)) = nI p → Y) := fun f g => pk_ne _ p f g
    have hn : ∀ x y : Int32, x = nI (bs (m + 1) (fun m => S (50 + m) == p)) → y = nI (m + 1) → ∃ k, ip_lt k (some (4 - m)) ∧ I_X0_menIn tc S G p 4 k [some (.ref 10), some (.int (nI p)), some (.int x), some (.int y)] [] (hpC tc S G) := fun x y hx hy => ⟨4 - (m + 1), by show _ < _; omega, rfl, m + 1, x, y, by omega, rfl, rfl, rfl, rfl, hx, hy⟩
    have h0 : S (50 + m) ≠ p → nI (bs m (fun m => S (50 + m) == p)) = nI (bs (m + 1) (fun m => S (50 + m) == p)) := fun h3 => by simp [bs, h3]
    have h1 : S (50 + m) = p → nI (bs m (fun m => S (50 + m) == p)) ||| ((1 : Int32) <<< (nI m &&& 31)) = nI (bs (m + 1) (fun m => S (50 + m) == p)) := fun h3 => by rw [or_bit hb (by omega)]; simp [bs, h3]
    have h9 : nI m + 1 = nI (m + 1) := nI_1 m
    rcases four h2 with rfl | rfl | rfl | rfl
    all_goals
      refine And.intro hin ?_
      refine hbr (fun h3 => ?_) (fun h3 => ?_)
      · exact hn _ _ (h0 h3) h9
      · exact hn _ _ (h1 h3) h9
set_option maxRecDepth 100000 in
set_option maxHeartbeats 4000000 in
theorem m_X0_menIn (l : Launch) : ip_Met l yX0_menIn cX0_menIn 4 (some .int) (ip_rm 0) C_X0_menIn := ip_met tb_X0_menIn 400 (by decide +kernel) fl_X0_ok ip_cn0 (ip_cs0) ck_X0_menIn rfl p_X0_menIn
