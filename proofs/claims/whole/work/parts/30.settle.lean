/-! ===== settle, county ===== -/
def sv (c1 c2 : Int32) : Nat := 10 * (nt c1 - 48) + (nt c2 - 48)
theorem sv_ok {c1 c2 : Int32} (h1 : isD1 c1) (h2 : isD2 c1 c2) : (c1 - 48) * 10 + c2 - 48 = nI (sv c1 c2) ∧ sv c1 c2 < 64 := by
  obtain ⟨a, ha, rfl, ea⟩ := ti_of (x := c1) (by have := h1.1; omega)
  obtain ⟨b, hb, rfl, eb⟩ := ti_of (x := c2) (by have := h2.1; omega)
  unfold isD1 at h1
  unfold isD2 at h2
  rw [ea] at h1
  rw [ea, eb] at h2
  have h48a : 48 ≤ a := by omega
  have h48b : 48 ≤ b := by omega
  unfold sv
  rw [nt_n ha, nt_n hb]
  have h2' : (a = 54 → b ≤ 51) ∧ b ≤ 57 := by
    by_cases h : (a : Int) = 54
    · rw [if_pos h] at h2; omega
    · rw [if_neg h] at h2; omega
  refine ⟨?_, by omega⟩
  rw [show nI a - 48 = nI (a - 48) from pk_sub h48a, show (10 : Int32) = nI 10 from rfl, pk_mul, nI_add, show nI ((a - 48) * 10 + b) - 48 = nI ((a - 48) * 10 + b - 48) from pk_sub (a := (a - 48) * 10 + b) (b := 48) (by omega)]
  congr 1
  omega
theorem dg_ok {c : Int32} {lo hi : Nat} (h1 : (48 : Int) ≤ c.toInt) : c - 48 = nI (nt c - 48) := by
  obtain ⟨a, ha, rfl, ea⟩ := ti_of (x := c) (by omega)
  rw [nt_n ha]
  exact pk_sub (a := a) (b := 48) (by omega)
/-- the county behind i men of the text that stands in g from a on -/
def stl (S : Nat → Nat) (g : Nat → Int32) (a m : Nat) : Nat → Nat → Nat
  | 0 => va_up (va_up (va_up S 1 (sv (g (a + 1)) (g (a + 2)))) 2 (nt (g (a + 3)) - 48)) 3 m
  | i + 1 => va_up (va_up (va_up (stl S g a m i) (40 + i) (kdB (g (a + 5 * i + 5)))) (50 + i) (nt (g (a + 5 * i + 6)) - 48)) (60 + i) (sv (g (a + 5 * i + 7)) (g (a + 5 * i + 8)))
theorem stl_out (S : Nat → Nat) (g : Nat → Int32) (a m : Nat) : ∀ i, i ≤ 4 → ∀ j, j ≠ 1 → j ≠ 2 → j ≠ 3 → (j < 40 ∨ 70 ≤ j) → stl S g a m i j = S j
  | 0, _, j, h1, h2, h3, _ => by simp only [stl, va_up]; rw [if_neg h3, if_neg h2, if_neg h1]
  | i + 1, hi, j, h1, h2, h3, h4 => by
    simp only [stl, va_up]
    rw [if_neg (by omega), if_neg (by omega), if_neg (by omega)]
    exact stl_out S g a m i (by omega) j h1 h2 h3 h4
theorem stl_123 (S : Nat → Nat) (g : Nat → Int32) (a m : Nat) : ∀ i, i ≤ 4 → stl S g a m i 1 = sv (g (a + 1)) (g (a + 2)) ∧ stl S g a m i 2 = nt (g (a + 3)) - 48 ∧ stl S g a m i 3 = m
  | 0, _ => ⟨rfl, rfl, rfl⟩
  | i + 1, hi => by
    have ih := stl_123 S g a m i (by omega)
    simp only [stl, va_up]
    rw [if_neg (by omega), if_neg (by omega), if_neg (by omega), if_neg (by omega), if_neg (by omega), if_neg (by omega), if_neg (by omega), if_neg (by omega), if_neg (by omega)]
    exact ih
theorem wfH_s {S : Nat → Nat} (h : wfH S) (g : Nat → Int32) (a m i : Nat) (hi : i ≤ 4) : wfH (stl S g a m i) := fun k hk => by
  rw [stl_out S g a m i hi (10 + k) (by omega) (by omega) (by omega) (by omega), stl_out S g a m i hi (20 + k) (by omega) (by omega) (by omega) (by omega), stl_out S g a m i hi (30 + k) (by omega) (by omega) (by omega) (by omega)]
  exact h k hk
def C_X1_settle : ip_C := fun vs hp K => ∃ tc S G, ∃ (k a m : Nat), k < 4 ∧ 1 ≤ m ∧ m ≤ 4 ∧ a + (4 + 5 * m) ≤ S (30 + k) ∧ vs = [.ref (2 + 2 * k), .int (nI a), .int (nI (4 + 5 * m)), .ref 10] ∧ hp = hpC tc S G ∧ wfH S ∧ (∀ t, t < 4 + 5 * m → goP (G k) a t) ∧ ∀ T, T = stl S (G k) a m m → K none (hpC tc T G)
def cs_X1_settle : List ip_G := [(33, 2, 0, C_X1_setAt), (15, 2, 5, C_X5_valueAt), (46, 2, 0, C_J9_min), (59, 1, 0, C_X1_kindBy)]
def I_X1_settle (tc : Int32) (S : Nat → Nat) (G : Nat → Nat → Int32) (k a m : Nat) : Nat → Nat → ip_P := fun pc kk L st hp => pc = 41 ∧ ∃ (i : Nat) (y : Int32) (l5 l6 : Option Value), i ≤ m ∧ kk = m - i ∧ L = [some (.ref (2 + 2 * k)), some (.int (nI a)), some (.int (nI (4 + 5 * m))), some (.ref 10), some (.int y), l5, l6] ∧ st = [] ∧ hp = hpC tc (stl S (G k) a m i) G ∧ y = nI i
theorem go_man {g : Nat → Int32} {a i t r : Nat} (h : goP g a t) (ht : t = 4 + 5 * i + r) (hr : r < 5) : mgo (g (a + t)) (g (a + 3)) (g (a + t - 1)) r := by
  rcases h with q | q | q | q | q
  · exact absurd q.1 (by omega)
  · exact absurd q.1 (by omega)
  · exact absurd q.1 (by omega)
  · exact absurd q.1 (by omega)
  · have e : (t - 4) % 5 = r := by omega
    rw [e] at q
    exact q.2.2
theorem mgo_2 {c p3 prev : Int32} (h : mgo c p3 prev 2) : 48 ≤ c.toInt ∧ c.toInt < p3.toInt := by
  rcases h with q | q | q | q | q
  · exact absurd q.1 (by decide)
  · exact absurd q.1 (by decide)
  · exact q.2
  · exact absurd q.1 (by decide)
  · exact absurd q.1 (by decide)
theorem mgo_3 {c p3 prev : Int32} (h : mgo c p3 prev 3) : isD1 c := by
  rcases h with q | q | q | q | q
  · exact absurd q.1 (by decide)
  · exact absurd q.1 (by decide)
  · exact absurd q.1 (by decide)
  · exact q.2
  · exact absurd q.1 (by decide)
theorem mgo_4 {c p3 prev : Int32} (h : mgo c p3 prev 4) : isD2 prev c := by
  rcases h with q | q | q | q | q
  · exact absurd q.1 (by decide)
  · exact absurd q.1 (by decide)
  · exact absurd q.1 (by decide)
  · exact absurd q.1 (by decide)
  · exact q.2
set_option maxHeartbeats 8000000 in
theorem pa_X1_settle {tc : Int32} {S : Nat → Nat} {G : Nat → Nat → Int32} {k a m : Nat} {K : ip_K} (hk : k < 4) (hm1 : 1 ≤ m) (hm4 : m ≤ 4) (ham : a + (4 + 5 * m) ≤ S (30 + k)) (hwh : wfH S) (hgo : ∀ t, t < 4 + 5 * m → goP (G k) a t) : ip_wp fl_X1 [] cs_X1_settle none tb_X1_settle (I_X1_settle tc S G k a m) K 400 none false tb_X1_settle (ip_L0 7 [.ref (2 + 2 * k), .int (nI a), .int (nI (4 + 5 * m)), .ref 10]) [] (hpC tc S G) := by
  have hz := (hwh k hk).2.2
  have g1 : isD1 (G k (a + 1)) := by
    rcases hgo 1 (by omega) with q | q | q | q | q
    · exact absurd q.1 (by decide)
    · exact q.2
    · exact absurd q.1 (by decide)
    · exact absurd q.1 (by decide)
    · exact absurd q.1 (by decide)
  have g2 : isD2 (G k (a + 1)) (G k (a + 2)) := by
    rcases hgo 2 (by omega) with q | q | q | q | q
    · exact absurd q.1 (by decide)
    · exact absurd q.1 (by decide)
    · exact q.2
    · exact absurd q.1 (by decide)
    · exact absurd q.1 (by decide)
  have g3 : 50 ≤ (G k (a + 3)).toInt ∧ (G k (a + 3)).toInt ≤ 54 := by
    rcases hgo 3 (by omega) with q | q | q | q | q
    · exact absurd q.1 (by decide)
    · exact absurd q.1 (by decide)
    · exact absurd q.1 (by decide)
    · exact q.2
    · exact absurd q.1 (by decide)
  obtain ⟨s1, s2⟩ := sv_ok g1 g2
  obtain ⟨T, hT⟩ : ∃ T, T = sv (G k (a + 1)) (G k (a + 2)) := ⟨_, rfl⟩
  rw [← hT] at s1
  have d3 : G k (a + 3) - 48 = nI (nt (G k (a + 3)) - 48) := dg_ok (lo := 0) (hi := 0) (by omega)
  have e3 : nI a + 3 = nI (a + 3) := nI_add a 3
  have p3 : vat (va_up S 1 T) G k (nI a + 3).toInt = G k (a + 3) := by
    rw [e3, ti_n (by omega)]
    exact vat_in (by show a + 3 < va_up S 1 _ (30 + k); simp only [va_up]; rw [if_neg (by omega)]; omega)
  have w1 : wfH (va_up S 1 T) := fun j hj => by
    have e : ∀ i, i ≠ 1 → va_up S 1 T i = S i := fun i hi => by simp only [va_up]; rw [if_neg hi]
    rw [e _ (by omega), e _ (by omega), e _ (by omega)]; exact hwh j hj
  have ediv : (nI (4 + 5 * m) - 4) / 5 = nI m := by
    rw [show nI (4 + 5 * m) - 4 = nI (4 + 5 * m - 4) from pk_sub (a := 4 + 5 * m) (b := 4) (by omega)]
    rw [show (5 : Int32) = nI 5 from rfl, pk_div (by omega) (by decide) (by decide)]
    congr 1
    omega
  have em := ti_n (n := m) (by omega)
  have t4 : (4 : Int32).toInt = 4 := by decide
  have ha1 : nI a + 1 = nI (a + 1) := nI_1 a
  have haS : a + 1 + 1 < S (30 + k) := by omega
  rcases four hk with rfl | rfl | rfl | rfl
  all_goals
    refine Exists.intro tc ⟨S, G, _, a + 1, hk, haS, (by show [Value.ref _, Value.int (nI a + 1)] = _; rw [ha1]), rfl, hwh, ?_⟩
    rw [s1]
    refine Exists.intro tc ⟨va_up S 1 T, G, _, _, hk, rfl, rfl, w1, ?_⟩
    rw [p3]
    refine And.intro (by decide) ?_
    rw [d3, ediv]
    refine Exists.intro _ ⟨_, rfl, fun r hr => ?_⟩
    have er : r = nI m := by rw [fa_eq, hr, em, t4]; omega
    subst er
    subst hT
    exact Exists.intro m ⟨trivial, rfl, 0, _, none, none, Nat.zero_le _, rfl, rfl, rfl, rfl, rfl⟩

set_option maxHeartbeats 8000000 in
theorem pb_X1_settle {tc : Int32} {S : Nat → Nat} {G : Nat → Nat → Int32} {k a m : Nat} {K : ip_K} (hk : k < 4) (hm1 : 1 ≤ m) (hm4 : m ≤ 4) (ham : a + (4 + 5 * m) ≤ S (30 + k)) (hwh : wfH S) (hgo : ∀ t, t < 4 + 5 * m → goP (G k) a t) (hK : K none (hpC tc (stl S (G k) a m m) G)) : ∀ (pc kk : Nat) (L : ip_L) (st : List Value) (hp : ip_H), I_X1_settle tc S G k a m pc kk L st hp → ip_wp fl_X1 [] cs_X1_settle none tb_X1_settle (I_X1_settle tc S G k a m) K 400 (some kk) true (ip_find pc tb_X1_settle) L st hp := by
  have hz := (hwh k hk).2.2
  rintro pc kk L st hp ⟨rfl, i, y, l5, l6, hi, rfl, rfl, rfl, rfl, rfl⟩
  have e3 := (stl_123 S (G k) a m i (by omega)).2.2
  have hbr : ∀ {X Y : Prop}, (m ≤ i → X) → (i < m → Y) → (nI (stl S (G k) a m i 3) ≤ nI i → X) ∧ (¬ nI (stl S (G k) a m i 3) ≤ nI i → Y) := fun f g => by rw [e3]; exact pk_le m i f g
  have fin : m ≤ i → K none (hpC tc (stl S (G k) a m i) G) := fun h => by
    obtain rfl : i = m := by omega
    exact hK
  refine hbr (fun h => fin h) (fun h => ?_)
  have hi4 : i < 4 := by omega
  have eL : nI a + 4 + nI i * 5 + 1 = nI (a + 5 * i + 5) := by
    rw [show (4 : Int32) = nI 4 from rfl, nI_add, show (5 : Int32) = nI 5 from rfl, pk_mul, nI_add, nI_1]
    congr 1
    omega
  have ws : ∀ S', (∀ j, j < 40 → S' j = stl S (G k) a m i j) → wfH S' ∧ S' (30 + k) = S (30 + k) := fun S' hS' => by
    have hw := wfH_s hwh (G k) a m i (by omega)
    refine ⟨fun j hj => ?_, ?_⟩
    · rw [hS' _ (by omega), hS' _ (by omega), hS' _ (by omega)]; exact hw j hj
    · rw [hS' _ (by omega), stl_out S (G k) a m i (by omega) (30 + k) (by omega) (by omega) (by omega) (by omega)]
  have r2 := mgo_2 (go_man (i := i) (hgo (4 + 5 * i + 2) (by omega)) rfl (by decide))
  have r3 := mgo_3 (go_man (i := i) (hgo (4 + 5 * i + 3) (by omega)) rfl (by decide))
  have r4 := mgo_4 (go_man (i := i) (hgo (4 + 5 * i + 4) (by omega)) rfl (by decide))
  rw [show a + (4 + 5 * i + 2) = a + 5 * i + 6 by omega] at r2
  rw [show a + (4 + 5 * i + 3) = a + 5 * i + 7 by omega] at r3
  rw [show a + (4 + 5 * i + 4) - 1 = a + 5 * i + 7 by omega, show a + (4 + 5 * i + 4) = a + 5 * i + 8 by omega] at r4
  obtain ⟨u1, u2⟩ := sv_ok r3 r4
  have d6 : G k (a + 5 * i + 6) - 48 = nI (nt (G k (a + 5 * i + 6)) - 48) := dg_ok (lo := 0) (hi := 0) r2.1
  have val : ∀ S' (j : Nat), (∀ j, j < 40 → S' j = stl S (G k) a m i j) → j < S (30 + k) → vat S' G k (nI j).toInt = G k j := fun S' j hS' hj => by
    rw [ti_n (by omega)]
    exact vat_in (by rw [(ws S' hS').2]; exact hj)
  have hn : ∀ (y : Int32) (l5 l6 : Option Value) (KD PL LI : Nat), KD = kdB (G k (a + 5 * i + 5)) → PL = nt (G k (a + 5 * i + 6)) - 48 → LI = sv (G k (a + 5 * i + 7)) (G k (a + 5 * i + 8)) → y = nI (i + 1) → ∃ kk, ip_lt kk (some (m - i)) ∧ I_X1_settle tc S G k a m 41 kk [some (.ref (2 + 2 * k)), some (.int (nI a)), some (.int (nI (4 + 5 * m))), some (.ref 10), some (.int y), l5, l6] [] (hpC tc (va_up (va_up (va_up (stl S (G k) a m i) (40 + i) KD) (50 + i) PL) (60 + i) LI) G) := fun y l5 l6 KD PL LI h1 h2 h3 hy => by
    subst h1 h2 h3
    exact ⟨m - (i + 1), by show _ < _; omega, rfl, i + 1, y, l5, l6, by omega, rfl, rfl, rfl, rfl, hy⟩
  have h9 : nI i + 1 = nI (i + 1) := nI_1 i
  have hin : vp_in (nI i) 4 := pk_in i 4 hi4
  obtain ⟨KD, hKD⟩ : ∃ x, x = kdB (G k (a + 5 * i + 5)) := ⟨_, rfl⟩
  obtain ⟨PL, hPL⟩ : ∃ x, x = nt (G k (a + 5 * i + 6)) - 48 := ⟨_, rfl⟩
  obtain ⟨LI, hLI⟩ : ∃ x, x = sv (G k (a + 5 * i + 7)) (G k (a + 5 * i + 8)) := ⟨_, rfl⟩
  rw [← hLI] at u1
  rw [← hPL] at d6
  have f6 : ∀ j, j < 40 → va_up (stl S (G k) a m i) (40 + i) KD j = stl S (G k) a m i j := fun j hj => by simp only [va_up]; rw [if_neg (by omega)]
  have f7 : ∀ j, j < 40 → va_up (va_up (stl S (G k) a m i) (40 + i) KD) (50 + i) PL j = stl S (G k) a m i j := fun j hj => by simp only [va_up]; rw [if_neg (by omega), if_neg (by omega)]
  have q5 : vat (stl S (G k) a m i) G k (nI a + 4 + nI i * 5 + 1).toInt = G k (a + 5 * i + 5) := by rw [eL]; exact val _ _ (fun _ _ => rfl) (by omega)
  have l6' : nI a + 4 + nI i * 5 + 1 + 1 = nI (a + 5 * i + 6) := by rw [eL]; exact nI_1 _
  have l7' : nI a + 4 + nI i * 5 + 1 + 2 = nI (a + 5 * i + 7) := by rw [eL]; exact nI_add (a + 5 * i + 5) 2
  have q6 : vat (va_up (stl S (G k) a m i) (40 + i) KD) G k (nI a + 4 + nI i * 5 + 1 + 1).toInt = G k (a + 5 * i + 6) := by rw [l6']; exact val _ _ f6 (by omega)
  have v5 := (ws (stl S (G k) a m i) (fun _ _ => rfl)).1
  have v6 := (ws _ f6).1
  have v7 := (ws _ f7).1
  have z7 : a + 5 * i + 7 + 1 < va_up (va_up (stl S (G k) a m i) (40 + i) KD) (50 + i) PL (30 + k) := by rw [(ws _ f7).2]; omega
  have hn : ∀ (y : Int32) (l5 l6 : Option Value), y = nI (i + 1) → _ := fun y l5 l6 => hn y l5 l6 KD PL LI hKD hPL hLI
  clear hPL hLI hgo hK fin r2 r3 r4
  clear ws val f6 f7 hbr e3 eL l6' hz
  generalize stl S (G k) a m i = T at hn q5 q6 v5 v6 v7 z7 ⊢
  rcases four hk with rfl | rfl | rfl | rfl
  all_goals
    rcases four hi4 with rfl | rfl | rfl | rfl
    all_goals
      refine And.intro hin ?_
      refine Exists.intro tc ⟨T, G, _, _, hk, rfl, rfl, v5, ?_⟩
      rw [q5]
      refine Exists.intro _ ⟨rfl, ?_⟩
      rw [← hKD]
      refine Exists.intro tc ⟨va_up T _ KD, G, _, _, hk, rfl, rfl, v6, ?_⟩
      rw [q6]
      refine Exists.intro tc ⟨va_up (va_up T _ KD) _ PL, G, _, _, hk, z7, (by show [Value.ref _, Value.int (nI a + 4 + nI _ * 5 + 1 + 2)] = _; rw [l7']), (by rw [d6]; rfl), v7, ?_⟩
      rw [u1, d6]
      exact hn _ _ _ h9

theorem p_X1_settle : ip_Pf fl_X1 [] cs_X1_settle none tb_X1_settle 7 C_X1_settle := by
  rintro _ _ K ⟨tc, S, G, k, a, m, hk, hm1, hm4, ham, rfl, rfl, hwh, hgo, hK⟩
  exact ⟨Nat.le_of_ble_eq_true rfl, I_X1_settle tc S G k a m, pa_X1_settle hk hm1 hm4 ham hwh hgo, pb_X1_settle hk hm1 hm4 ham hwh hgo (hK _ rfl)⟩
set_option maxRecDepth 100000 in
set_option maxHeartbeats 4000000 in
theorem m_X1_settle (l : Launch) : ip_Met l yX1_settle cX1_settle 7 none (ip_rm 3) C_X1_settle := ip_met tb_X1_settle 400 (by decide +kernel) fl_X1_ok ip_cn0 (ip_cs1 (ip_gsS (m_X1_setAt l) (ip_in [271, 272, 40, 273] (by decide +kernel) (by decide +kernel)) ⟨by decide +kernel, by decide +kernel, by decide +kernel⟩ ⟨rfl, rfl, Nat.le_of_ble_eq_true rfl, Nat.le_of_ble_eq_true rfl⟩) (ip_cs1 (ip_gsV (m_X5_valueAt l) (ip_in [255, 256, 257, 38, 258] (by decide +kernel) (by decide +kernel)) rfl ⟨by decide +kernel, by decide +kernel, by decide +kernel⟩ ⟨rfl, rfl, Nat.le_of_ble_eq_true rfl, Nat.le_of_ble_eq_true rfl⟩) (ip_cs1 (ip_gsMin (ip_in [274, 275, 41, 276] (by decide +kernel) (by decide +kernel)) ⟨Nat.le_of_ble_eq_true rfl, Nat.le_of_ble_eq_true rfl⟩) (ip_cs1 (ip_gsS (m_X1_kindBy l) (ip_in [277, 278, 40, 279] (by decide +kernel) (by decide +kernel)) ⟨by decide +kernel, by decide +kernel, by decide +kernel⟩ ⟨rfl, rfl, Nat.le_of_ble_eq_true rfl, Nat.le_of_ble_eq_true rfl⟩) (ip_cs0))))) ck_X1_settle rfl p_X1_settle
