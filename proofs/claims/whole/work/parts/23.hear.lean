/-! ===== storms that are told ===== -/
def okp (S : Nat → Nat) (G : Nat → Nat → Int32) (k a t : Nat) : Bool := decide (inI (G k (a + 2 * t)) (S 2))
def okq (G : Nat → Nat → Int32) (k a t : Nat) : Bool := decide (inI (G k (a + 2 * t + 1)) 6)
def pairR (S : Nat → Nat) (G : Nat → Nat → Int32) (k a n : Nat) : Int32 := match lst (fun t => !(okp S G k a t && okq G k a t)) n with
  | none => 0
  | some t => if okp S G k a t then -2 else -1
theorem vat_t {S : Nat → Nat} {G : Nat → Nat → Int32} {k x : Nat} {f g : Nat → Int32} (hk : k < 4) (i : Int) : vat (va_up S 5 x) (va_up (va_up G 7 f) 8 g) k i = vat S G k i := by
  unfold vat
  have e1 : va_up S 5 x (30 + k) = S (30 + k) := by simp only [va_up]; rw [if_neg (by omega)]
  have e2 : va_up (va_up G 7 f) 8 g k = G k := by simp only [va_up]; rw [if_neg (by omega), if_neg (by omega)]
  rw [e1, e2]
theorem vat_in {S : Nat → Nat} {G : Nat → Nat → Int32} {k j : Nat} (h : j < S (30 + k)) : vat S G k (j : Int) = G k j := by
  unfold vat
  rw [if_pos ⟨by omega, by omega⟩]
  rfl
theorem wfH_5 {S : Nat → Nat} (h : wfH S) (x : Nat) : wfH (va_up S 5 x) := fun k hk => by
  have e : ∀ j, j ≠ 5 → va_up S 5 x j = S j := fun j hj => by simp only [va_up]; rw [if_neg hj]
  rw [e _ (by omega), e _ (by omega), e _ (by omega)]; exact h k hk
def C_X7_hearPairs : ip_C := fun vs hp K => ∃ tc S G, ∃ k a n : Nat, k < 4 ∧ n ≤ 20 ∧ a + 2 * n ≤ S (30 + k) ∧ vs = [.ref 0, .ref (2 + 2 * k), .int (nI a), .int (nI n)] ∧ hp = hpC tc S G ∧ wfH S ∧ S 2 ≤ 6 ∧
  (pairR S G k a n ≠ 0 → ∀ x f g, K (some (.int (pairR S G k a n))) (hpC tc (va_up S 5 x) (va_up (va_up G 7 f) 8 g))) ∧
  (pairR S G k a n = 0 → (∀ t, t < n → inI (G k (a + 2 * t)) (S 2) ∧ inI (G k (a + 2 * t + 1)) 6) → ∀ f g, (∀ t, t < n → f t = G k (a + 2 * t) ∧ g t = G k (a + 2 * t + 1)) → K (some (.int 0)) (hpC tc (va_up S 5 n) (va_up (va_up G 7 f) 8 g)))
def cs_X7_hearPairs : List ip_G := [(181, 2, 5, C_X5_valueAt), (107, 2, 1, C_X0_hasParish), (110, 1, 0, C_X7_isQuestion), (282, 3, 6, C_X6_add)]
def I_X7_hearPairs (tc : Int32) (S : Nat → Nat) (G : Nat → Nat → Int32) (k a n : Nat) : Nat → Nat → ip_P := fun pc kk L st hp => pc = 11 ∧ ∃ (t : Nat) (y : Int32) (l5 l6 : Option Value) (f g : Nat → Int32), t ≤ n ∧ kk = n - t ∧ L = [some (.ref 0), some (.ref (2 + 2 * k)), some (.int (nI a)), some (.int (nI n)), some (.int y), l5, l6] ∧ st = [] ∧ hp = hpC tc (va_up S 5 t) (va_up (va_up G 7 f) 8 g) ∧ y = nI t ∧ (∀ i, i < t → f i = G k (a + 2 * i) ∧ g i = G k (a + 2 * i + 1)) ∧ ∀ i, i < t → okp S G k a i = true ∧ okq G k a i = true
set_option maxHeartbeats 4000000 in
theorem p_X7_hearPairs : ip_Pf fl_X7 cn_X7 cs_X7_hearPairs (some .int) tb_X7_hearPairs 7 C_X7_hearPairs := by
  rintro _ _ K ⟨tc, S, G, k, a, n, hk, hn, han, rfl, rfl, hwh, w2, hK1, hK0⟩
  have hz := (hwh k hk).2.2
  refine ⟨Nat.le_of_ble_eq_true rfl, I_X7_hearPairs tc S G k a n, ?_, ?_⟩
  · exact Exists.intro n ⟨trivial, rfl, 0, _, none, none, G 7, G 8, by omega, rfl, rfl, rfl, rfl, rfl, fun i hi => absurd hi (by omega), fun i hi => absurd hi (by omega)⟩
  · rintro pc kk L st hp ⟨rfl, t, y, l5, l6, f, g, ht, rfl, rfl, rfl, rfl, rfl, hfg, hok⟩
    refine pk_le n t (fun h => ?_) (fun h => ?_)
    · obtain rfl : t = n := by omega
      refine hK0 ?_ (fun i hi => ⟨of_decide_eq_true (hok i hi).1, of_decide_eq_true (hok i hi).2⟩) f g hfg
      unfold pairR
      rw [lst_none (fun i hi => by rw [(hok i hi).1, (hok i hi).2]; rfl)]
    have e1 : nI a + 2 * nI t = nI (a + 2 * t) := by rw [show (2 : Int32) = nI 2 from rfl, pk_mul, nI_add]
    have e2 : nI a + 2 * nI t + 1 = nI (a + 2 * t + 1) := by rw [e1, nI_1]
    have p1 : vat (va_up S 5 t) (va_up (va_up G 7 f) 8 g) k (nI a + 2 * nI t).toInt = G k (a + 2 * t) := by rw [e1, ti_n (by omega), vat_t hk, vat_in (by omega)]
    have p2 : vat (va_up S 5 t) (va_up (va_up G 7 f) 8 g) k (nI a + 2 * nI t + 1).toInt = G k (a + 2 * t + 1) := by rw [e2, ti_n (by omega), vat_t hk, vat_in (by omega)]
    have w5 : wfH (va_up S 5 t) := wfH_5 hwh t
    have bad : ∀ c : Int32, (okp S G k a t && okq G k a t) = false → (if okp S G k a t then (-2 : Int32) else -1) = c → ¬ c = 0 → K (some (.int c)) (hpC tc (va_up S 5 t) (va_up (va_up G 7 f) 8 g)) := fun c h1 h2 h3 => by
      have e : pairR S G k a n = c := by
        unfold pairR
        rw [lst_some (s := t) (by rw [h1]; rfl) (fun i hi => by rw [(hok i hi).1, (hok i hi).2]; rfl) h]
        exact h2
      rw [← e]
      exact hK1 (by rw [e]; exact h3) t f g
    have good : okp S G k a t = true → okq G k a t = true → ∀ (u v : Int32), u = G k (a + 2 * t) → v = G k (a + 2 * t + 1) → ∀ (l5 l6 : Option Value) (y : Int32), y = nI (t + 1) → ∃ kk, ip_lt kk (some (n - t)) ∧ I_X7_hearPairs tc S G k a n 11 kk [some (.ref 0), some (.ref (2 + 2 * k)), some (.int (nI a)), some (.int (nI n)), some (.int y), l5, l6] [] (hpC tc (va_up S 5 (t + 1)) (va_up (va_up G 7 (upd f t u)) 8 (upd g t v))) := fun h1 h2 u v hu hv l5 l6 y hy => by
      refine ⟨n - (t + 1), by show _ < _; omega, rfl, t + 1, y, l5, l6, _, _, by omega, rfl, rfl, rfl, rfl, hy, fun i hi => ?_, fun i hi => ?_⟩
      · rcases Nat.lt_or_ge i t with q | q
        · rw [pk_un (by omega), pk_un (by omega)]; exact hfg i q
        · obtain rfl : i = t := by omega
          rw [pk_us, pk_us]; exact ⟨hu, hv⟩
      · rcases Nat.lt_or_ge i t with q | q
        · exact hok i q
        · obtain rfl : i = t := by omega
          exact ⟨h1, h2⟩
    have h9 : nI t + 1 = nI (t + 1) := nI_1 t
    have ht20 : t < 20 := by omega
    rcases four hk with rfl | rfl | rfl | rfl
    all_goals
      refine Exists.intro tc ⟨va_up S 5 t, va_up (va_up G 7 f) 8 g, _, _, hk, rfl, rfl, w5, ?_⟩
      refine Exists.intro tc ⟨va_up S 5 t, va_up (va_up G 7 f) 8 g, _, _, hk, rfl, rfl, w5, ?_⟩
      rw [p1, p2]
      refine Exists.intro tc ⟨va_up S 5 t, va_up (va_up G 7 f) 8 g, _, rfl, rfl, w2, fun b hb => ?_⟩
      refine ip_bn (fun h1 => ?_) (fun h1 => ?_)
      · have o1 : okp S G _ a t = true := decide_eq_true (hb.mp h1)
        refine Exists.intro _ ⟨rfl, fun b2 hb2 => ?_⟩
        refine ip_bn (fun h2 => ?_) (fun h2 => ?_)
        · have o2 : okq G _ a t = true := decide_eq_true (hb2.mp h2)
          refine Exists.intro tc ⟨va_up S 5 t, va_up (va_up G 7 f) 8 g, _, _, rfl, rfl, ht20, fun hp' e => ?_⟩
          subst e
          exact good o1 o2 _ _ rfl rfl _ _ _ h9
        · have o2 : okq G _ a t = false := decide_eq_false (fun z => by rw [hb2.mpr z] at h2; cases h2)
          exact bad (-2) (by rw [o1, o2]; rfl) (by rw [o1]; rfl) (by decide)
      · have o1 : okp S G _ a t = false := decide_eq_false (fun z => by rw [hb.mpr z] at h1; cases h1)
        exact bad (-1) (by rw [o1]; rfl) (by rw [o1]; rfl) (by decide)
set_option maxRecDepth 100000 in
set_option maxHeartbeats 4000000 in
theorem m_X7_hearPairs (l : Launch) : ip_Met l yX7_hearPairs cX7_hearPairs 7 (some .int) (ip_rm 2) C_X7_hearPairs := ip_met tb_X7_hearPairs 400 (by decide +kernel) fl_X7_ok cn_X7_ok (ip_cs1 (ip_gsV (m_X5_valueAt l) (ip_in [369, 256, 257, 38, 258] (by decide +kernel) (by decide +kernel)) rfl ⟨by decide +kernel, by decide +kernel, by decide +kernel⟩ ⟨rfl, rfl, Nat.le_of_ble_eq_true rfl, Nat.le_of_ble_eq_true rfl⟩) (ip_cs1 (ip_gsV (m_X0_hasParish l) (ip_in [303, 304, 305, 33, 306] (by decide +kernel) (by decide +kernel)) rfl ⟨by decide +kernel, by decide +kernel, by decide +kernel⟩ ⟨rfl, rfl, Nat.le_of_ble_eq_true rfl, Nat.le_of_ble_eq_true rfl⟩) (ip_cs1 (ip_gsS (m_X7_isQuestion l) (ip_in [315, 316, 32, 317] (by decide +kernel) (by decide +kernel)) ⟨by decide +kernel, by decide +kernel, by decide +kernel⟩ ⟨rfl, rfl, Nat.le_of_ble_eq_true rfl, Nat.le_of_ble_eq_true rfl⟩) (ip_cs1 (ip_gsV (m_X6_add l) (ip_in [370, 371, 372, 36, 373] (by decide +kernel) (by decide +kernel)) rfl ⟨by decide +kernel, by decide +kernel, by decide +kernel⟩ ⟨rfl, rfl, Nat.le_of_ble_eq_true rfl, Nat.le_of_ble_eq_true rfl⟩) (ip_cs0))))) ck_X7_hearPairs rfl p_X7_hearPairs
