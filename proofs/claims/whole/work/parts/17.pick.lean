/-! ===== choosing among sets; counting; parts in least terms ===== -/
def ob (o : Option Nat) : Int32 := match o with
  | none => -9
  | some b => nI b
def lst (f : Nat → Bool) : Nat → Option Nat
  | 0 => none
  | n + 1 => match lst f n with
    | some a => some a
    | none => if f n then some n else none
theorem lst_none {f : Nat → Bool} : ∀ {n : Nat}, (∀ i, i < n → f i = false) → lst f n = none
  | 0, _ => rfl
  | n + 1, h => by simp only [lst]; rw [lst_none (fun i hi => h i (by omega)), h n (by omega)]; rfl
theorem lst_some {f : Nat → Bool} {s : Nat} (hs : f s = true) (hn : ∀ i, i < s → f i = false) : ∀ {n : Nat}, s < n → lst f n = some s
  | n + 1, h => by
    simp only [lst]
    rcases Nat.lt_or_ge s n with q | q
    · rw [lst_some hs hn q]
    · obtain rfl : s = n := by omega
      rw [lst_none hn, hs]; rfl
/-- how many of the six -/
def pc6 (a : Nat) : Nat := fb_ct (fun i => a.testBit i) 6
theorem pc6_le (a : Nat) : pc6 a ≤ 6 := fb_ct_le _ 6
def fqB (f : Nat → Bool) : Nat → Option Nat
  | 0 => none
  | n + 1 => if f n && (match fqB f n with
    | none => true
    | some b => decide (pc6 n < pc6 b)) then some n else fqB f n
def fqW (o : Option Nat) : Nat := match o with
  | none => 7
  | some b => pc6 b
def ush (x s : Int32) : Int32 := (x.toUInt32 >>> (s.toUInt32 &&& Int32.toUInt32 31)).toInt32
def bcA (x : Int32) : Int32 := x - (ush x 1 &&& 1431655765)
def bcB (x : Int32) : Int32 := (x &&& 858993459) + (ush x 2 &&& 858993459)
def bcC (x : Int32) : Int32 := (x + ush x 4) &&& 252645135
def bcD (x : Int32) : Int32 := x + ush x 8
def bcE (x : Int32) : Int32 := x + ush x 16
theorem bc_ok : ∀ a : Fin 64, bcE (bcD (bcC (bcB (bcA (nI a.val))))) &&& 63 = nI (pc6 a.val) := by decide +kernel
def C_J6_bitCount : ip_C := fun vs hp K => ∃ a : Nat, a < 64 ∧ vs = [.int (nI a)] ∧ K (some (.int (nI (pc6 a)))) hp
def cs_J6_bitCount : List ip_G := []
theorem p_J6_bitCount : ip_Pf [] cn_J6 cs_J6_bitCount (some .int) tb_J6_bitCount_0f7a4 1 C_J6_bitCount := ip_pf0 (by
  rintro _ hp K ⟨a, ha, rfl, hK⟩
  refine ⟨Nat.le_of_ble_eq_true rfl, ?_⟩
  rw [← bc_ok ⟨a, ha⟩] at hK
  exact hK)
set_option maxRecDepth 100000 in
set_option maxHeartbeats 4000000 in
theorem m_J6_bitCount (l : Launch) : ip_Met l yJ6_bitCount_0f7a4 cJ6_bitCount_0f7a4 1 (some .int) (ip_rm 0) C_J6_bitCount := ip_met tb_J6_bitCount_0f7a4 400 (by decide +kernel) ip_fl0 cn_J6_ok (ip_cs0) ck_J6_bitCount_0f7a4 rfl p_J6_bitCount
def C_X7_leastOf : ip_C := fun vs hp K => ∃ f : Nat → Bool, vs = [.long (lN (bs 64 f))] ∧ K (some (.int (ob (lst f 64)))) hp
def cs_X7_leastOf : List ip_G := [(288, 2, 0, C_X7_holdsSet)]
def I_X7_leastOf (f : Nat → Bool) (hp0 : ip_H) : Nat → Nat → ip_P := fun pc k L st hp => pc = 2 ∧ ∃ (s : Nat) (y : Int32), s ≤ 64 ∧ k = 64 - s ∧ L = [some (.long (lN (bs 64 f))), none, some (.int y)] ∧ st = [] ∧ hp = hp0 ∧ y = nI s ∧ ∀ i, i < s → f i = false
theorem p_X7_leastOf : ip_Pf fl_X7 cn_X7 cs_X7_leastOf (some .int) tb_X7_leastOf 3 C_X7_leastOf := by
  rintro _ hp0 K ⟨f, rfl, hK⟩
  refine ⟨Nat.le_of_ble_eq_true rfl, I_X7_leastOf f hp0, ?_, ?_⟩
  · exact Exists.intro 64 ⟨trivial, rfl, 0, _, by omega, rfl, rfl, rfl, rfl, rfl, fun i hi => absurd hi (by omega)⟩
  · rintro pc k L st hp ⟨rfl, s, y, hs, rfl, rfl, rfl, rfl, rfl, hno⟩
    refine pk_le 64 s (fun h => ?_) (fun h => ?_)
    · rw [lst_none (fun i hi => hno i (by omega))] at hK
      exact hK
    refine Exists.intro (bs 64 f) ⟨s, h, rfl, ?_⟩
    rw [show (bs 64 f).testBit s = f s by rw [bs_bit]; simp [h]]
    refine ip_bt (fun h3 => ?_) (fun h3 => ?_)
    · exact Exists.intro (64 - (s + 1)) ⟨by show _ < _; omega, rfl, s + 1, _, by omega, rfl, rfl, rfl, rfl, nI_1 s, fun i hi => by
        rcases Nat.lt_or_ge i s with q | q
        · exact hno i q
        · obtain rfl : i = s := by omega
          exact h3⟩
    · rw [lst_some h3 hno h] at hK
      exact hK
set_option maxRecDepth 100000 in
set_option maxHeartbeats 4000000 in
theorem m_X7_leastOf (l : Launch) : ip_Met l yX7_leastOf cX7_leastOf 3 (some .int) (ip_rm 1) C_X7_leastOf := ip_met tb_X7_leastOf 400 (by decide +kernel) fl_X7_ok cn_X7_ok (ip_cs1 (ip_gsS (m_X7_holdsSet l) (ip_in [430, 431, 32, 432] (by decide +kernel) (by decide +kernel)) ⟨by decide +kernel, by decide +kernel, by decide +kernel⟩ ⟨rfl, rfl, Nat.le_of_ble_eq_true rfl, Nat.le_of_ble_eq_true rfl⟩) (ip_cs0)) ck_X7_leastOf rfl p_X7_leastOf
def C_X7_countHolding : ip_C := fun vs hp K => ∃ (f : Nat → Bool) (q : Nat), q < 6 ∧ vs = [.long (lN (bs 64 f)), .int (nI q)] ∧ K (some (.int (nI (fb_ct (fun s => f s && s.testBit q) 64)))) hp
def cs_X7_countHolding : List ip_G := [(288, 2, 0, C_X7_holdsSet), (113, 2, 0, C_X7_holds)]
def I_X7_countHolding (f : Nat → Bool) (q : Nat) (hp0 : ip_H) : Nat → Nat → ip_P := fun pc k L st hp => pc = 5 ∧ ∃ (s : Nat) (x y : Int32), s ≤ 64 ∧ k = 64 - s ∧ L = [some (.long (lN (bs 64 f))), none, some (.int (nI q)), some (.int x), some (.int y)] ∧ st = [] ∧ hp = hp0 ∧ x = nI (fb_ct (fun s => f s && s.testBit q) s) ∧ y = nI s
theorem p_X7_countHolding : ip_Pf fl_X7 cn_X7 cs_X7_countHolding (some .int) tb_X7_countHolding 5 C_X7_countHolding := by
  rintro _ hp0 K ⟨f, q, hq, rfl, hK⟩
  refine ⟨Nat.le_of_ble_eq_true rfl, I_X7_countHolding f q hp0, ?_, ?_⟩
  · exact Exists.intro 64 ⟨trivial, rfl, 0, _, _, by omega, rfl, rfl, rfl, rfl, rfl, rfl⟩
  · rintro pc k L st hp ⟨rfl, s, x, y, hs, rfl, rfl, rfl, rfl, rfl, rfl⟩
    refine pk_le 64 s (fun h => ?_) (fun h => ?_)
    · obtain rfl : s = 64 := by omega
      exact hK
    have hn : ∀ x y : Int32, x = nI (fb_ct (fun s => f s && s.testBit q) (s + 1)) → y = nI (s + 1) → ∃ k, ip_lt k (some (64 - s)) ∧ I_X7_countHolding f q hp 5 k [some (.long (lN (bs 64 f))), none, some (.int (nI q)), some (.int x), some (.int y)] [] hp := fun x y hx hy => ⟨64 - (s + 1), by show _ < _; omega, rfl, s + 1, x, y, by omega, rfl, rfl, rfl, rfl, hx, hy⟩
    refine Exists.intro (bs 64 f) ⟨s, h, rfl, ?_⟩
    rw [show (bs 64 f).testBit s = f s by rw [bs_bit]; simp [h]]
    refine ip_bt (fun h3 => ?_) (fun h3 => ?_)
    · exact hn _ _ (by rw [fb_ct_succ, h3]; simp) (nI_1 s)
    refine Exists.intro s ⟨q, h, hq, rfl, ?_⟩
    refine ip_bt (fun h4 => ?_) (fun h4 => ?_)
    · exact hn _ _ (by rw [fb_ct_succ, h3, h4]; simp) (nI_1 s)
    · exact hn _ _ (by rw [fb_ct_succ, h3, h4, nI_1]; simp) (nI_1 s)
set_option maxRecDepth 100000 in
set_option maxHeartbeats 4000000 in
theorem m_X7_countHolding (l : Launch) : ip_Met l yX7_countHolding cX7_countHolding 5 (some .int) (ip_rm 1) C_X7_countHolding := ip_met tb_X7_countHolding 400 (by decide +kernel) fl_X7_ok cn_X7_ok (ip_cs1 (ip_gsS (m_X7_holdsSet l) (ip_in [430, 431, 32, 432] (by decide +kernel) (by decide +kernel)) ⟨by decide +kernel, by decide +kernel, by decide +kernel⟩ ⟨rfl, rfl, Nat.le_of_ble_eq_true rfl, Nat.le_of_ble_eq_true rfl⟩) (ip_cs1 (ip_gsS (m_X7_holds l) (ip_in [318, 319, 32, 320] (by decide +kernel) (by decide +kernel)) ⟨by decide +kernel, by decide +kernel, by decide +kernel⟩ ⟨rfl, rfl, Nat.le_of_ble_eq_true rfl, Nat.le_of_ble_eq_true rfl⟩) (ip_cs0))) ck_X7_countHolding rfl p_X7_countHolding
def C_X7_fewestQuestions : ip_C := fun vs hp K => ∃ f : Nat → Bool, vs = [.long (lN (bs 64 f))] ∧ K (some (.int (ob (fqB f 64)))) hp
def cs_X7_fewestQuestions : List ip_G := [(288, 2, 0, C_X7_holdsSet), (184, 1, 0, C_J6_bitCount)]
def I_X7_fewestQuestions (f : Nat → Bool) (hp0 : ip_H) : Nat → Nat → ip_P := fun pc k L st hp => pc = 9 ∧ ∃ (s : Nat) (x y z : Int32), s ≤ 64 ∧ k = 64 - s ∧ L = [some (.long (lN (bs 64 f))), none, some (.int x), some (.int y), some (.int z)] ∧ st = [] ∧ hp = hp0 ∧ x = ob (fqB f s) ∧ y = nI (fqW (fqB f s)) ∧ z = nI s
theorem fqW_le (f : Nat → Bool) (n : Nat) : fqW (fqB f n) ≤ 7 := by
  unfold fqW
  split
  · omega
  · rename_i b hb
    have := pc6_le b
    omega
theorem p_X7_fewestQuestions : ip_Pf fl_X7 cn_X7 cs_X7_fewestQuestions (some .int) tb_X7_fewestQuestions 5 C_X7_fewestQuestions := by
  rintro _ hp0 K ⟨f, rfl, hK⟩
  refine ⟨Nat.le_of_ble_eq_true rfl, I_X7_fewestQuestions f hp0, ?_, ?_⟩
  · exact Exists.intro 64 ⟨trivial, rfl, 0, _, _, _, by omega, rfl, rfl, rfl, rfl, rfl, rfl, rfl⟩
  · rintro pc k L st hp ⟨rfl, s, x, y, z, hs, rfl, rfl, rfl, rfl, rfl, rfl, rfl⟩
    refine pk_le 64 s (fun h => ?_) (fun h => ?_)
    · obtain rfl : s = 64 := by omega
      exact hK
    have hn : ∀ x y z : Int32, x = ob (fqB f (s + 1)) → y = nI (fqW (fqB f (s + 1))) → z = nI (s + 1) → ∃ k, ip_lt k (some (64 - s)) ∧ I_X7_fewestQuestions f hp 9 k [some (.long (lN (bs 64 f))), none, some (.int x), some (.int y), some (.int z)] [] hp := fun x y z hx hy hz => ⟨64 - (s + 1), by show _ < _; omega, rfl, s + 1, x, y, z, by omega, rfl, rfl, rfl, rfl, hx, hy, hz⟩
    have hw := fqW_le f s
    have hp6 := pc6_le s
    have hcond : (match fqB f s with | none => true | some b => decide (pc6 s < pc6 b)) = decide (pc6 s < fqW (fqB f s)) := by
      unfold fqW
      split
      · exact (decide_eq_true (by omega)).symm
      · rfl
    have e0 : f s = false ∨ fqW (fqB f s) ≤ pc6 s → fqB f (s + 1) = fqB f s := fun h => by
      simp only [fqB]
      rw [hcond]
      rcases h with h | h
      · rw [h]; rfl
      · rw [decide_eq_false (by omega), Bool.and_false]; rfl
    have e1 : f s = true → pc6 s < fqW (fqB f s) → fqB f (s + 1) = some s := fun h h2 => by
      simp only [fqB]
      rw [hcond, h, decide_eq_true h2]; rfl
    refine Exists.intro (bs 64 f) ⟨s, h, rfl, ?_⟩
    rw [show (bs 64 f).testBit s = f s by rw [bs_bit]; simp [h]]
    refine ip_bt (fun h3 => ?_) (fun h3 => ?_)
    · exact hn _ _ _ (by rw [e0 (Or.inl h3)]) (by rw [e0 (Or.inl h3)]) (nI_1 s)
    refine Exists.intro s ⟨h, rfl, ?_⟩
    refine pk_le (fqW (fqB f s)) (pc6 s) (fun h4 => ?_) (fun h4 => ?_)
    · exact hn _ _ _ (by rw [e0 (Or.inr h4)]) (by rw [e0 (Or.inr h4)]) (nI_1 s)
    refine Exists.intro s ⟨h, rfl, ?_⟩
    exact hn _ _ _ (by rw [e1 h3 h4]; rfl) (by rw [e1 h3 h4]; rfl) (nI_1 s)
set_option maxRecDepth 100000 in
set_option maxHeartbeats 4000000 in
theorem m_X7_fewestQuestions (l : Launch) : ip_Met l yX7_fewestQuestions cX7_fewestQuestions 5 (some .int) (ip_rm 1) C_X7_fewestQuestions := ip_met tb_X7_fewestQuestions 400 (by decide +kernel) fl_X7_ok cn_X7_ok (ip_cs1 (ip_gsS (m_X7_holdsSet l) (ip_in [430, 431, 32, 432] (by decide +kernel) (by decide +kernel)) ⟨by decide +kernel, by decide +kernel, by decide +kernel⟩ ⟨rfl, rfl, Nat.le_of_ble_eq_true rfl, Nat.le_of_ble_eq_true rfl⟩) (ip_cs1 (ip_gsS (m_J6_bitCount l) (ip_in [433, 434, 44, 435] (by decide +kernel) (by decide +kernel)) ⟨by decide +kernel, by decide +kernel, by decide +kernel⟩ ⟨rfl, rfl, Nat.le_of_ble_eq_true rfl, Nat.le_of_ble_eq_true rfl⟩) (ip_cs0))) ck_X7_fewestQuestions rfl p_X7_fewestQuestions
-- what he must learn
def les (S : Nat → Nat) (G : Nat → Nat → Int32) (m s : Nat) : Bool := decide (S (60 + m) &&& s = 0) && !anyb (S 5) (fun t => stT (va_up S (60 + m) (S (60 + m) ||| s)) G t)
def C_X7_lessons : ip_C := fun vs hp K => ∃ tc S G, ∃ m : Nat, m < 4 ∧ vs = [.ref 0, .ref (12 + m)] ∧ hp = hpC tc S G ∧ wfM S ∧ wfT S G ∧ K (some (.long (lN (bs 64 (les S G m))))) hp
def cs_X7_lessons : List ip_G := [(137, 2, 6, C_X6_firstIn)]
def I_X7_lessons (tc : Int32) (S : Nat → Nat) (G : Nat → Nat → Int32) (m : Nat) : Nat → Nat → ip_P := fun pc k L st hp => pc = 10 ∧ ∃ (s z : Nat) (x : Int64) (y : Int32), s ≤ 64 ∧ k = 64 - s ∧ L = [some (.ref 0), some (.ref (12 + m)), some (.int (nI (S (60 + m)))), some (.long x), none, some (.int y)] ∧ st = [] ∧ hp = hpC tc (va_up S (60 + m) z) G ∧ x = lN (bs s (les S G m)) ∧ y = nI s
theorem anyb_no {f : Nat → Bool} {n : Nat} (h : anyb n f = false) : ∀ i, i < n → f i = false := fun i hi => by
  cases hf : f i
  · rfl
  · rw [anyb_true hi hf] at h; cases h
set_option maxHeartbeats 4000000 in
theorem p_X7_lessons : ip_Pf fl_X7 cn_X7 cs_X7_lessons (some .long) tb_X7_lessons 6 C_X7_lessons := by
  rintro _ _ K ⟨tc, S, G, m, hm, rfl, rfl, hwf, hwt, hK⟩
  refine ⟨Nat.le_of_ble_eq_true rfl, I_X7_lessons tc S G m, ?_, ?_⟩
  · rcases four hm with rfl | rfl | rfl | rfl
    · exact Exists.intro 64 ⟨trivial, rfl, 0, S 60, _, _, by omega, rfl, rfl, rfl, rfl, rfl, rfl⟩
    · exact Exists.intro 64 ⟨trivial, rfl, 0, S 61, _, _, by omega, rfl, rfl, rfl, rfl, rfl, rfl⟩
    · exact Exists.intro 64 ⟨trivial, rfl, 0, S 62, _, _, by omega, rfl, rfl, rfl, rfl, rfl, rfl⟩
    · exact Exists.intro 64 ⟨trivial, rfl, 0, S 63, _, _, by omega, rfl, rfl, rfl, rfl, rfl, rfl⟩
  · rintro pc k L st hp ⟨rfl, s, z, x, y, hs, rfl, rfl, rfl, rfl, rfl, rfl⟩
    have hl64 := (hwf.2.2.2 m hm).2.2
    have hend : 64 ≤ s → K (some (.long (lN (bs s (les S G m))))) (hpC tc S G) := fun h => by
      obtain rfl : s = 64 := by omega
      exact hK
    have hn : s < 64 → ∀ (x : Int64) (y w : Int32), w = nI (S (60 + m) ||| s) → x = lN (bs (s + 1) (les S G m)) → y = nI (s + 1) → ∃ k, ip_lt k (some (64 - s)) ∧ I_X7_lessons tc S G m 10 k [some (.ref 0), some (.ref (12 + m)), some (.int (nI (S (60 + m)))), some (.long x), none, some (.int y)] [] (hpC tc (va_up S (60 + m) (S (60 + m) ||| s)) G) := fun h x y w hw hx hy => ⟨64 - (s + 1), by show _ < _; omega, rfl, s + 1, _, x, y, by omega, rfl, rfl, rfl, rfl, hx, hy⟩
    have w1 : s < 64 → wfM (va_up S (60 + m) (S (60 + m) ||| s)) := fun h => wfM_li hwf hm (or64 hl64 h)
    have w2 : wfT (va_up S (60 + m) (S (60 + m) ||| s)) G := wfT_up hwt (by omega)
    have e5 : va_up S (60 + m) (S (60 + m) ||| s) 5 = S 5 := by simp only [va_up]; rw [if_neg (by omega)]
    have h0 : les S G m s = false → lN (bs s (les S G m)) = lN (bs (s + 1) (les S G m)) := fun h3 => by simp [bs, h3]
    have h1 : s < 64 → les S G m s = true → lN (bs s (les S G m)) ||| (Int64.ofNat 1 <<< ((nI s).toInt64 &&& 63)) = lN (bs (s + 1) (les S G m)) := fun h h3 => by rw [ls_or (bs_lt _ s) h]; simp [bs, h3]
    have h9 : nI s + 1 = nI (s + 1) := nI_1 s
    have hor : nI (S (60 + m)) ||| nI s = nI (S (60 + m) ||| s) := fa_or _ _
    have hba : s < 64 → S (60 + m) &&& s < 64 := fun h => Nat.and_lt_two_pow (n := 6) _ h
    have hb1 : s < 64 → ∀ {X Y : Prop}, (S (60 + m) &&& s ≠ 0 → X) → (S (60 + m) &&& s = 0 → Y) → (¬ nI (S (60 + m)) &&& nI s = 0 → X) ∧ (nI (S (60 + m)) &&& nI s = 0 → Y) := fun h X Y f g => by
      rw [fa_and]
      exact pk_ne _ 0 f g rfl rfl (by have := hba h; omega)
    have l0 : S (60 + m) &&& s ≠ 0 → les S G m s = false := fun h => by rw [les, decide_eq_false h]; rfl
    have l1 : ∀ t, t < va_up S (60 + m) (S (60 + m) ||| s) 5 → stT (va_up S (60 + m) (S (60 + m) ||| s)) G t = true → les S G m s = false := fun t ht h => by rw [e5] at ht; rw [les, anyb_true ht h, Bool.not_true, Bool.and_false]
    have l2 : S (60 + m) &&& s = 0 → (∀ t, t < va_up S (60 + m) (S (60 + m) ||| s) 5 → stT (va_up S (60 + m) (S (60 + m) ||| s)) G t = false) → les S G m s = true := fun h h2 => by rw [e5] at h2; rw [les, decide_eq_true h, anyb_false h2]; rfl
    have ht20 : ∀ t, t < va_up S (60 + m) (S (60 + m) ||| s) 5 → t < 20 := fun t h => by have := hwt.1; omega
    have hne : ∀ t, t < 20 → ¬ nI t = -9 := by decide +kernel
    have hK0 : hpC tc (va_up S (60 + m) (S (60 + m) ||| s)) G = hpC tc (va_up S (60 + m) (S (60 + m) ||| s)) G := rfl
    rcases four hm with rfl | rfl | rfl | rfl
    all_goals
      refine pk_le 64 s (fun h => ?_) (fun h => ?_)
      · exact hend h
      refine hb1 h (fun h2 => ?_) (fun h2 => ?_)
      · rw [hor]
        exact hn h _ _ _ rfl (h0 (l0 h2)) h9
      rw [hor]
      refine Exists.intro tc ⟨va_up S _ (_ ||| s), G, rfl, rfl, w1 h, w2, fun t ht h3 _ => ?_, fun h3 => ?_⟩
      · refine And.intro (fun _ => ?_) (fun h4 => absurd h4 (hne t (ht20 t ht)))
        exact hn h _ _ _ rfl (h0 (l1 t ht h3)) h9
      · refine And.intro (fun h4 => absurd rfl h4) (fun _ => ?_)
        exact hn h _ _ _ rfl (h1 h (l2 h2 h3)) h9
set_option maxRecDepth 100000 in
set_option maxHeartbeats 4000000 in
theorem m_X7_lessons (l : Launch) : ip_Met l yX7_lessons cX7_lessons 6 (some .long) (ip_rm 5) C_X7_lessons := ip_met tb_X7_lessons 400 (by decide +kernel) fl_X7_ok cn_X7_ok (ip_cs1 (ip_gsV (m_X6_firstIn l) (ip_in [379, 380, 381, 36, 382] (by decide +kernel) (by decide +kernel)) rfl ⟨by decide +kernel, by decide +kernel, by decide +kernel⟩ ⟨rfl, rfl, Nat.le_of_ble_eq_true rfl, Nat.le_of_ble_eq_true rfl⟩) (ip_cs0)) ck_X7_lessons rfl p_X7_lessons
