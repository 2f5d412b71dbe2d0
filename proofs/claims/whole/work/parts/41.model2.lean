/-! ===== the reference: isHeld, dangersOf, size, strikesNow, areSo ===== -/
def prS (S : Nat → Nat) (sl p m : Nat) : Bool := S (50 + m) == p && !sl.testBit m
def C_X8_isHeld : ip_C := fun vs hp K => ∃ R N S, ∃ p q sl : Nat, p < 2147483648 ∧ q < 6 ∧ sl < 16 ∧ vs = [.ref 0, .int (nI p), .int (nI q)] ∧ hp = hpM R N ∧ wfM S ∧ relM S R N sl ∧ K (some (.int (ip_bi (heldS S (prS S sl p) q)))) hp
def cs_X8_isHeld : List ip_G := [(140, 3, 8, C_X8_answerOf), (134, 2, 8, C_X8_right)]
def I_X8_isHeld (R : Nat → Int32) (N : Nat → Nat → Int32) (S : Nat → Nat) (p q sl : Nat) : Nat → Nat → ip_P := fun pc k L st hp => pc = 5 ∧ ∃ (m : Nat) (y : Int32) (l5 : Option Value), m ≤ S 3 ∧ k = 4 - m ∧ L = [some (.ref 0), some (.int (nI p)), some (.int (nI q)), some (.int (ip_bi (anyb m (fun m => prS S sl p m && ar (S 1) (S (40 + m)) (S (60 + m)) q)))), some (.int y), l5] ∧ st = [] ∧ hp = hpM R N ∧ y = nI m ∧ anyb m (fun m => prS S sl p m && aw (S 1) (S (40 + m)) (S (60 + m)) q) = false
theorem ansR_9 (tr kd li q : Nat) (hk : kd ≤ 2) : (ansR tr kd li q = -9 ↔ ar tr kd li q = false ∧ aw tr kd li q = false) ∧ (ansR tr kd li q ≠ -9 → (ansR tr kd li q = ip_bi (tr.testBit q) ↔ ar tr kd li q = true)) ∧ (ar tr kd li q = true → aw tr kd li q = false) := by
  have hx : ar tr kd li q = true → aw tr kd li q = false := by
    unfold ar aw
    intro h
    rcases (show kd = 0 ∨ kd = 1 ∨ kd = 2 by omega) with rfl | rfl | rfl
    · simp
    · simp at h ⊢
      intro z
      rcases h with h | h
      · rw [h] at z; cases z
      · exact h
    · simp at h
  refine ⟨?_, ?_, hx⟩
  · unfold ansR
    cases h1 : ar tr kd li q
    · cases h2 : aw tr kd li q
      · simp
      · cases tr.testBit q <;> simp [ip_bi]
    · cases tr.testBit q <;> simp [ip_bi]
  · unfold ansR
    intro h3
    cases h1 : ar tr kd li q
    · cases h2 : aw tr kd li q
      · rw [h1, h2] at h3; simp at h3
      · cases tr.testBit q <;> simp [ip_bi]
    · simp
set_option maxHeartbeats 4000000 in
theorem p_X8_isHeld : ip_Pf fl_X8 cn_X8 cs_X8_isHeld (some .boolean) tb_X8_isHeld 6 C_X8_isHeld := by
  rintro _ _ K ⟨R, N, S, p, q, sl, hp0, hq, hsl, rfl, rfl, hwf, hrel, hK⟩
  obtain ⟨w1, w2, w3, w4⟩ := id hwf
  obtain ⟨r5, r6, r7, r11, rm⟩ := id hrel
  refine ⟨Nat.le_of_ble_eq_true rfl, I_X8_isHeld R N S p q sl, ?_, ?_⟩
  · exact Exists.intro 4 ⟨trivial, rfl, 0, _, none, by omega, rfl, rfl, rfl, rfl, rfl, rfl⟩
  · rintro pc k L st hp ⟨rfl, m, y, l5, hm, rfl, rfl, rfl, rfl, rfl, hno⟩
    have b7 : ∀ {X Y : Prop}, (S 3 ≤ m → X) → (m < S 3 → Y) → (R 7 ≤ nI m → X) ∧ (¬ R 7 ≤ nI m → Y) := fun f g => by rw [r7]; exact pk_le (S 3) m f g
    refine b7 (fun h => ?_) (fun h => ?_)
    · obtain rfl : m = S 3 := by omega
      have e : heldS S (prS S sl p) q = anyb (S 3) (fun m => prS S sl p m && ar (S 1) (S (40 + m)) (S (60 + m)) q) := by unfold heldS held; rw [hno]; simp
      rw [e] at hK
      exact And.intro (ip_bnar _) hK
    have hm4 : m < 4 := by omega
    obtain ⟨k1, k2, k3⟩ := w4 m hm4
    obtain ⟨n4, n5, n6⟩ := rm m hm4
    have hc := nI_clamp (n := m) (by omega)
    have hin : vp_in (nI m) 4 := pk_in m 4 hm4
    have b5 : ∀ {X Y : Prop}, (S (50 + m) ≠ p → X) → (S (50 + m) = p → Y) → (¬ N 5 (nI m).toNatClampNeg = nI p → X) ∧ (N 5 (nI m).toNatClampNeg = nI p → Y) := fun f g => by rw [hc, n5]; exact pk_ne _ p f g
    have bs4 := bt_bi16 ⟨sl, hsl⟩ ⟨m, hm4⟩
    simp only at bs4
    have b11 : ∀ {X Y : Prop}, (sl.testBit m = true → X) → (sl.testBit m = false → Y) → (¬ (R 11 >>> (nI m &&& 31)) &&& 1 = 0 → X) ∧ ((R 11 >>> (nI m &&& 31)) &&& 1 = 0 → Y) := fun f g => by rw [r11, bs4]; exact ip_bn f g
    have hn : ∀ (x y : Int32) (l5 : Option Value), x = ip_bi (anyb (m + 1) (fun m => prS S sl p m && ar (S 1) (S (40 + m)) (S (60 + m)) q)) → anyb (m + 1) (fun m => prS S sl p m && aw (S 1) (S (40 + m)) (S (60 + m)) q) = false → y = nI (m + 1) → ∃ k, ip_lt k (some (4 - m)) ∧ I_X8_isHeld R N S p q sl 5 k [some (.ref 0), some (.int (nI p)), some (.int (nI q)), some (.int x), some (.int y), l5] [] (hpM R N) := fun x y l5 hx hn2 hy => by
      subst hx
      exact ⟨4 - (m + 1), by show _ < _; omega, rfl, m + 1, y, l5, by omega, rfl, rfl, rfl, rfl, hy, hn2⟩
    have skip : prS S sl p m = false → ip_bi (anyb m (fun m => prS S sl p m && ar (S 1) (S (40 + m)) (S (60 + m)) q)) = ip_bi (anyb (m + 1) (fun m => prS S sl p m && ar (S 1) (S (40 + m)) (S (60 + m)) q)) ∧ anyb (m + 1) (fun m => prS S sl p m && aw (S 1) (S (40 + m)) (S (60 + m)) q) = false := fun h => by simp [anyb, h, hno]
    obtain ⟨a9, a8, a7⟩ := ansR_9 (S 1) (S (40 + m)) (S (60 + m)) q k1
    have h9 : nI m + 1 = nI (m + 1) := nI_1 m
    refine And.intro hin ?_
    refine b5 (fun h2 => ?_) (fun h2 => ?_)
    · have hp : prS S sl p m = false := by simp [prS, h2]
      exact hn _ _ _ (skip hp).1 (skip hp).2 h9
    refine b11 (fun h3 => ?_) (fun h3 => ?_)
    · have hp : prS S sl p m = false := by simp [prS, h3]
      exact hn _ _ _ (skip hp).1 (skip hp).2 h9
    have hp : prS S sl p m = true := by simp [prS, h2, h3]
    have bad : aw (S 1) (S (40 + m)) (S (60 + m)) q = true → K (some (.int 0)) (hpM R N) := fun hw => by
      have e : heldS S (prS S sl p) q = false := by
        unfold heldS held
        rw [anyb_true (f := fun m => prS S sl p m && aw (S 1) (S (40 + m)) (S (60 + m)) q) h (by simp only [hp, hw]; rfl)]
        simp
      rw [e] at hK
      exact hK
    have nxt : ∀ a w : Bool, ar (S 1) (S (40 + m)) (S (60 + m)) q = a → aw (S 1) (S (40 + m)) (S (60 + m)) q = w → w = false → anyb (m + 1) (fun m => prS S sl p m && ar (S 1) (S (40 + m)) (S (60 + m)) q) = (anyb m (fun m => prS S sl p m && ar (S 1) (S (40 + m)) (S (60 + m)) q) || a) ∧ anyb (m + 1) (fun m => prS S sl p m && aw (S 1) (S (40 + m)) (S (60 + m)) q) = false := fun a w h1 h2 h3 => by
      simp [anyb, hp, hno, h1, h2, h3]
    refine Exists.intro R ⟨N, S, m, q, sl, hm4, hq, rfl, rfl, hwf, hrel, ?_⟩
    generalize hA : ansR (S 1) (S (40 + m)) (S (60 + m)) q = A at a9 a8 ⊢
    cases hx : ar (S 1) (S (40 + m)) (S (60 + m)) q with
    | true =>
      have hw := a7 hx
      obtain ⟨e1, e2⟩ := nxt true false hx hw rfl
      have hA9 : A ≠ -9 := fun z => by rw [(a9.mp z).1] at hx; cases hx
      have hAr := (a8 hA9).mpr hx
      refine And.intro (fun z => absurd z hA9) (fun _ => ?_)
      refine Exists.intro R ⟨N, S 1, q, w1, hq, rfl, rfl, r5, ?_⟩
      refine And.intro (fun _ => ?_) (fun z => absurd hAr z)
      have e3 : (1 : Int32) = ip_bi (anyb (m + 1) (fun m => prS S sl p m && ar (S 1) (S (40 + m)) (S (60 + m)) q)) := by rw [e1, Bool.or_true]; rfl
      refine ip_bn (fun h5 => ?_) (fun h5 => ?_)
      · exact hn _ _ _ e3 e2 h9
      · refine And.intro (fun z => absurd z hA9) (fun _ => ?_)
        exact hn _ _ _ e3 e2 h9
    | false =>
      cases hw : aw (S 1) (S (40 + m)) (S (60 + m)) q with
      | true =>
        have hA9 : A ≠ -9 := fun z => by rw [(a9.mp z).2] at hw; cases hw
        have hAr : ¬ A = ip_bi ((S 1).testBit q) := fun z => by rw [(a8 hA9).mp z] at hx; cases hx
        refine And.intro (fun z => absurd z hA9) (fun _ => ?_)
        refine Exists.intro R ⟨N, S 1, q, w1, hq, rfl, rfl, r5, ?_⟩
        refine And.intro (fun z => absurd z hAr) (fun _ => ?_)
        exact And.intro rfl (bad hw)
      | false =>
        obtain ⟨e1, e2⟩ := nxt false false hx hw rfl
        have hA9 : A = -9 := a9.mpr ⟨hx, hw⟩
        subst hA9
        refine And.intro (fun _ => ?_) (fun z => absurd rfl z)
        refine ip_bn (fun h5 => ?_) (fun h5 => ?_)
        · exact hn _ _ _ (by rw [e1, h5]; rfl) e2 h9
        · refine And.intro (fun _ => ?_) (fun z => absurd rfl z)
          exact hn _ _ _ (by rw [e1, h5]; rfl) e2 h9
set_option maxRecDepth 100000 in
set_option maxHeartbeats 4000000 in
theorem m_X8_isHeld (l : Launch) : ip_Met l yX8_isHeld cX8_isHeld 6 (some .boolean) (ip_rm 2) C_X8_isHeld := ip_met tb_X8_isHeld 400 (by decide +kernel) fl_X8_ok cn_X8_ok (ip_cs1 (ip_gsV (m_X8_answerOf l) (ip_in [784, 786, 18, 39, 787] (by decide +kernel) (by decide +kernel)) rfl ⟨by decide +kernel, by decide +kernel, by decide +kernel⟩ ⟨rfl, rfl, Nat.le_of_ble_eq_true rfl, Nat.le_of_ble_eq_true rfl⟩) (ip_cs1 (ip_gsV (m_X8_right l) (ip_in [788, 790, 19, 39, 791] (by decide +kernel) (by decide +kernel)) rfl ⟨by decide +kernel, by decide +kernel, by decide +kernel⟩ ⟨rfl, rfl, Nat.le_of_ble_eq_true rfl, Nat.le_of_ble_eq_true rfl⟩) (ip_cs0))) ck_X8_isHeld rfl p_X8_isHeld
