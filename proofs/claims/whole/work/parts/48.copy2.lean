/-! ===== copy: the class ===== -/
def C_X7_copy : ip_C := fun vs hp K => ∃ tc S G, ∃ k i o j n : Int32, vs = [.ref 0, .int k, .int i, .int o, .int j, .int n] ∧ hp = hpC tc S G ∧ wfC S G ∧ K (some (.int (q_copy S G k i o j n).1)) (hpC tc (va_up S 0 (q_copy S G k i o j n).2.1) (q_copy S G k i o j n).2.2)
def cs_X7_copy : List ip_G := [(50, 2, 7, C_X7_sheetOf), (62, 2, 7, C_X7_faulty), (246, 3, 5, C_X5_hasCells), (253, 5, 0, C_arraycopy)]
theorem set_f (tc : Int32) (S : Nat → Nat) (G : Nat → Nat → Int32) (f : Nat) : List.set (hpC tc S G) 0 (.inr (6, [Value.ref 1, Value.ref 10, Value.ref 16, Value.ref 20, Value.ref 23, Value.int tc, Value.int (nI (S 0))].set 6 (Value.int (nI f)))) = hpC tc (va_up S 0 f) G := rfl
theorem set_f0 (tc : Int32) (S : Nat → Nat) (G : Nat → Nat → Int32) : List.set (hpC tc S G) 0 (.inr (6, [Value.ref 1, Value.ref 10, Value.ref 16, Value.ref 20, Value.ref 23, Value.int tc, Value.int (nI (S 0))].set 6 (Value.int 0))) = hpC tc (va_up S 0 0) G := rfl
theorem nt_cl {x : Int32} (h : 0 ≤ x.toInt) : x.toNatClampNeg = nt x := by
  obtain ⟨j, hj, rfl, e⟩ := ti_of h
  rw [nt_n hj, nI_clamp hj]
set_option maxHeartbeats 40000000 in
theorem p_X7_copy : ip_Pf fl_X7 cn_X7 cs_X7_copy (some .int) tb_X7_copy 8 C_X7_copy := ip_pf0 (by
  rintro _ _ K ⟨tc, S, G, k, i, o, j, n, rfl, rfl, hwf, hK⟩
  refine ⟨Nat.le_of_ble_eq_true rfl, ?_⟩
  refine Exists.intro tc ⟨va_up S 0 0, G, k, rfl, rfl, fun hn => ?_, fun a ha e => ?_⟩
  · rw [q_copy, if_pos (.inl hn)] at hK
    refine Exists.intro tc ⟨va_up S 0 0, G, o, rfl, rfl, fun hn2 => ?_, fun c hc e => ?_⟩
    · exact hK
    · exact hK
  subst e
  have hin := inI_n ha (n := 4) (by omega)
  refine Exists.intro tc ⟨va_up S 0 0, G, o, rfl, rfl, fun hn2 => ?_, fun c hc e => ?_⟩
  · rw [q_copy, if_pos (.inr hn2)] at hK
    exact hK
  subst e
  have hin2 := inI_n hc (n := 4) (by omega)
  rw [q_copy, if_neg (by rintro (z | z); exact z hin; exact z hin2), nt_n (by omega), nt_n (by omega)] at hK
  have hwH : wfH (va_up S 0 0) := fun x hx => by
    rw [up_n (f := S) (10 + x) (by omega), up_n (f := S) (20 + x) (by omega), up_n (f := S) (30 + x) (by omega)]
    exact hwf.2.1 x hx
  have hS : ∀ x, x ≠ 0 → va_up S 0 0 x = S x := fun x hx => up_n x hx
  obtain ⟨w1, w2, w3⟩ := hwf.2.1 a ha
  obtain ⟨v1, v2, v3⟩ := hwf.2.1 c hc
  have eS : ∀ f, va_up (va_up S 0 0) 0 f = va_up S 0 f := fun f => by funext z; simp only [va_up]; split <;> rfl
  have b0 : ∀ {X Y : Prop}, (S (10 + a) = 0 → X) → (S (10 + a) ≠ 0 → Y) → (nI (va_up S 0 0 (10 + a)) = 0 → X) ∧ (¬ nI (va_up S 0 0 (10 + a)) = 0 → Y) := fun f g => by rw [hS _ (by omega)]; exact pk_eq _ 0 f g
  have b1 : ∀ {X Y : Prop}, (S (10 + c) ≠ 0 → X) → (S (10 + c) = 0 → Y) → (¬ nI (va_up S 0 0 (10 + c)) = 0 → X) ∧ (nI (va_up S 0 0 (10 + c)) = 0 → Y) := fun f g => by rw [hS _ (by omega)]; exact pk_ne _ 0 f g
  have b2 : ∀ {X Y : Prop}, (S (20 + a) = S (20 + c) → X) → (S (20 + a) ≠ S (20 + c) → Y) → (nI (va_up S 0 0 (20 + a)) = nI (va_up S 0 0 (20 + c)) → X) ∧ (¬ nI (va_up S 0 0 (20 + a)) = nI (va_up S 0 0 (20 + c)) → Y) := fun f g => by rw [hS _ (by omega), hS _ (by omega)]; exact pk_eq _ _ f g
  have k1 : S (10 + a) = 0 ∨ S (10 + c) = 0 → K (some (.int (-10 - nI 1))) (hpC tc (va_up (va_up S 0 0) 0 1) G) := fun z => by rw [if_pos z] at hK; rw [eS]; exact hK
  have k2 : ¬ (S (10 + a) = 0 ∨ S (10 + c) = 0) → S (20 + a) ≠ S (20 + c) → K (some (.int (-10 - nI 2))) (hpC tc (va_up (va_up S 0 0) 0 2) G) := fun z z2 => by rw [if_neg z, if_pos z2] at hK; rw [eS]; exact hK
  have k3 : ¬ (S (10 + a) = 0 ∨ S (10 + c) = 0) → S (20 + a) = S (20 + c) → ¬ (0 ≤ n.toInt ∧ 0 ≤ i.toInt ∧ 0 ≤ j.toInt ∧ i.toInt + n.toInt ≤ S (30 + a) ∧ j.toInt + n.toInt ≤ S (30 + c)) → K (some (.int (-10 - nI 3))) (hpC tc (va_up (va_up S 0 0) 0 3) G) := fun z z2 z3 => by rw [if_neg z, if_neg (not_not_intro z2), if_pos z3] at hK; rw [eS]; exact hK
  have k4 : ¬ (S (10 + a) = 0 ∨ S (10 + c) = 0) → S (20 + a) = S (20 + c) → (0 ≤ n.toInt ∧ 0 ≤ i.toInt ∧ 0 ≤ j.toInt ∧ i.toInt + n.toInt ≤ S (30 + a) ∧ j.toInt + n.toInt ≤ S (30 + c)) → K (some (.int n)) (hpC tc (va_up S 0 0) (va_up G c (va_cpy (G a) (G c) i.toNatClampNeg j.toNatClampNeg n.toNatClampNeg))) := fun z z2 z3 => by
    rw [if_neg z, if_neg (not_not_intro z2), if_neg (not_not_intro z3)] at hK
    rw [nt_cl z3.1, nt_cl z3.2.1, nt_cl z3.2.2.1]
    exact hK
  have hb1 : ∀ b : Bool, (b = true ↔ 0 ≤ n.toInt ∧ 0 ≤ i.toInt ∧ i.toInt + n.toInt ≤ ((va_up S 0 0 (30 + a) : Nat) : Int)) → (b = true ↔ 0 ≤ n.toInt ∧ 0 ≤ i.toInt ∧ i.toInt + n.toInt ≤ S (30 + a)) := fun b h => by rw [hS _ (by omega)] at h; exact h
  have hb2 : ∀ b : Bool, (b = true ↔ 0 ≤ n.toInt ∧ 0 ≤ j.toInt ∧ j.toInt + n.toInt ≤ ((va_up S 0 0 (30 + c) : Nat) : Int)) → (b = true ↔ 0 ≤ n.toInt ∧ 0 ≤ j.toInt ∧ j.toInt + n.toInt ≤ S (30 + c)) := fun b h => by rw [hS _ (by omega)] at h; exact h
  clear hK eS hS hwf hin hin2
  rw [set_f0 tc S G]
  generalize va_up S 0 0 = T at hwH b0 b1 b2 k1 k2 k3 k4 hb1 hb2 ⊢
  rcases four ha with rfl | rfl | rfl | rfl
  all_goals
    rcases four hc with rfl | rfl | rfl | rfl
    all_goals
      refine b0 (fun z => ?_) (fun z => ?_)
      · exact Exists.intro tc ⟨T, G, 1, rfl, rfl, k1 (.inl z)⟩
      refine b1 (fun z2 => ?_) (fun z2 => ?_)
      · have z12 := not_or.mpr ⟨z, z2⟩
        refine b2 (fun z3 => ?_) (fun z3 => ?_)
        · refine Exists.intro tc ⟨T, G, _, i, n, ha, rfl, rfl, hwH, fun b hb => ?_⟩
          have hb := hb1 b hb
          refine ip_bt (fun h => ?_) (fun h => ?_)
          · have hz : ¬ b = true := fun q => by rw [q] at h; cases h
            rw [hb] at hz
            exact Exists.intro tc ⟨T, G, 3, rfl, rfl, k3 z12 z3 (fun q => hz ⟨q.1, q.2.1, q.2.2.2.1⟩)⟩
          · have hz := hb.mp h
            refine Exists.intro tc ⟨T, G, _, j, n, hc, rfl, rfl, hwH, fun b2 hbb => ?_⟩
            have hbb := hb2 b2 hbb
            refine ip_bn (fun h2 => ?_) (fun h2 => ?_)
            · have hy := hbb.mp h2
              refine Exists.intro _ ⟨_, _, _, i, j, n, _, _, rfl, rfl, rfl, hz.2.1, hy.2.1, hy.1, ?_, ?_, ?_⟩
              · have := hz.2.2; omega
              · have := hy.2.2; omega
              · exact k4 z12 z3 ⟨hy.1, hz.2.1, hy.2.1, hz.2.2, hy.2.2⟩
            · have hy : ¬ b2 = true := fun q => by rw [q] at h2; cases h2
              rw [hbb] at hy
              exact Exists.intro tc ⟨T, G, 3, rfl, rfl, k3 z12 z3 (fun q => hy ⟨q.1, q.2.2.1, q.2.2.2.2⟩)⟩
        · exact Exists.intro tc ⟨T, G, 2, rfl, rfl, k2 z12 z3⟩
      · exact Exists.intro tc ⟨T, G, 1, rfl, rfl, k1 (.inr z2)⟩)
set_option maxRecDepth 100000 in
set_option maxHeartbeats 4000000 in
theorem m_X7_copy (l : Launch) : ip_Met l yX7_copy cX7_copy 8 (some .int) (ip_rm 1) C_X7_copy := ip_met tb_X7_copy 400 (by decide +kernel) fl_X7_ok cn_X7_ok (ip_cs1 (ip_gsV (m_X7_sheetOf l) (ip_in [230, 232, 0, 32, 233] (by decide +kernel) (by decide +kernel)) rfl ⟨by decide +kernel, by decide +kernel, by decide +kernel⟩ ⟨rfl, rfl, Nat.le_of_ble_eq_true rfl, Nat.le_of_ble_eq_true rfl⟩) (ip_cs1 (ip_gsV (m_X7_faulty l) (ip_in [245, 247, 1, 32, 248] (by decide +kernel) (by decide +kernel)) rfl ⟨by decide +kernel, by decide +kernel, by decide +kernel⟩ ⟨rfl, rfl, Nat.le_of_ble_eq_true rfl, Nat.le_of_ble_eq_true rfl⟩) (ip_cs1 (ip_gsV (m_X5_hasCells l) (ip_in [576, 242, 243, 38, 244] (by decide +kernel) (by decide +kernel)) rfl ⟨by decide +kernel, by decide +kernel, by decide +kernel⟩ ⟨rfl, rfl, Nat.le_of_ble_eq_true rfl, Nat.le_of_ble_eq_true rfl⟩) (ip_cs1 (ip_gsCopy (ip_in [577, 414, 413, 43] (by decide +kernel) (by decide +kernel)) ⟨Nat.le_of_ble_eq_true rfl, Nat.le_of_ble_eq_true rfl⟩) (ip_cs0))))) ck_X7_copy rfl p_X7_copy
