/-! ===== county: the class ===== -/
def C_X7_county : ip_C := fun vs hp K => ∃ tc S G, ∃ (sh ln i n : Int32), vs = [.ref 0, .int sh, .int ln, .int i, .int n] ∧ hp = hpC tc S G ∧ wfC S G ∧ K (some (.int (q_county S G sh ln i n).1)) (hpC tc (q_county S G sh ln i n).2 G)
def cs_X7_county : List ip_G := [(50, 2, 7, C_X7_sheetOf), (54, 1, 0, C_X7_isLane), (58, 4, 5, C_X5_faultOf), (62, 2, 7, C_X7_faulty), (66, 3, 0, C_X1_firstFault), (72, 4, 0, C_X1_settle)]
theorem ffR_ok {g : Nat → Int32} {a n : Nat} (hn : n < 2147483648) (h : ffR g a n = -1) : lst (fun t => !dcd (goP g a t)) n = none ∧ 9 ≤ n ∧ (n - 4) % 5 = 0 := by
  unfold ffR at h
  split at h
  · rename_i t ht
    have : t < n := by
      have key : ∀ {f : Nat → Bool} {n t : Nat}, lst f n = some t → t < n := by
        intro f n
        induction n with
        | zero => intro t h; cases h
        | succ n ih =>
          intro t h
          simp only [lst] at h
          split at h
          · rename_i b hb
            cases h
            have := ih hb
            omega
          · split at h
            · cases h; omega
            · cases h
      exact key ht
    exact absurd h (nI_m1 (by omega))
  · rename_i hl
    split at h
    · rename_i hw
      exact ⟨hl, hw.1, hw.2⟩
    · exact absurd h (nI_m1 hn)
theorem go_len {g : Nat → Int32} {a n : Nat} (h : ∀ t, t < n → goP g a t) : n ≤ 24 := by
  rcases Nat.lt_or_ge 24 n with q | q
  · rcases h 24 q with z | z | z | z | z
    · exact absurd z.1 (by decide)
    · exact absurd z.1 (by decide)
    · exact absurd z.1 (by decide)
    · exact absurd z.1 (by decide)
    · exact absurd z.2.1 (by decide)
  · exact q
set_option maxHeartbeats 4000000 in
theorem p_X7_county : ip_Pf fl_X7 cn_X7 cs_X7_county (some .int) tb_X7_county 8 C_X7_county := ip_pf0 (by
  rintro _ _ K ⟨tc, S, G, sh, ln, i, n, rfl, rfl, hwf, hK⟩
  refine ⟨Nat.le_of_ble_eq_true rfl, ?_⟩
  have hw0 := wfH_0 hwf.2.1 0
  refine Exists.intro tc ⟨va_up S 0 0, G, sh, rfl, rfl, fun hn => ?_, fun j hj e => ?_⟩
  · rw [q_county, if_pos hn] at hK; exact hK
  subst e
  have hs4 : inI (nI j) 4 := inI_n hj (by omega)
  have ej : nt (nI j) = j := nt_n (by omega)
  rw [q_county, if_neg (not_not_intro hs4), ej] at hK
  refine Exists.intro ln ⟨rfl, fun b hb => ?_⟩
  refine ip_bn (fun h => ?_) (fun h => ?_)
  rotate_left
  · rw [if_pos (fun z => by rw [hb.mpr z] at h; cases h)] at hK; exact hK
  have hl : inI ln 3 := hb.mp h
  rw [if_neg (not_not_intro hl)] at hK
  have ef : fo (va_up S 0 0) j ln.toInt i.toInt n.toInt = fo S j ln.toInt i.toInt n.toInt := fo_0 S 0 j _ _ _
  have hf4 := fo_le S j ln.toInt i.toInt n.toInt
  have b0 : ∀ {X Y : Prop}, (fo S j ln.toInt i.toInt n.toInt = 0 → X) → (fo S j ln.toInt i.toInt n.toInt ≠ 0 → Y) → (nI (fo (va_up S 0 0) j ln.toInt i.toInt n.toInt) = 0 → X) ∧ (¬ nI (fo (va_up S 0 0) j ln.toInt i.toInt n.toInt) = 0 → Y) := fun f g => by rw [ef]; exact pk_eq _ 0 f g
  have kf : fo S j ln.toInt i.toInt n.toInt ≠ 0 → K (some (.int (-10 - nI (fo (va_up S 0 0) j ln.toInt i.toInt n.toInt)))) (hpC tc (va_up (va_up S 0 0) 0 (fo (va_up S 0 0) j ln.toInt i.toInt n.toInt)) G) := fun h => by
    rw [if_pos h] at hK
    rw [ef, show va_up (va_up S 0 0) 0 (fo S j ln.toInt i.toInt n.toInt) = va_up S 0 (fo S j ln.toInt i.toInt n.toInt) from bx_uu S 0 0 _]
    exact hK
  have go : fo S j ln.toInt i.toInt n.toInt = 0 → ∃ a m : Nat, i = nI a ∧ n = nI m ∧ a + m ≤ S (30 + j) ∧ m ≤ 60 ∧ ((ffR (G j) a m ≠ -1 ∧ K (some (.int (-100 - ffR (G j) a m))) (hpC tc (va_up S 0 0) G)) ∨ (ffR (G j) a m = -1 ∧ K (some (.int (nI ((m - 4) / 5)))) (hpC tc (va_up (stl (va_up S 0 0) (G j) a ((m - 4) / 5) ((m - 4) / 5)) 4 0) G))) := fun h => by
    obtain ⟨z1, z2, z3, z4, z5⟩ := fo_zero h
    obtain ⟨a, ha, rfl, ea⟩ := ti_of z4
    obtain ⟨m, hm, rfl, em⟩ := ti_of z3
    rw [if_neg (not_not_intro h), nt_n ha, nt_n hm] at hK
    have hz := (hwf.2.1 j hj).2.2
    refine ⟨a, m, rfl, rfl, by omega, by omega, ?_⟩
    by_cases h2 : ffR (G j) a m = -1
    · rw [if_pos h2] at hK; exact Or.inr ⟨h2, hK⟩
    · rw [if_neg h2] at hK; exact Or.inl ⟨h2, hK⟩
  clear hK hb
  have e30 : va_up S 0 0 (30 + j) = S (30 + j) := up0 S 0 (by omega)
  rcases four hj with rfl | rfl | rfl | rfl
  all_goals
    refine Exists.intro tc ⟨va_up S 0 0, G, _, ln, i, n, hj, rfl, rfl, hw0, ?_⟩
    refine b0 (fun h4 => ?_) (fun h4 => ?_)
    rotate_left
    · exact Exists.intro tc ⟨va_up S 0 0, G, _, rfl, rfl, kf h4⟩
    obtain ⟨a, m, rfl, rfl, ham, hm60, kk⟩ := go h4
    refine Exists.intro tc ⟨va_up S 0 0, G, _, a, m, hj, (by rw [e30]; exact ham), rfl, rfl, hw0, fun hall => ?_⟩
    rcases kk with ⟨hff, kF⟩ | ⟨hff, kT⟩
    · exact And.intro (fun z => absurd z hff) (fun _ => kF)
    · obtain ⟨hnone, h9, h5⟩ := ffR_ok (by omega) hff
      have hgo := hall hnone
      have h24 := go_len hgo
      obtain ⟨c, rfl, hc1, hc4⟩ : ∃ c, m = 4 + 5 * c ∧ 1 ≤ c ∧ c ≤ 4 := ⟨(m - 4) / 5, by omega, by omega, by omega⟩
      have ec : (4 + 5 * c - 4) / 5 = c := by omega
      rw [ec] at kT
      rw [hff]
      refine And.intro (fun _ => ?_) (fun z => absurd rfl z)
      refine Exists.intro tc ⟨va_up S 0 0, G, _, a, c, hj, hc1, hc4, (by rw [e30]; exact ham), rfl, rfl, hw0, hgo, fun T hT => ?_⟩
      rw [← hT] at kT
      have e3 : T 3 = c := by rw [hT]; exact (stl_123 _ _ a c c hc4).2.2
      clear hT
      have kT2 : K (some (.int (nI (T 3)))) (hpC tc (va_up T 4 0) G) := by rw [e3]; exact kT
      exact kT2)
set_option maxRecDepth 100000 in
set_option maxHeartbeats 4000000 in
theorem m_X7_county (l : Launch) : ip_Met l yX7_county cX7_county 8 (some .int) (ip_rm 5) C_X7_county := ip_met tb_X7_county 400 (by decide +kernel) fl_X7_ok cn_X7_ok (ip_cs1 (ip_gsV (m_X7_sheetOf l) (ip_in [230, 232, 0, 32, 233] (by decide +kernel) (by decide +kernel)) rfl ⟨by decide +kernel, by decide +kernel, by decide +kernel⟩ ⟨rfl, rfl, Nat.le_of_ble_eq_true rfl, Nat.le_of_ble_eq_true rfl⟩) (ip_cs1 (ip_gsS (m_X7_isLane l) (ip_in [234, 235, 32, 236] (by decide +kernel) (by decide +kernel)) ⟨by decide +kernel, by decide +kernel, by decide +kernel⟩ ⟨rfl, rfl, Nat.le_of_ble_eq_true rfl, Nat.le_of_ble_eq_true rfl⟩) (ip_cs1 (ip_gsV (m_X5_faultOf l) (ip_in [237, 238, 239, 38, 240] (by decide +kernel) (by decide +kernel)) rfl ⟨by decide +kernel, by decide +kernel, by decide +kernel⟩ ⟨rfl, rfl, Nat.le_of_ble_eq_true rfl, Nat.le_of_ble_eq_true rfl⟩) (ip_cs1 (ip_gsV (m_X7_faulty l) (ip_in [245, 247, 1, 32, 248] (by decide +kernel) (by decide +kernel)) rfl ⟨by decide +kernel, by decide +kernel, by decide +kernel⟩ ⟨rfl, rfl, Nat.le_of_ble_eq_true rfl, Nat.le_of_ble_eq_true rfl⟩) (ip_cs1 (ip_gsS (m_X1_firstFault l) (ip_in [249, 250, 40, 251] (by decide +kernel) (by decide +kernel)) ⟨by decide +kernel, by decide +kernel, by decide +kernel⟩ ⟨rfl, rfl, Nat.le_of_ble_eq_true rfl, Nat.le_of_ble_eq_true rfl⟩) (ip_cs1 (ip_gsS (m_X1_settle l) (ip_in [268, 269, 40, 270] (by decide +kernel) (by decide +kernel)) ⟨by decide +kernel, by decide +kernel, by decide +kernel⟩ ⟨rfl, rfl, Nat.le_of_ble_eq_true rfl, Nat.le_of_ble_eq_true rfl⟩) (ip_cs0))))))) ck_X7_county rfl p_X7_county
