/-! ===== the reference: sheet, put, cell ===== -/
def zf (g : Nat → Int32) (k i : Nat) : Nat → Int32 := fun j => if 60 * k ≤ j ∧ j < 60 * k + i then 0 else g j
theorem zf_0 (g : Nat → Int32) (k : Nat) : zf g k 0 = g := by funext j; unfold zf; rw [if_neg (by omega)]
theorem zf_s (g : Nat → Int32) (k i : Nat) : upd (zf g k i) (60 * k + i) 0 = zf g k (i + 1) := by
  funext j
  unfold upd zf
  by_cases e : j = 60 * k + i
  · rw [if_pos e, if_pos (by omega)]
  · rw [if_neg e]
    by_cases e2 : 60 * k ≤ j ∧ j < 60 * k + i
    · rw [if_pos e2, if_pos (by omega)]
    · rw [if_neg e2, if_neg (by omega)]
theorem cel_i (k i : Nat) : (60 : Int32) * nI k + nI i = nI (60 * k + i) := by rw [show (60 : Int32) = nI 60 from rfl, pk_mul, nI_add]
def C_X8_sheet : ip_C := fun vs hp K => ∃ tc S G R N, ∃ k ln n : Int32, vs = [.ref 0, .int k, .int ln, .int n] ∧ hp = hpM R N ∧ wfC S G ∧ relA tc S G R N ∧ ∀ R' N', relA tc (q_sheet S G k ln n).2.1 (q_sheet S G k ln n).2.2 R' N' → K (some (.int (q_sheet S G k ln n).1)) (hpM R' N')
def cs_X8_sheet : List ip_G := [(82, 1, 0, C_X8_isSheet), (86, 1, 0, C_X8_isSort), (93, 2, 8, C_X8_fails)]
def I_X8_sheet (P : Prop) (R : Nat → Int32) (N : Nat → Nat → Int32) (k ln n : Nat) : Nat → Nat → ip_P := fun pc kk L st hp => pc = 57 ∧ P ∧ ∃ (i : Nat) (y : Int32) (F : Nat → Int32), i ≤ 60 ∧ kk = 60 - i ∧ L = [some (.ref 0), some (.int (nI k)), some (.int (nI ln)), some (.int (nI n)), some (.int y)] ∧ st = [] ∧ hp = hpM (va_up R 0 0) (va_up (va_up (va_up N 1 (upd (N 1) (nI k).toNatClampNeg (nI ln))) 2 (upd (N 2) (nI k).toNatClampNeg (nI n))) 3 F) ∧ y = nI i ∧ F = zf (N 3) k i
theorem relH_sheet {S : Nat → Nat} {G N : Nat → Nat → Int32} {k : Nat} (ln n : Nat) (hk : k < 4) (h : relH S G N) : relH (va_up (va_up (va_up (va_up S 0 0) (10 + k) 1) (20 + k) ln) (30 + k) n) (va_up G k (fa_fill (fun _ => 0) (G k) 60)) (va_up (va_up (va_up N 1 (upd (N 1) k (nI ln))) 2 (upd (N 2) k (nI n))) 3 (zf (N 3) k 60)) := by
  intro j hj
  obtain ⟨a, b⟩ := h j hj
  have e1 : va_up (va_up (va_up N 1 (upd (N 1) k (nI ln))) 2 (upd (N 2) k (nI n))) 3 (zf (N 3) k 60) 1 = upd (N 1) k (nI ln) := rfl
  have e2 : va_up (va_up (va_up N 1 (upd (N 1) k (nI ln))) 2 (upd (N 2) k (nI n))) 3 (zf (N 3) k 60) 2 = upd (N 2) k (nI n) := rfl
  have e3 : va_up (va_up (va_up N 1 (upd (N 1) k (nI ln))) 2 (upd (N 2) k (nI n))) 3 (zf (N 3) k 60) 3 = zf (N 3) k 60 := rfl
  rw [e1, e2, e3]
  by_cases e : j = k
  · subst e
    have s1 : va_up (va_up (va_up (va_up S 0 0) (10 + j) 1) (20 + j) ln) (30 + j) n (10 + j) = 1 := by rw [up_n _ (by omega), up_n _ (by omega), va_up_self]
    have s2 : va_up (va_up (va_up (va_up S 0 0) (10 + j) 1) (20 + j) ln) (30 + j) n (20 + j) = ln := by rw [up_n _ (by omega), va_up_self]
    have s3 : va_up (va_up (va_up (va_up S 0 0) (10 + j) 1) (20 + j) ln) (30 + j) n (30 + j) = n := by rw [va_up_self]
    rw [s1, s2, s3, va_up_self]
    refine ⟨fun z => (by cases z), fun _ => ⟨pk_us, pk_us, fun i hi => ?_⟩⟩
    rw [fa_fill_in hi]
    unfold zf
    rw [if_pos (by omega)]
  · have s1 : va_up (va_up (va_up (va_up S 0 0) (10 + k) 1) (20 + k) ln) (30 + k) n (10 + j) = S (10 + j) := by rw [up_n _ (by omega), up_n _ (by omega), up_n _ (by omega), up_n _ (by omega)]
    have s2 : va_up (va_up (va_up (va_up S 0 0) (10 + k) 1) (20 + k) ln) (30 + k) n (20 + j) = S (20 + j) := by rw [up_n _ (by omega), up_n _ (by omega), up_n _ (by omega), up_n _ (by omega)]
    have s3 : va_up (va_up (va_up (va_up S 0 0) (10 + k) 1) (20 + k) ln) (30 + k) n (30 + j) = S (30 + j) := by rw [up_n _ (by omega), up_n _ (by omega), up_n _ (by omega), up_n _ (by omega)]
    rw [s1, s2, s3, pk_un e, pk_un e, up_n (f := G) j e]
    refine ⟨a, fun z => ⟨(b z).1, (b z).2.1, fun i hi => ?_⟩⟩
    rw [← (b z).2.2 i hi]
    unfold zf
    rw [if_neg (by omega)]
theorem relA_sheet {tc : Int32} {S : Nat → Nat} {G : Nat → Nat → Int32} {R : Nat → Int32} {N : Nat → Nat → Int32} {k : Nat} (ln n : Nat) (hk : k < 4) (h : relA tc S G R N) : relA tc (va_up (va_up (va_up (va_up S 0 0) (10 + k) 1) (20 + k) ln) (30 + k) n) (va_up G k (fa_fill (fun _ => 0) (G k) 60)) (va_up R 0 0) (va_up (va_up (va_up N 1 (upd (N 1) (nI k).toNatClampNeg (nI ln))) 2 (upd (N 2) (nI k).toNatClampNeg (nI n))) 3 (zf (N 3) k 60)) := by
  rw [nI_clamp (n := k) (by omega)]
  have hs : ∀ i, i < 10 ∨ 40 ≤ i → va_up (va_up (va_up (va_up S 0 0) (10 + k) 1) (20 + k) ln) (30 + k) n i = va_up S 0 0 i := fun i hi => by rw [up_n _ (by omega), up_n _ (by omega), up_n _ (by omega)]
  obtain ⟨h0, h1, hm, hr, hh⟩ := h
  refine ⟨by rw [hs 0 (by omega)]; rfl, h1, ?_, ?_, relH_sheet ln n hk hh⟩
  · exact relM_S hm (by rw [hs 1 (by omega)]; rfl) (by rw [hs 2 (by omega)]; rfl) (by rw [hs 3 (by omega)]; rfl) (fun i hi => by rw [hs i (by omega), up_n _ (by omega)])
  · obtain ⟨r1, r2, r3, r4⟩ := hr
    exact ⟨by rw [hs 4 (by omega)]; exact r1, by rw [up_n 4 (by omega)]; exact r2, by rw [up_n 5 (by omega)]; exact r3, by rw [up_n 6 (by omega)]; exact r4⟩
theorem p_X8_sheet : ip_Pf fl_X8 cn_X8 cs_X8_sheet (some .int) tb_X8_sheet 5 C_X8_sheet := by
  rintro _ _ K ⟨tc, S, G, R, N, k, ln, n, rfl, rfl, hwf, hrel, hK⟩
  have h0 := relA_f 0 hrel
  refine ⟨Nat.le_of_ble_eq_true rfl, I_X8_sheet (inI k 4 ∧ inI ln 3 ∧ 0 ≤ n.toInt ∧ n.toInt ≤ 60) R N (nt k) (nt ln) (nt n), ?_, ?_⟩
  · refine Exists.intro k ⟨rfl, fun b hb => ?_⟩
    refine ip_bn (fun h => ?_) (fun h => ?_)
    · have hin : inI k 4 := hb.mp h
      rw [q_sheet, if_neg (not_not_intro hin)] at hK
      refine Exists.intro ln ⟨rfl, fun b2 hb2 => ?_⟩
      refine ip_bt (fun h2 => ?_) (fun h2 => ?_)
      · have hin2 : ¬ inI ln 3 := fun z => by rw [hb2.mpr z] at h2; cases h2
        rw [if_pos (.inl hin2)] at hK
        exact hK _ N h0
      have hin2 : inI ln 3 := hb2.mp h2
      refine bz_le n.toInt 60 (fun h3 => ?_) (fun h3 => ?_)
      · rw [if_neg (by rintro (z | z); exact z hin2; omega)] at hK
        refine bz_le 0 n.toInt (fun h4 => ?_) (fun h4 => ?_)
        · obtain ⟨i, hi, rfl, ei⟩ := ti_of hin.1
          obtain ⟨j, hj, rfl, ej⟩ := ti_of hin2.1
          obtain ⟨q, hq, rfl, eq⟩ := ti_of h4
          have hv : vp_in (nI i) 4 := pk_in i 4 (by have := hin.2; omega)
          have hP : inI (nI i) 4 ∧ inI (nI j) 3 ∧ 0 ≤ (nI q).toInt ∧ (nI q).toInt ≤ 60 := ⟨hin, hin2, h4, h3⟩
          rw [nt_n hi, nt_n hj, nt_n hq]
          refine And.intro hv (And.intro hv ?_)
          exact Exists.intro 60 ⟨trivial, rfl, hP, 0, _, N 3, by omega, rfl, rfl, rfl, rfl, rfl, by rw [zf_0]⟩
        · rw [if_pos h4] at hK
          refine Exists.intro (va_up R 0 0) ⟨N, 4, rfl, rfl, ?_⟩
          exact hK (va_up R 0 (nI 4)) N (relA_f 4 hrel)
      · rw [if_pos (.inr (by omega))] at hK
        exact hK _ N h0
    · have hin : ¬ inI k 4 := fun z => by rw [hb.mpr z] at h; cases h
      rw [q_sheet, if_pos hin] at hK
      exact hK _ N h0
  · rintro pc kk L st hp ⟨rfl, ⟨hin, hin2, h4, h3⟩, i, y, F, hi, rfl, rfl, rfl, rfl, rfl, rfl⟩
    have hP : inI k 4 ∧ inI ln 3 ∧ 0 ≤ n.toInt ∧ n.toInt ≤ 60 := ⟨hin, hin2, h4, h3⟩
    obtain ⟨l1, -⟩ := inI_nt hin
    rw [q_sheet, if_neg (not_not_intro hin), if_neg (by rintro (z | z); exact z hin2; omega), if_neg (by omega)] at hK
    generalize nt k = a at l1 hK
    refine pk_le 60 i (fun h => ?_) (fun h => ?_)
    · obtain rfl : i = 60 := by omega
      exact hK _ _ (relA_sheet _ _ l1 hrel)
    · have hc := cel_i a i
      have hv : vp_in ((60 : Int32) * nI a + nI i) 240 := by rw [hc]; exact pk_in (60 * a + i) 240 (by omega)
      have hz : upd (zf (N 3) a i) ((60 : Int32) * nI a + nI i).toNatClampNeg 0 = zf (N 3) a (i + 1) := by rw [hc, nI_clamp (by omega), zf_s]
      refine And.intro hv ?_
      exact Exists.intro (60 - (i + 1)) ⟨by show _ < _; omega, rfl, hP, i + 1, _, _, by omega, rfl, rfl, rfl, rfl, nI_1 i, hz⟩
set_option maxRecDepth 100000 in
set_option maxHeartbeats 4000000 in
theorem m_X8_sheet (l : Launch) : ip_Met l yX8_sheet cX8_sheet 5 (some .int) (ip_rm 2) C_X8_sheet := ip_met tb_X8_sheet 400 (by decide +kernel) fl_X8_ok cn_X8_ok (ip_cs1 (ip_gsS (m_X8_isSheet l) (ip_in [713, 714, 39, 715] (by decide +kernel) (by decide +kernel)) ⟨by decide +kernel, by decide +kernel, by decide +kernel⟩ ⟨rfl, rfl, Nat.le_of_ble_eq_true rfl, Nat.le_of_ble_eq_true rfl⟩) (ip_cs1 (ip_gsS (m_X8_isSort l) (ip_in [719, 720, 39, 721] (by decide +kernel) (by decide +kernel)) ⟨by decide +kernel, by decide +kernel, by decide +kernel⟩ ⟨rfl, rfl, Nat.le_of_ble_eq_true rfl, Nat.le_of_ble_eq_true rfl⟩) (ip_cs1 (ip_gsV (m_X8_fails l) (ip_in [726, 728, 10, 39, 729] (by decide +kernel) (by decide +kernel)) rfl ⟨by decide +kernel, by decide +kernel, by decide +kernel⟩ ⟨rfl, rfl, Nat.le_of_ble_eq_true rfl, Nat.le_of_ble_eq_true rfl⟩) (ip_cs0)))) ck_X8_sheet rfl p_X8_sheet
theorem nx1 (L : Nat) (h : L ≤ 60) : (nI L - 1).toInt = (L : Int) - 1 := pk_sub_toInt (a := L) (b := 1) (by omega) (by omega)
theorem relH_put {S : Nat → Nat} {G N : Nat → Nat → Int32} {k i : Nat} (v : Int32) (hk : k < 4) (hi : i < 60) (h : relH S G N) : relH S (va_up G k (upd (G k) i v)) (va_up N 3 (upd (N 3) (60 * k + i) v)) := by
  intro j hj
  obtain ⟨a, b⟩ := h j hj
  refine ⟨a, fun z => ⟨(b z).1, (b z).2.1, fun x hx => ?_⟩⟩
  have e3 : va_up N 3 (upd (N 3) (60 * k + i) v) 3 = upd (N 3) (60 * k + i) v := rfl
  rw [e3]
  by_cases e : j = k
  · subst e
    rw [va_up_self]
    by_cases e2 : x = i
    · subst e2; rw [pk_us, pk_us]
    · rw [pk_un e2, pk_un (by omega), (b z).2.2 x hx]
  · rw [up_n (f := G) j e, pk_un (by omega), (b z).2.2 x hx]
def C_X8_put : ip_C := fun vs hp K => ∃ tc S G R N, ∃ k i v : Int32, vs = [.ref 0, .int k, .int i, .int v] ∧ hp = hpM R N ∧ wfC S G ∧ relA tc S G R N ∧ ∀ R' N', relA tc (q_put S G k i v).2.1 (q_put S G k i v).2.2 R' N' → K (some (.int (q_put S G k i v).1)) (hpM R' N')
def cs_X8_put : List ip_G := [(82, 1, 0, C_X8_isSheet), (93, 2, 8, C_X8_fails), (65, 3, 0, C_X8_within)]
theorem p_X8_put : ip_Pf fl_X8 cn_X8 cs_X8_put (some .int) tb_X8_put 4 C_X8_put := ip_pf0 (by
  rintro _ _ K ⟨tc, S, G, R, N, k, i, v, rfl, rfl, hwf, hrel, hK⟩
  refine ⟨Nat.le_of_ble_eq_true rfl, ?_⟩
  have h0 := relA_f 0 hrel
  refine Exists.intro k ⟨rfl, fun b hb => ?_⟩
  refine ip_bn (fun h => ?_) (fun h => ?_)
  · have hin : inI k 4 := hb.mp h
    rw [q_put, if_neg (not_not_intro hin)] at hK
    obtain ⟨a, ha, rfl, ea⟩ := ti_of hin.1
    have l1 : a < 4 := by have := hin.2; omega
    rw [nt_n ha] at hK
    obtain ⟨hv, ⟨z0, e1⟩ | ⟨z1, e1, e9, e2, -, l2, l3⟩⟩ := sh_at hrel.2.2.2.2 hwf.2.1 l1
    · rw [show fo S a (S (20 + a)) i.toInt 1 = 1 by rw [fo, if_pos z0], if_pos (by decide)] at hK
      refine And.intro hv (And.intro (fun z => absurd e1 z) (fun _ => ?_))
      refine Exists.intro (va_up R 0 0) ⟨N, 1, rfl, rfl, ?_⟩
      exact hK (va_up R 0 (nI 1)) N (relA_f 1 hrel)
    · refine And.intro hv (And.intro (fun _ => ?_) (fun z => absurd z e9))
      refine And.intro hv ?_
      have hx : (N 2 (nI a).toNatClampNeg - 1).toInt = (S (30 + a) : Int) - 1 := by rw [e2]; exact nx1 _ l3
      refine Exists.intro i ⟨0, N 2 (nI a).toNatClampNeg - 1, rfl, fun b2 hb2 => ?_⟩
      have hb2 : b2 = true ↔ inI i (S (30 + a)) := by
        have t0 : (0 : Int32).toInt = 0 := by decide
        rw [hb2, t0, hx]
        unfold inI
        omega
      refine ip_bn (fun h2 => ?_) (fun h2 => ?_)
      · have hin2 := hb2.mp h2
        have hf : fo S a (S (20 + a)) i.toInt 1 = 0 := by rw [fo, if_neg (by omega), if_neg (by simp), if_neg (by omega), if_pos (by have := hin2.1; have := hin2.2; omega)]
        rw [hf, if_neg (by simp)] at hK
        obtain ⟨j, hj, rfl, ej⟩ := ti_of hin2.1
        have l4 : j < 60 := by have := hin2.2; omega
        rw [nt_n hj] at hK
        have hc := cel_i a j
        have hv2 : vp_in ((60 : Int32) * nI a + nI j) 240 := by rw [hc]; exact pk_in (60 * a + j) 240 (by omega)
        have hK' : ∀ x, cut (S (20 + a)) v = x → K (some (.int 1)) (hpM (va_up R 0 0) (va_up N 3 (upd (N 3) ((60 : Int32) * nI a + nI j).toNatClampNeg x))) := fun x ex => by
          rw [hc, nI_clamp (by omega)]
          refine hK _ _ ?_
          rw [ex]
          obtain ⟨a0, a1, a2, a3, a4⟩ := h0
          refine ⟨a0, a1, a2, ?_, relH_put x l1 l4 a4⟩
          obtain ⟨r1, r2, r3, r4⟩ := a3
          exact ⟨r1, r2.trans (up_n (f := G) (k := a) 4 (by omega)).symm, r3.trans (up_n (f := G) (k := a) 5 (by omega)).symm, r4.trans (up_n (f := G) (k := a) 6 (by omega)).symm⟩
        have g0 : ∀ {X Y : Prop}, (S (20 + a) ≠ 0 → X) → (S (20 + a) = 0 → Y) → (¬ N 1 (nI a).toNatClampNeg = 0 → X) ∧ (N 1 (nI a).toNatClampNeg = 0 → Y) := fun f g => by rw [e1]; exact pk_ne _ 0 f g
        have g1 : ∀ {X Y : Prop}, (S (20 + a) ≠ 1 → X) → (S (20 + a) = 1 → Y) → (¬ N 1 (nI a).toNatClampNeg = 1 → X) ∧ (N 1 (nI a).toNatClampNeg = 1 → Y) := fun f g => by rw [e1]; exact pk_ne _ 1 f g
        refine And.intro hv ?_
        refine g0 (fun h5 => ?_) (fun h5 => ?_)
        · refine And.intro hv ?_
          refine g1 (fun h6 => ?_) (fun h6 => ?_)
          · exact And.intro hv2 (hK' v (by rw [cut, if_neg h5, if_neg h6]))
          · exact And.intro hv2 (hK' v.toInt16.toInt32 (by rw [cut, if_neg h5, if_pos h6]))
        · exact And.intro hv2 (hK' v.toInt8.toInt32 (by rw [cut, if_pos h5]))
      · have hin2 : ¬ inI i (S (30 + a)) := fun z => by rw [hb2.mpr z] at h2; cases h2
        have hf : fo S a (S (20 + a)) i.toInt 1 = 3 := by rw [fo, if_neg (by omega), if_neg (by simp), if_neg (by omega), if_neg (fun z => hin2 ⟨z.1, by omega⟩)]
        rw [hf, if_pos (by decide)] at hK
        refine Exists.intro (va_up R 0 0) ⟨N, 3, rfl, rfl, ?_⟩
        exact hK (va_up R 0 (nI 3)) N (relA_f 3 hrel)
  · have hin : ¬ inI k 4 := fun z => by rw [hb.mpr z] at h; cases h
    rw [q_put, if_pos hin] at hK
    exact hK _ N h0)
set_option maxRecDepth 100000 in
set_option maxHeartbeats 4000000 in
theorem m_X8_put (l : Launch) : ip_Met l yX8_put cX8_put 4 (some .int) (ip_rm 2) C_X8_put := ip_met tb_X8_put 400 (by decide +kernel) fl_X8_ok cn_X8_ok (ip_cs1 (ip_gsS (m_X8_isSheet l) (ip_in [713, 714, 39, 715] (by decide +kernel) (by decide +kernel)) ⟨by decide +kernel, by decide +kernel, by decide +kernel⟩ ⟨rfl, rfl, Nat.le_of_ble_eq_true rfl, Nat.le_of_ble_eq_true rfl⟩) (ip_cs1 (ip_gsV (m_X8_fails l) (ip_in [726, 728, 10, 39, 729] (by decide +kernel) (by decide +kernel)) rfl ⟨by decide +kernel, by decide +kernel, by decide +kernel⟩ ⟨rfl, rfl, Nat.le_of_ble_eq_true rfl, Nat.le_of_ble_eq_true rfl⟩) (ip_cs1 (ip_gsS (m_X8_within l) (ip_in [716, 717, 39, 718] (by decide +kernel) (by decide +kernel)) ⟨by decide +kernel, by decide +kernel, by decide +kernel⟩ ⟨rfl, rfl, Nat.le_of_ble_eq_true rfl, Nat.le_of_ble_eq_true rfl⟩) (ip_cs0)))) ck_X8_put rfl p_X8_put
def C_X8_cell : ip_C := fun vs hp K => ∃ tc S G R N, ∃ k i ln : Int32, vs = [.ref 0, .int k, .int i, .int ln] ∧ hp = hpM R N ∧ wfC S G ∧ relA tc S G R N ∧ ∀ R' N', relA tc (q_cell S G k i ln).2 G R' N' → K (some (.long (q_cell S G k i ln).1)) (hpM R' N')
def cs_X8_cell : List ip_G := [(82, 1, 0, C_X8_isSheet), (86, 1, 0, C_X8_isSort), (178, 2, 8, C_X8_lost), (65, 3, 0, C_X8_within)]
theorem p_X8_cell : ip_Pf fl_X8 cn_X8 cs_X8_cell (some .long) tb_X8_cell 4 C_X8_cell := ip_pf0 (by
  rintro _ _ K ⟨tc, S, G, R, N, k, i, ln, rfl, rfl, hwf, hrel, hK⟩
  refine ⟨Nat.le_of_ble_eq_true rfl, ?_⟩
  have h0 := relA_f 0 hrel
  refine Exists.intro k ⟨rfl, fun b hb => ?_⟩
  refine ip_bt (fun h => ?_) (fun h => ?_)
  · have hin : ¬ inI k 4 := fun z => by rw [hb.mpr z] at h; cases h
    rw [q_cell, if_pos (.inl hin)] at hK
    exact hK _ N h0
  have hin : inI k 4 := hb.mp h
  refine Exists.intro ln ⟨rfl, fun b2 hb2 => ?_⟩
  refine ip_bn (fun h2 => ?_) (fun h2 => ?_)
  · have hin2 : inI ln 3 := hb2.mp h2
    rw [q_cell, if_neg (by rintro (z | z); exact z hin; exact z hin2)] at hK
    obtain ⟨a, ha, rfl, ea⟩ := ti_of hin.1
    have l1 : a < 4 := by have := hin.2; omega
    rw [nt_n ha] at hK
    obtain ⟨hv, ⟨z0, e1⟩ | ⟨z1, e1, e9, e2, e3, l2, l3⟩⟩ := sh_at hrel.2.2.2.2 hwf.2.1 l1
    · rw [show fo S a ln.toInt i.toInt 1 = 1 by rw [fo, if_pos z0], if_pos (by decide)] at hK
      refine And.intro hv (And.intro (fun _ => ?_) (fun z => absurd e1 z))
      refine And.intro hv (And.intro (fun z => absurd e1 z) (fun _ => ?_))
      refine Exists.intro (va_up R 0 0) ⟨N, 1, rfl, rfl, ?_⟩
      exact hK (va_up R 0 (nI 1)) N (relA_f 1 hrel)
    · refine And.intro hv (And.intro (fun z => absurd z e9) (fun _ => ?_))
      have g1 : ∀ {X Y : Prop}, ((S (20 + a) : Int) = ln.toInt → X) → ((S (20 + a) : Int) ≠ ln.toInt → Y) → (N 1 (nI a).toNatClampNeg = ln → X) ∧ (¬ N 1 (nI a).toNatClampNeg = ln → Y) := fun f g => by rw [e1]; exact bz_eq _ _ f g (ti_n (by omega)) rfl
      refine And.intro hv ?_
      refine g1 (fun h3 => ?_) (fun h3 => ?_)
      · refine And.intro hv (And.intro (fun _ => ?_) (fun z => absurd z e9))
        refine And.intro hv ?_
        have hx : (N 2 (nI a).toNatClampNeg - 1).toInt = (S (30 + a) : Int) - 1 := by rw [e2]; exact nx1 _ l3
        refine Exists.intro i ⟨0, N 2 (nI a).toNatClampNeg - 1, rfl, fun b2 hb2 => ?_⟩
        have hb2 : b2 = true ↔ inI i (S (30 + a)) := by
          have t0 : (0 : Int32).toInt = 0 := by decide
          rw [hb2, t0, hx]
          unfold inI
          omega
        refine ip_bn (fun h2 => ?_) (fun h2 => ?_)
        · have hin2 := hb2.mp h2
          have hf : fo S a ln.toInt i.toInt 1 = 0 := by rw [fo, if_neg (by omega), if_neg (not_not_intro h3), if_neg (by omega), if_pos (by have := hin2.1; have := hin2.2; omega)]
          rw [hf, if_neg (by simp)] at hK
          obtain ⟨j, hj, rfl, ej⟩ := ti_of hin2.1
          have l4 : j < 60 := by have := hin2.2; omega
          have hc := cel_i a j
          have hv2 : vp_in ((60 : Int32) * nI a + nI j) 240 := by rw [hc]; exact pk_in (60 * a + j) 240 (by omega)
          have hq : vat S G a (nI j).toInt = N 3 ((60 : Int32) * nI a + nI j).toNatClampNeg := by
            rw [hc, nI_clamp (by omega), e3 j l4, vat, if_pos hin2, ej]
            rfl
          rw [hq] at hK
          exact And.intro hv2 (hK _ N h0)
        · have hin2 : ¬ inI i (S (30 + a)) := fun z => by rw [hb2.mpr z] at h2; cases h2
          have hf : fo S a ln.toInt i.toInt 1 = 3 := by rw [fo, if_neg (by omega), if_neg (not_not_intro h3), if_neg (by omega), if_neg (fun z => hin2 ⟨z.1, by omega⟩)]
          rw [hf, if_pos (by decide)] at hK
          refine Exists.intro (va_up R 0 0) ⟨N, 3, rfl, rfl, ?_⟩
          exact hK (va_up R 0 (nI 3)) N (relA_f 3 hrel)
      · have hf : fo S a ln.toInt i.toInt 1 = 2 := by rw [fo, if_neg (by omega), if_pos h3]
        rw [hf, if_pos (by decide)] at hK
        refine Exists.intro (va_up R 0 0) ⟨N, 2, rfl, rfl, ?_⟩
        exact hK (va_up R 0 (nI 2)) N (relA_f 2 hrel)
  · have hin2 : ¬ inI ln 3 := fun z => by rw [hb2.mpr z] at h2; cases h2
    rw [q_cell, if_pos (.inr hin2)] at hK
    exact hK _ N h0)
set_option maxRecDepth 100000 in
set_option maxHeartbeats 4000000 in
theorem m_X8_cell (l : Launch) : ip_Met l yX8_cell cX8_cell 4 (some .long) (ip_rm 2) C_X8_cell := ip_met tb_X8_cell 400 (by decide +kernel) fl_X8_ok cn_X8_ok (ip_cs1 (ip_gsS (m_X8_isSheet l) (ip_in [713, 714, 39, 715] (by decide +kernel) (by decide +kernel)) ⟨by decide +kernel, by decide +kernel, by decide +kernel⟩ ⟨rfl, rfl, Nat.le_of_ble_eq_true rfl, Nat.le_of_ble_eq_true rfl⟩) (ip_cs1 (ip_gsS (m_X8_isSort l) (ip_in [719, 720, 39, 721] (by decide +kernel) (by decide +kernel)) ⟨by decide +kernel, by decide +kernel, by decide +kernel⟩ ⟨rfl, rfl, Nat.le_of_ble_eq_true rfl, Nat.le_of_ble_eq_true rfl⟩) (ip_cs1 (ip_gsV (m_X8_lost l) (ip_in [855, 857, 27, 39, 858] (by decide +kernel) (by decide +kernel)) rfl ⟨by decide +kernel, by decide +kernel, by decide +kernel⟩ ⟨rfl, rfl, Nat.le_of_ble_eq_true rfl, Nat.le_of_ble_eq_true rfl⟩) (ip_cs1 (ip_gsS (m_X8_within l) (ip_in [716, 717, 39, 718] (by decide +kernel) (by decide +kernel)) ⟨by decide +kernel, by decide +kernel, by decide +kernel⟩ ⟨rfl, rfl, Nat.le_of_ble_eq_true rfl, Nat.le_of_ble_eq_true rfl⟩) (ip_cs0))))) ck_X8_cell rfl p_X8_cell
