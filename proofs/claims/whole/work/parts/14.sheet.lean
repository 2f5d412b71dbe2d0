/-! ===== rows of numbers: fill, Sheet ===== -/
theorem up_same {α : Type} (G : Nat → α) (j : Nat) : va_up G j (G j) = G := by
  funext i
  unfold va_up
  split
  · rename_i h; rw [h]
  · rfl
/-- where a row stands, how long it is -/
def rowAt (j a n : Nat) : Prop := (j = 0 ∧ a = 3 ∧ n = 60) ∨ (j = 1 ∧ a = 5 ∧ n = 60) ∨ (j = 2 ∧ a = 7 ∧ n = 60) ∨ (j = 3 ∧ a = 9 ∧ n = 60) ∨ (j = 9 ∧ a = 24 ∧ n = 96) ∨ (j = 10 ∧ a = 25 ∧ n = 6)
def C_J7_fill : ip_C := fun vs hp K => ∃ tc S G, ∃ (j a n : Nat) (v : Int32), rowAt j a n ∧ vs = [.ref a, .int v] ∧ hp = hpC tc S G ∧ K none (hpC tc S (va_up G j (fa_fill (fun _ => v) (G j) n)))
def cs_J7_fill : List ip_G := []
def I_J7_fill (tc : Int32) (S : Nat → Nat) (G : Nat → Nat → Int32) (j a n : Nat) (v : Int32) : Nat → Nat → ip_P := fun pc k L st hp => pc = 5 ∧ ∃ (i : Nat) (x : Int32) (F : Nat → Int32), i ≤ n ∧ k = n - i ∧ L = [some (.ref a), some (.int v), some (.int x), some (.int (nI n))] ∧ st = [] ∧ hp = hpC tc S (va_up G j F) ∧ x = nI i ∧ F = fa_fill (fun _ => v) (G j) i
set_option maxHeartbeats 4000000 in
set_option maxRecDepth 100000 in
theorem p_J7_fill : ip_Pf [] [] cs_J7_fill none tb_J7_fill_53178 4 C_J7_fill := by
  rintro _ _ K ⟨tc, S, G, j, a, n, v, hr, rfl, rfl, hK⟩
  refine ⟨Nat.le_of_ble_eq_true rfl, I_J7_fill tc S G j a n v, ?_, ?_⟩
  · have h0 : fa_fill (fun _ => v) (G j) 0 = G j := fa_fill_0 _ _
    have hG : hpC tc S G = hpC tc S (va_up G j (fa_fill (fun _ => v) (G j) 0)) := by rw [h0, up_same]
    rw [hG]
    rcases hr with ⟨rfl, rfl, rfl⟩ | ⟨rfl, rfl, rfl⟩ | ⟨rfl, rfl, rfl⟩ | ⟨rfl, rfl, rfl⟩ | ⟨rfl, rfl, rfl⟩ | ⟨rfl, rfl, rfl⟩
    all_goals exact Exists.intro _ ⟨trivial, rfl, 0, _, _, Nat.zero_le _, rfl, rfl, rfl, rfl, rfl, rfl⟩
  · rintro pc k L st hp ⟨rfl, i, x, F, hi, rfl, rfl, rfl, rfl, rfl, rfl⟩
    have hn : n < 100 := by rcases hr with h | h | h | h | h | h <;> omega
    have hbr : ∀ {X Y : Prop}, (n ≤ i → X) → (i < n → Y) → (nI n ≤ nI i → X) ∧ (¬ nI n ≤ nI i → Y) := fun f g => pk_le n i f g
    have hend : n ≤ i → K none (hpC tc S (va_up G j (fa_fill (fun _ => v) (G j) i))) := fun h => by
      have : i = n := by omega
      subst this; exact hK
    have hin : i < n → vp_in (nI i) n := fun h => pk_in i n h
    have hnx : i < n → ∀ (x : Int32) (F : Nat → Int32), x = nI (i + 1) → F = fa_fill (fun _ => v) (G j) (i + 1) → ∃ k, ip_lt k (some (n - i)) ∧ I_J7_fill tc S G j a n v 5 k [some (.ref a), some (.int v), some (.int x), some (.int (nI n))] [] (hpC tc S (va_up G j F)) := fun h x F hx hF => ⟨n - (i + 1), by show _ < _; omega, rfl, i + 1, x, F, by omega, rfl, rfl, rfl, rfl, hx, hF⟩
    have h9 : nI i + 1 = nI (i + 1) := nI_1 i
    have h8 : upd (fa_fill (fun _ => v) (G j) i) (nI i).toNatClampNeg v = fa_fill (fun _ => v) (G j) (i + 1) := by
      rw [nI_clamp (by omega)]
      exact fa_fill_succ (fun _ => v) (G j) i
    rcases hr with ⟨rfl, rfl, rfl⟩ | ⟨rfl, rfl, rfl⟩ | ⟨rfl, rfl, rfl⟩ | ⟨rfl, rfl, rfl⟩ | ⟨rfl, rfl, rfl⟩ | ⟨rfl, rfl, rfl⟩
    all_goals
      refine hbr (fun h => hend h) (fun h => ?_)
      refine And.intro (hin h) ?_
      exact hnx h _ _ h9 h8
set_option maxRecDepth 100000 in
set_option maxHeartbeats 4000000 in
theorem m_J7_fill (l : Launch) : ip_Met l yJ7_fill_53178 cJ7_fill_53178 4 none (ip_rm 0) C_J7_fill := ip_met tb_J7_fill_53178 400 (by decide +kernel) ip_fl0 ip_cn0 (ip_cs0) ck_J7_fill_53178 rfl p_J7_fill
def wfH (S : Nat → Nat) : Prop := ∀ k, k < 4 → S (10 + k) ≤ 1 ∧ S (20 + k) ≤ 2 ∧ S (30 + k) ≤ 60
def C_X5_hasCells : ip_C := fun vs hp K => ∃ tc S G, ∃ (k : Nat) (i n : Int32), k < 4 ∧ vs = [.ref (2 + 2 * k), .int i, .int n] ∧ hp = hpC tc S G ∧ wfH S ∧ ∀ b : Bool, (b = true ↔ 0 ≤ n.toInt ∧ 0 ≤ i.toInt ∧ i.toInt + n.toInt ≤ S (30 + k)) → K (some (.int (ip_bi b))) hp
def cs_X5_hasCells : List ip_G := []
theorem p_X5_hasCells : ip_Pf fl_X5 [] cs_X5_hasCells (some .boolean) tb_X5_hasCells 3 C_X5_hasCells := ip_pf0 (by
  rintro _ _ K ⟨tc, S, G, k, i, n, hk, rfl, rfl, hwf, hK⟩
  refine ⟨Nat.le_of_ble_eq_true rfl, ?_⟩
  obtain ⟨-, -, hz⟩ := hwf k hk
  have hri := fb_rng i
  have b1 : ∀ {X Y : Prop}, ((S (30 + k) : Int) < i.toInt → X) → (i.toInt ≤ (S (30 + k) : Int) → Y) → (nI (S (30 + k)) < i → X) ∧ (¬ nI (S (30 + k)) < i → Y) := fun f g => bz_lt _ _ f g (ti_n (by omega)) rfl
  have es := ti_n (n := S (30 + k)) (by omega)
  have b2 : ∀ {X Y : Prop}, 0 ≤ i.toInt → i.toInt ≤ (S (30 + k) : Int) → ((S (30 + k) : Int) - i.toInt < n.toInt → X) → (n.toInt ≤ (S (30 + k) : Int) - i.toInt → Y) → (nI (S (30 + k)) - i < n → X) ∧ (¬ nI (S (30 + k)) - i < n → Y) := fun h1 h2 f g => bz_lt ((S (30 + k) : Int) - i.toInt) n.toInt f g (by rw [fb_subI (by rw [es]; omega) (by rw [es]; omega), es]) rfl
  have kF : ¬ (0 ≤ n.toInt ∧ 0 ≤ i.toInt ∧ i.toInt + n.toInt ≤ S (30 + k)) → K (some (.int 0)) (hpC tc S G) := fun h => hK false (by simpa using h)
  have kT : (0 ≤ n.toInt ∧ 0 ≤ i.toInt ∧ i.toInt + n.toInt ≤ S (30 + k)) → K (some (.int 1)) (hpC tc S G) := fun h => hK true (by simpa using h)
  refine bz_lt n.toInt 0 (fun h => ?_) (fun h => ?_)
  · exact And.intro rfl (kF (by omega))
  refine bz_lt i.toInt 0 (fun h2 => ?_) (fun h2 => ?_)
  · exact And.intro rfl (kF (by omega))
  rcases four hk with rfl | rfl | rfl | rfl
  all_goals
    refine b1 (fun h3 => ?_) (fun h3 => ?_)
    · exact And.intro rfl (kF (by omega))
    refine b2 h2 h3 (fun h4 => ?_) (fun h4 => ?_)
    · exact And.intro rfl (kF (by omega))
    · exact And.intro rfl (kT (by omega)))
set_option maxRecDepth 100000 in
set_option maxHeartbeats 4000000 in
theorem m_X5_hasCells (l : Launch) : ip_Met l yX5_hasCells cX5_hasCells 3 (some .boolean) (ip_rm 0) C_X5_hasCells := ip_met tb_X5_hasCells 400 (by decide +kernel) fl_X5_ok ip_cn0 (ip_cs0) ck_X5_hasCells rfl p_X5_hasCells
def fo (S : Nat → Nat) (k : Nat) (w i n : Int) : Nat := if S (10 + k) = 0 then 1 else if (S (20 + k) : Int) ≠ w then 2 else if n < 0 then 4 else if 0 ≤ i ∧ i + n ≤ S (30 + k) then 0 else 3
def C_X5_faultOf : ip_C := fun vs hp K => ∃ tc S G, ∃ (k : Nat) (w i n : Int32), k < 4 ∧ vs = [.ref (2 + 2 * k), .int w, .int i, .int n] ∧ hp = hpC tc S G ∧ wfH S ∧ K (some (.int (nI (fo S k w.toInt i.toInt n.toInt)))) hp
def cs_X5_faultOf : List ip_G := [(41, 3, 5, C_X5_hasCells)]
theorem p_X5_faultOf : ip_Pf fl_X5 [] cs_X5_faultOf (some .int) tb_X5_faultOf 4 C_X5_faultOf := ip_pf0 (by
  rintro _ _ K ⟨tc, S, G, k, w, i, n, hk, rfl, rfl, hwf, hK⟩
  refine ⟨Nat.le_of_ble_eq_true rfl, ?_⟩
  obtain ⟨ht, hl, hz⟩ := hwf k hk
  have b0 : ∀ {X Y : Prop}, (S (10 + k) ≠ 0 → X) → (S (10 + k) = 0 → Y) → (¬ nI (S (10 + k)) = 0 → X) ∧ (nI (S (10 + k)) = 0 → Y) := fun f g => pk_ne _ 0 f g
  have b1 : ∀ {X Y : Prop}, ((S (20 + k) : Int) = w.toInt → X) → ((S (20 + k) : Int) ≠ w.toInt → Y) → (nI (S (20 + k)) = w → X) ∧ (¬ nI (S (20 + k)) = w → Y) := fun f g => bz_eq _ _ f g (ti_n (by omega)) rfl
  have k1 : S (10 + k) = 0 → K (some (.int 1)) (hpC tc S G) := fun h => by rw [fo, if_pos h] at hK; exact hK
  have k2 : S (10 + k) ≠ 0 → (S (20 + k) : Int) ≠ w.toInt → K (some (.int 2)) (hpC tc S G) := fun h h2 => by rw [fo, if_neg h, if_pos h2] at hK; exact hK
  have k4 : S (10 + k) ≠ 0 → (S (20 + k) : Int) = w.toInt → n.toInt < 0 → K (some (.int 4)) (hpC tc S G) := fun h h2 h3 => by rw [fo, if_neg h, if_neg (by simpa using h2), if_pos h3] at hK; exact hK
  have k0 : S (10 + k) ≠ 0 → (S (20 + k) : Int) = w.toInt → ¬ n.toInt < 0 → (0 ≤ i.toInt ∧ i.toInt + n.toInt ≤ S (30 + k)) → K (some (.int 0)) (hpC tc S G) := fun h h2 h3 h4 => by rw [fo, if_neg h, if_neg (by simpa using h2), if_neg h3, if_pos h4] at hK; exact hK
  have k3 : S (10 + k) ≠ 0 → (S (20 + k) : Int) = w.toInt → ¬ n.toInt < 0 → ¬ (0 ≤ i.toInt ∧ i.toInt + n.toInt ≤ S (30 + k)) → K (some (.int 3)) (hpC tc S G) := fun h h2 h3 h4 => by rw [fo, if_neg h, if_neg (by simpa using h2), if_neg h3, if_neg h4] at hK; exact hK
  rcases four hk with rfl | rfl | rfl | rfl
  all_goals
    refine b0 (fun h => ?_) (fun h => ?_)
    · refine b1 (fun h2 => ?_) (fun h2 => ?_)
      · refine bz_le 0 n.toInt (fun h3 => ?_) (fun h3 => ?_)
        · refine Exists.intro tc ⟨S, G, _, i, n, hk, rfl, rfl, hwf, fun b hb => ?_⟩
          refine ip_bt (fun h4 => ?_) (fun h4 => ?_)
          · exact k3 h h2 (by omega) (fun q => by rw [hb.mpr ⟨h3, q⟩] at h4; cases h4)
          · exact k0 h h2 (by omega) (hb.mp h4).2
        · exact k4 h h2 h3
      · exact k2 h h2
    · exact k1 h)
set_option maxRecDepth 100000 in
set_option maxHeartbeats 4000000 in
theorem m_X5_faultOf (l : Launch) : ip_Met l yX5_faultOf cX5_faultOf 4 (some .int) (ip_rm 1) C_X5_faultOf := ip_met tb_X5_faultOf 400 (by decide +kernel) fl_X5_ok ip_cn0 (ip_cs1 (ip_gsV (m_X5_hasCells l) (ip_in [241, 242, 243, 38, 244] (by decide +kernel) (by decide +kernel)) rfl ⟨by decide +kernel, by decide +kernel, by decide +kernel⟩ ⟨rfl, rfl, Nat.le_of_ble_eq_true rfl, Nat.le_of_ble_eq_true rfl⟩) (ip_cs0)) ck_X5_faultOf rfl p_X5_faultOf
def vat (S : Nat → Nat) (G : Nat → Nat → Int32) (k : Nat) (i : Int) : Int32 := if 0 ≤ i ∧ i < S (30 + k) then G k i.toNat else 0
theorem cl_nat (x : Int32) : x.toNatClampNeg = x.toInt.toNat := rfl
def C_X5_valueAt : ip_C := fun vs hp K => ∃ tc S G, ∃ (k : Nat) (i : Int32), k < 4 ∧ vs = [.ref (2 + 2 * k), .int i] ∧ hp = hpC tc S G ∧ wfH S ∧ K (some (.int (vat S G k i.toInt))) hp
def cs_X5_valueAt : List ip_G := [(41, 3, 5, C_X5_hasCells)]
theorem p_X5_valueAt : ip_Pf fl_X5 [] cs_X5_valueAt (some .int) tb_X5_valueAt 2 C_X5_valueAt := ip_pf0 (by
  rintro _ _ K ⟨tc, S, G, k, i, hk, rfl, rfl, hwf, hK⟩
  refine ⟨Nat.le_of_ble_eq_true rfl, ?_⟩
  obtain ⟨-, -, hz⟩ := hwf k hk
  have k0 : ¬ (0 ≤ i.toInt ∧ i.toInt < S (30 + k)) → K (some (.int 0)) (hpC tc S G) := fun h => by rw [vat, if_neg h] at hK; exact hK
  have k1 : (0 ≤ i.toInt ∧ i.toInt < S (30 + k)) → vp_in i 60 ∧ K (some (.int (G k i.toNatClampNeg))) (hpC tc S G) := fun h => by
    rw [vat, if_pos h] at hK
    exact ⟨vp_in_iff.mpr ⟨h.1, by omega⟩, hK⟩
  have one : (1 : Int32).toInt = 1 := by decide
  rcases four hk with rfl | rfl | rfl | rfl
  all_goals
    refine Exists.intro tc ⟨S, G, _, i, 1, hk, rfl, rfl, hwf, fun b hb => ?_⟩
    rw [one] at hb
    refine ip_bt (fun h => ?_) (fun h => ?_)
    · exact k0 (fun q => by rw [hb.mpr ⟨by omega, q.1, by omega⟩] at h; cases h)
    · have h2 := hb.mp h
      exact k1 ⟨h2.2.1, by omega⟩)
set_option maxRecDepth 100000 in
set_option maxHeartbeats 4000000 in
theorem m_X5_valueAt (l : Launch) : ip_Met l yX5_valueAt cX5_valueAt 2 (some .int) (ip_rm 1) C_X5_valueAt := ip_met tb_X5_valueAt 400 (by decide +kernel) fl_X5_ok ip_cn0 (ip_cs1 (ip_gsV (m_X5_hasCells l) (ip_in [241, 242, 243, 38, 244] (by decide +kernel) (by decide +kernel)) rfl ⟨by decide +kernel, by decide +kernel, by decide +kernel⟩ ⟨rfl, rfl, Nat.le_of_ble_eq_true rfl, Nat.le_of_ble_eq_true rfl⟩) (ip_cs0)) ck_X5_valueAt rfl p_X5_valueAt
def cut (ln : Nat) (v : Int32) : Int32 := if ln = 0 then v.toInt8.toInt32 else if ln = 1 then v.toInt16.toInt32 else v
def C_X5_write : ip_C := fun vs hp K => ∃ tc S G, ∃ (k : Nat) (i v : Int32), k < 4 ∧ vs = [.ref (2 + 2 * k), .int i, .int v] ∧ hp = hpC tc S G ∧ wfH S ∧ 0 ≤ i.toInt ∧ i.toInt < S (30 + k) ∧ K none (hpC tc S (va_up G k (upd (G k) i.toNatClampNeg (cut (S (20 + k)) v))))
def cs_X5_write : List ip_G := [(41, 3, 5, C_X5_hasCells)]
theorem p_X5_write : ip_Pf fl_X5 [] cs_X5_write none tb_X5_write 3 C_X5_write := ip_pf0 (by
  rintro _ _ K ⟨tc, S, G, k, i, v, hk, rfl, rfl, hwf, hi, hi2, hK⟩
  refine ⟨Nat.le_of_ble_eq_true rfl, ?_⟩
  obtain ⟨-, hl, hz⟩ := hwf k hk
  have one : (1 : Int32).toInt = 1 := by decide
  have hin : vp_in i 60 := vp_in_iff.mpr ⟨hi, by omega⟩
  have b0 : ∀ {X Y : Prop}, (S (20 + k) ≠ 0 → X) → (S (20 + k) = 0 → Y) → (¬ nI (S (20 + k)) = 0 → X) ∧ (nI (S (20 + k)) = 0 → Y) := fun f g => pk_ne _ 0 f g
  have b1 : ∀ {X Y : Prop}, (S (20 + k) ≠ 1 → X) → (S (20 + k) = 1 → Y) → (¬ nI (S (20 + k)) = 1 → X) ∧ (nI (S (20 + k)) = 1 → Y) := fun f g => pk_ne _ 1 f g
  have k0 : S (20 + k) = 0 → K none (hpC tc S (va_up G k (upd (G k) i.toNatClampNeg v.toInt8.toInt32))) := fun h => by rw [cut, if_pos h] at hK; exact hK
  have k1 : S (20 + k) = 1 → K none (hpC tc S (va_up G k (upd (G k) i.toNatClampNeg v.toInt16.toInt32))) := fun h => by rw [cut, if_neg (by omega), if_pos h] at hK; exact hK
  have k2 : S (20 + k) ≠ 0 → S (20 + k) ≠ 1 → K none (hpC tc S (va_up G k (upd (G k) i.toNatClampNeg v))) := fun h h2 => by rw [cut, if_neg h, if_neg h2] at hK; exact hK
  have ht : ∀ b : Bool, (b = true ↔ 0 ≤ (1 : Int) ∧ 0 ≤ i.toInt ∧ i.toInt + 1 ≤ S (30 + k)) → b = true := fun b hb => hb.mpr ⟨by omega, hi, by omega⟩
  rcases four hk with rfl | rfl | rfl | rfl
  all_goals
    refine Exists.intro tc ⟨S, G, _, i, 1, hk, rfl, rfl, hwf, fun b hb => ?_⟩
    rw [one] at hb
    have hb := ht b hb
    refine ip_bt (fun h => ?_) (fun h => ?_)
    · rw [hb] at h; cases h
    refine b0 (fun h2 => ?_) (fun h2 => ?_)
    · refine b1 (fun h3 => ?_) (fun h3 => ?_)
      · exact And.intro hin (k2 h2 h3)
      · exact And.intro hin (k1 h3)
    · exact And.intro hin (k0 h2))
set_option maxRecDepth 100000 in
set_option maxHeartbeats 4000000 in
theorem m_X5_write (l : Launch) : ip_Met l yX5_write cX5_write 3 none (ip_rm 1) C_X5_write := ip_met tb_X5_write 400 (by decide +kernel) fl_X5_ok ip_cn0 (ip_cs1 (ip_gsV (m_X5_hasCells l) (ip_in [241, 242, 243, 38, 244] (by decide +kernel) (by decide +kernel)) rfl ⟨by decide +kernel, by decide +kernel, by decide +kernel⟩ ⟨rfl, rfl, Nat.le_of_ble_eq_true rfl, Nat.le_of_ble_eq_true rfl⟩) (ip_cs0)) ck_X5_write rfl p_X5_write
def C_X5_renew : ip_C := fun vs hp K => ∃ tc S G, ∃ (k ln sz : Nat), k < 4 ∧ sz ≤ 60 ∧ vs = [.ref (2 + 2 * k), .int (nI ln), .int (nI sz)] ∧ hp = hpC tc S G ∧ K none (hpC tc (va_up (va_up (va_up S (10 + k) 1) (20 + k) ln) (30 + k) sz) (va_up G k (fa_fill (fun _ => 0) (G k) 60)))
def cs_X5_renew : List ip_G := [(23, 2, 0, C_J9_min), (29, 2, 0, C_J9_max), (35, 2, 0, C_J7_fill)]
set_option maxHeartbeats 4000000 in
theorem p_X5_renew : ip_Pf fl_X5 [] cs_X5_renew none tb_X5_renew 3 C_X5_renew := ip_pf0 (by
  rintro _ _ K ⟨tc, S, G, k, ln, sz, hk, hs, rfl, rfl, hK⟩
  refine ⟨Nat.le_of_ble_eq_true rfl, ?_⟩
  have e60 : (60 : Int32).toInt = 60 := by decide
  have e0 : (0 : Int32).toInt = 0 := by decide
  have es := ti_n (n := sz) (by omega)
  have hr : ∀ r r2 : Int32, r.toInt = min (nI sz).toInt (60 : Int32).toInt → r2.toInt = max (0 : Int32).toInt r.toInt → r2 = nI sz := fun r r2 h1 h2 => by
    rw [fa_eq, h2, h1, e60, e0, es]; omega
  rcases four hk with rfl | rfl | rfl | rfl
  · refine And.intro (Or.inr rfl) ?_
    refine Exists.intro (nI sz) ⟨60, rfl, fun r h1 => ?_⟩
    refine Exists.intro 0 ⟨r, rfl, fun r2 h2 => ?_⟩
    obtain rfl := hr r r2 h1 h2
    exact Exists.intro tc ⟨va_up (va_up (va_up S 10 1) 20 ln) 30 sz, G, 0, 3, 60, 0, by simp [rowAt], rfl, rfl, hK⟩
  · refine And.intro (Or.inr rfl) ?_
    refine Exists.intro (nI sz) ⟨60, rfl, fun r h1 => ?_⟩
    refine Exists.intro 0 ⟨r, rfl, fun r2 h2 => ?_⟩
    obtain rfl := hr r r2 h1 h2
    exact Exists.intro tc ⟨va_up (va_up (va_up S 11 1) 21 ln) 31 sz, G, 1, 5, 60, 0, by simp [rowAt], rfl, rfl, hK⟩
  · refine And.intro (Or.inr rfl) ?_
    refine Exists.intro (nI sz) ⟨60, rfl, fun r h1 => ?_⟩
    refine Exists.intro 0 ⟨r, rfl, fun r2 h2 => ?_⟩
    obtain rfl := hr r r2 h1 h2
    exact Exists.intro tc ⟨va_up (va_up (va_up S 12 1) 22 ln) 32 sz, G, 2, 7, 60, 0, by simp [rowAt], rfl, rfl, hK⟩
  · refine And.intro (Or.inr rfl) ?_
    refine Exists.intro (nI sz) ⟨60, rfl, fun r h1 => ?_⟩
    refine Exists.intro 0 ⟨r, rfl, fun r2 h2 => ?_⟩
    obtain rfl := hr r r2 h1 h2
    exact Exists.intro tc ⟨va_up (va_up (va_up S 13 1) 23 ln) 33 sz, G, 3, 9, 60, 0, by simp [rowAt], rfl, rfl, hK⟩)
set_option maxRecDepth 100000 in
set_option maxHeartbeats 4000000 in
theorem m_X5_renew (l : Launch) : ip_Met l yX5_renew cX5_renew 3 none (ip_rm 1) C_X5_renew := ip_met tb_X5_renew 400 (by decide +kernel) fl_X5_ok ip_cn0 (ip_cs1 (ip_gsMin (ip_in [553, 275, 41, 276] (by decide +kernel) (by decide +kernel)) ⟨Nat.le_of_ble_eq_true rfl, Nat.le_of_ble_eq_true rfl⟩) (ip_cs1 (ip_gsMax (ip_in [554, 452, 41, 453] (by decide +kernel) (by decide +kernel)) ⟨Nat.le_of_ble_eq_true rfl, Nat.le_of_ble_eq_true rfl⟩) (ip_cs1 (ip_gsS (m_J7_fill l) (ip_in [555, 401, 42, 402] (by decide +kernel) (by decide +kernel)) ⟨by decide +kernel, by decide +kernel, by decide +kernel⟩ ⟨rfl, rfl, Nat.le_of_ble_eq_true rfl, Nat.le_of_ble_eq_true rfl⟩) (ip_cs0)))) ck_X5_renew rfl p_X5_renew
