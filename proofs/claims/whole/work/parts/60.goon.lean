/-! ===== Placing: all rows in order ===== -/
def plT (ct : Nat → Nat → Nat) (T : Nat → (Nat → Nat) → Nat) (P M : Nat) : Prop := (∀ m pl, T m pl ≤ 20) ∧ (∀ p c, ct p c ≤ 20) ∧ (∀ m pl pl', (∀ i, i < m → pl i = pl' i) → T m pl = T m pl') ∧ ∀ m pl p, m < M → p < P → T (m + 1) (pls pl m p) + ct p (crd m pl p) = T m pl + ct p (crd (m + 1) (pls pl m p) p)
def plW (S : Nat → Nat) (G : Nat → Nat → Int32) (ct : Nat → Nat → Nat) (m : Nat) (pl : Nat → Nat) : Prop := S 6 ≤ 6 ∧ S 7 ≤ 4 ∧ m ≤ S 7 ∧ S 8 ≤ 21 ∧ (∀ i, i < m → pl i < S 6) ∧ wgR (G 9) ct ∧ (∀ p, p < 6 → G 10 p = nI (crd m pl p)) ∧ ∀ i, i < m → G 11 i = nI (pl i)
def C_goOnD : Nat → ip_C
  | 0 => fun _ _ _ => False
  | d + 1 => fun vs hp K => ∃ tc S G, ∃ (ct : Nat → Nat → Nat) (T : Nat → (Nat → Nat) → Nat) (m : Nat) (pl : Nat → Nat), S 7 - m ≤ d ∧ vs = [.ref 23, .int (nI m), .int (nI (T m pl))] ∧ hp = hpC tc S G ∧ plW S G ct m pl ∧ plT ct T (S 6) (S 7) ∧
    ∀ few' X Y Z, (∀ p, p < 6 → X p = G 10 p) → (∀ i, i < m → Y i = G 11 i) → upR (fun x => T (S 7) (dg (S 6) (S 7) x)) (S 6) (S 7) (nm (S 6) pl m * S 6 ^ (S 7 - m)) ((nm (S 6) pl m + 1) * S 6 ^ (S 7 - m)) (S 8) few' (G 12) Z → K none (hpC tc (va_up S 8 few') (va_up (va_up (va_up G 10 X) 11 Y) 12 Z))
abbrev C_X3_goOn : ip_C := C_goOnD 5
def cs_goOnD (d : Nat) : List ip_G := [(78, 2, 3, C_X3_keepIfFewer), (61, 3, 0, C_goOnD d)]
def tc_X3_goOn : List ip_I := (0, .iload_n 1, 1, false, 0, 0) :: (1, .ifCond .lt 16, 3, false, 0, 17) :: (4, .iload_n 1, 1, false, 0, 0) :: (5, .aload_n 0, 1, false, 0, 0) :: (6, .getfield 40, 3, false, 0, 0) :: (9, .if_icmp .ge 8, 3, false, 0, 17) :: (12, .iload_n 1, 1, false, 0, 0) :: (13, .iconst 4, 1, false, 4, 0) :: (14, .if_icmp .lt 9, 3, false, 0, 23) :: (17, .aload_n 0, 1, false, 0, 0) :: (18, .iload_n 2, 1, false, 0, 0) :: (19, .invokevirtual 78, 3, false, 0, 0) :: (22, .return_, 1, false, 0, 0) :: (23, .iconst 0, 1, false, 0, 0) :: (24, .istore_n 3, 1, false, 0, 0) :: (25, .iload_n 3, 1, true, 0, 0) :: (26, .aload_n 0, 1, false, 0, 0) :: (27, .getfield 36, 3, false, 0, 0) :: (30, .if_icmp .ge 89, 3, false, 0, 119) :: (33, .aload_n 0, 1, false, 0, 0) :: (34, .getfield 15, 3, false, 0, 0) :: (37, .iload_n 3, 1, false, 0, 0) :: (38, .iaload, 1, false, 0, 0) :: (39, .istore 4, 2, false, 0, 0) :: (41, .iload 4, 2, false, 0, 0) :: (43, .iconst 1, 1, false, 1, 0) :: (44, .iload_n 1, 1, false, 0, 0) :: (45, .ishl, 1, false, 0, 0) :: (46, .ior, 1, false, 0, 0) :: (47, .bipush 15, 2, false, 15, 0) :: (49, .iand, 1, false, 0, 0) :: (50, .istore 5, 2, false, 0, 0) :: (52, .aload_n 0, 1, false, 0, 0) :: (53, .getfield 9, 3, false, 0, 0) :: (56, .iload_n 3, 1, false, 0, 0) :: (57, .bipush 16, 2, false, 16, 0) :: (59, .imul, 1, false, 0, 0) :: (60, .iload 5, 2, false, 0, 0) :: (62, .iadd, 1, false, 0, 0) :: (63, .iaload, 1, false, 0, 0) :: (64, .aload_n 0, 1, false, 0, 0) :: (65, .getfield 9, 3, false, 0, 0) :: (68, .iload_n 3, 1, false, 0, 0) :: (69, .bipush 16, 2, false, 16, 0) :: (71, .imul, 1, false, 0, 0) :: (72, .iload 4, 2, false, 0, 0) :: (74, .iadd, 1, false, 0, 0) :: (75, .iaload, 1, false, 0, 0) :: (76, .isub, 1, false, 0, 0) :: (77, .istore 6, 2, false, 0, 0) :: (79, .aload_n 0, 1, false, 0, 0) :: (80, .getfield 18, 3, false, 0, 0) :: (83, .iload_n 1, 1, false, 0, 0) :: (84, .iload_n 3, 1, false, 0, 0) :: (85, .iastore, 1, false, 0, 0) :: (86, .aload_n 0, 1, false, 0, 0) :: (87, .getfield 15, 3, false, 0, 0) :: (90, .iload_n 3, 1, false, 0, 0) :: (91, .iload 5, 2, false, 0, 0) :: (93, .iastore, 1, false, 0, 0) :: (94, .aload_n 0, 1, true, 0, 0) :: (95, .iload_n 1, 1, false, 0, 0) :: (96, .iconst 1, 1, false, 1, 0) :: (97, .iadd, 1, false, 0, 0) :: (98, .iload_n 2, 1, false, 0, 0) :: (99, .iload 6, 2, false, 0, 0) :: (101, .iadd, 1, false, 0, 0) :: (102, .invokestatic 61, 3, false, 0, 0) :: (105, .aload_n 0, 1, false, 0, 0) :: (106, .getfield 15, 3, false, 0, 0) :: (109, .iload_n 3, 1, false, 0, 0) :: (110, .iload 4, 2, false, 0, 0) :: (112, .iastore, 1, false, 0, 0) :: (113, .iinc 3 1, 3, false, 1, 0) :: (116, .goto (-91), 3, false, 0, 25) :: (119, .return_, 1, false, 0, 0) :: []
set_option maxRecDepth 100000 in
theorem cj_X3_goOn : ip_chk cX3_goOn tc_X3_goOn = true := by decide +kernel
theorem upR_le {c : Nat → Nat} {P M lo hi few few' : Nat} {B B' : Nat → Int32} (h : upR c P M lo hi few few' B B') : few' ≤ few := by
  rcases h with ⟨rfl, -, -⟩ | ⟨x, -, -, -, h, -⟩ <;> omega
def I_X3_goOn (tc : Int32) (S : Nat → Nat) (G : Nat → Nat → Int32) (ct : Nat → Nat → Nat) (T : Nat → (Nat → Nat) → Nat) (m : Nat) (pl : Nat → Nat) : Nat → Nat → ip_P := fun pc kk L st hp => ∃ (p few : Nat) (X Y Z : Nat → Int32) (x : Int32), m < S 7 ∧ x = nI p ∧ hp = hpC tc (va_up S 8 few) (va_up (va_up (va_up G 10 X) 11 Y) 12 Z) ∧ st = [] ∧ (∀ i, i < m → Y i = G 11 i) ∧ upR (fun x => T (S 7) (dg (S 6) (S 7) x)) (S 6) (S 7) (nm (S 6) pl m * S 6 ^ (S 7 - m)) ((nm (S 6) pl m * S 6 + p) * S 6 ^ (S 7 - (m + 1))) (S 8) few (G 12) Z ∧
  ((pc = 25 ∧ kk = 2 * (S 6 - p) + 1 ∧ p ≤ S 6 ∧ (∀ q, q < 6 → X q = G 10 q) ∧ ∃ l4 l5 l6, L = [some (.ref 23), some (.int (nI m)), some (.int (nI (T m pl))), some (.int x), l4, l5, l6]) ∨
  (pc = 94 ∧ kk = 2 * (S 6 - p) ∧ p < S 6 ∧ (∀ q, q < 6 → X q = nI (crd (m + 1) (pls pl m p) q)) ∧ Y m = nI p ∧ ∃ (y4 y5 y6 : Int32), L = [some (.ref 23), some (.int (nI m)), some (.int (nI (T m pl))), some (.int x), some (.int y4), some (.int y5), some (.int y6)] ∧ y4 = nI (crd m pl p) ∧ nI (T m pl) + y6 = nI (T (m + 1) (pls pl m p))))
theorem add_diff {x y a b : Nat} (h : y + b = x + a) : nI x + (nI a - nI b) = nI y := by
  have e : nI x + nI a = nI y + nI b := by rw [nI_add, nI_add, h]
  rw [Int32.sub_eq_add_neg, ← Int32.add_assoc, e, Int32.add_assoc, ← Int32.sub_eq_add_neg, Int32.sub_self, Int32.add_zero]
theorem pow_split {P M m p q : Nat} (hm : m < M) (hq : (p : Nat) ≤ P) : q * P ^ (M - m) ≤ (q * P + p) * P ^ (M - (m + 1)) ∧ (q * P + p) * P ^ (M - (m + 1)) ≤ (q * P + p + 1) * P ^ (M - (m + 1)) ∧ (q * P + P) * P ^ (M - (m + 1)) = (q + 1) * P ^ (M - m) ∧ (q * P + 0) * P ^ (M - (m + 1)) = q * P ^ (M - m) := by
  have e : P ^ (M - m) = P * P ^ (M - (m + 1)) := by
    rw [show M - m = (M - (m + 1)) + 1 by omega, Nat.pow_succ, Nat.mul_comm]
  rw [e]
  generalize P ^ (M - (m + 1)) = w
  refine ⟨?_, ?_, ?_, ?_⟩
  · rw [← Nat.mul_assoc]; exact Nat.mul_le_mul_right _ (by omega)
  · exact Nat.mul_le_mul_right _ (by omega)
  · rw [← Nat.mul_assoc, Nat.add_mul q 1 P, Nat.one_mul]
  · rw [← Nat.mul_assoc, Nat.add_zero]
theorem crd_15 {m : Nat} (pl : Nat → Nat) (p : Nat) (hm : m < 4) : (nI (crd m pl p) ||| ((1 : Int32) <<< (nI m &&& 31))) &&& 15 = nI (crd (m + 1) (pls pl m p) p) := by
  have hsh := sh1 ⟨m, by omega⟩
  simp only at hsh
  rw [hsh, fa_or, crd_or pl p hm, show (15 : Int32) = nI (2 ^ 4 - 1) from rfl, fa_mask, Nat.mod_eq_of_lt (crd_lt _ _ _)]
theorem p_goOnD (d : Nat) : ip_Pf fl_X3 [] (cs_goOnD d) none tc_X3_goOn 7 (C_goOnD (d + 1)) := by
  rintro _ _ K ⟨tc, S, G, ct, T, m, pl, hd, rfl, rfl, ⟨g6, g7, gm, g8, gpl, g9, g10, g11⟩, ⟨t1, t2, t3, t4⟩, hK⟩
  have hT20 := t1 m pl
  refine ⟨Nat.le_of_ble_eq_true rfl, I_X3_goOn tc S G ct T m pl, ?_, ?_⟩
  · refine bz_lt (m : Int) 0 (fun h => absurd h (by omega)) (fun _ => ?_)
    refine pk_le (S 7) m (fun h => ?_) (fun h => ?_)
    · obtain rfl : m = S 7 := by omega
      have lo : nm (S 6) pl (S 7) * S 6 ^ (S 7 - S 7) = nm (S 6) pl (S 7) := by rw [Nat.sub_self, Nat.pow_zero, Nat.mul_one]
      have hi : (nm (S 6) pl (S 7) + 1) * S 6 ^ (S 7 - S 7) = nm (S 6) pl (S 7) + 1 := by rw [Nat.sub_self, Nat.pow_zero, Nat.mul_one]
      rw [lo, hi] at hK
      have hc : T (S 7) (dg (S 6) (S 7) (nm (S 6) pl (S 7))) = T (S 7) pl := t3 _ _ _ (fun i hi => dg_nm hi gpl)
      refine Exists.intro tc ⟨S, G, T (S 7) pl, by omega, by omega, rfl, rfl, fun h2 => ?_, fun h2 Z hZ => ?_⟩
      · have := hK (S 8) (G 10) (G 11) (G 12) (fun _ _ => rfl) (fun _ _ => rfl) (Or.inl ⟨rfl, rfl, fun x q1 q2 => by
          obtain rfl : x = nm (S 6) pl (S 7) := by omega
          show S 8 ≤ T (S 7) (dg (S 6) (S 7) (nm (S 6) pl (S 7)))
          rw [hc]; exact h2⟩)
        rw [up_same S 8, up_same G 10, up_same G 11, up_same G 12] at this
        exact this
      · exact hK (T (S 7) pl) (G 10) (G 11) Z (fun _ _ => rfl) (fun _ _ => rfl) (Or.inr ⟨nm (S 6) pl (S 7), by omega, by omega, hc.symm, h2, fun y q1 q2 => absurd q2 (by omega), fun y q1 q2 => by
          obtain rfl : y = nm (S 6) pl (S 7) := by omega
          show _ ≤ T (S 7) (dg (S 6) (S 7) (nm (S 6) pl (S 7)))
          rw [hc]; exact Nat.le_refl _, fun i hi => by rw [hZ i (by omega), g11 i hi, dg_nm hi gpl]⟩)
    · refine bz_lt (m : Int) 4 (fun _ => ?_) (fun h2 => absurd h2 (by omega))
      obtain ⟨-, -, -, e0⟩ := pow_split (P := S 6) (M := S 7) (m := m) (p := 0) (q := nm (S 6) pl m) h (Nat.zero_le _)
      refine Exists.intro (2 * (S 6 - 0) + 1) ⟨trivial, 0, S 8, G 10, G 11, G 12, _, h, rfl, ?_, rfl, fun _ _ => rfl, upR_refl (by rw [e0]; exact Nat.le_refl _), Or.inl ⟨rfl, rfl, by omega, fun _ _ => rfl, _, _, _, rfl⟩⟩
      rw [up_same S 8, up_same G 10, up_same G 11, up_same G 12]
  · rintro pc kk L st hp ⟨p, few, X, Y, Z, x, hm, hx, rfl, rfl, hY, hup, ⟨rfl, rfl, hp, hX, l4, l5, l6, rfl⟩ | ⟨rfl, rfl, hp, hX, hYm, y4, y5, y6, rfl, h4, h6⟩⟩
    · have b1 : ∀ {X Y : Prop}, (S 6 ≤ p → X) → (p < S 6 → Y) → (nI (S 6) ≤ x → X) ∧ (¬ nI (S 6) ≤ x → Y) := fun f g => by rw [hx]; exact pk_le (S 6) p f g
      refine b1 (fun h => ?_) (fun h => ?_)
      · obtain rfl : p = S 6 := by omega
        obtain ⟨-, -, e1, -⟩ := pow_split (P := S 6) (M := S 7) (m := m) (p := 0) (q := nm (S 6) pl m) hm (Nat.zero_le _)
        rw [e1] at hup
        exact hK few X Y Z hX hY hup
      · have hcl : x.toNatClampNeg = p := by rw [hx]; exact nI_clamp (n := p) (by omega)
        have hm4 : m < 4 := by omega
        have hmc : (nI m).toNatClampNeg = m := nI_clamp (n := m) (by omega)
        have hv6 : vp_in x 6 := by rw [hx]; exact pk_in p 6 (by omega)
        have hv4 : vp_in (nI m) 4 := pk_in m 4 hm4
        have eX : X x.toNatClampNeg = nI (crd m pl p) := by rw [hcl, hX p (by omega), g10 p (by omega)]
        have c1 := crd_lt m pl p
        have c2 := crd_lt (m + 1) (pls pl m p) p
        have e5 : (X x.toNatClampNeg ||| ((1 : Int32) <<< (nI m &&& 31))) &&& 15 = nI (crd (m + 1) (pls pl m p) p) := by rw [eX]; exact crd_15 pl p hm4
        have ia : x * 16 + nI (crd (m + 1) (pls pl m p) p) = nI (p * 16 + crd (m + 1) (pls pl m p) p) := by rw [hx, show (16 : Int32) = nI 16 from rfl, pk_mul, nI_add]
        have ib : x * 16 + X x.toNatClampNeg = nI (p * 16 + crd m pl p) := by rw [eX, hx, show (16 : Int32) = nI 16 from rfl, pk_mul, nI_add]
        have hva : vp_in (x * 16 + ((X x.toNatClampNeg ||| ((1 : Int32) <<< (nI m &&& 31))) &&& 15)) 96 := by rw [e5, ia]; exact pk_in (p * 16 + crd (m + 1) (pls pl m p) p) 96 (by omega)
        have hvb : vp_in (x * 16 + X x.toNatClampNeg) 96 := by rw [ib]; exact pk_in (p * 16 + crd m pl p) 96 (by omega)
        have va : G 9 (x * 16 + ((X x.toNatClampNeg ||| ((1 : Int32) <<< (nI m &&& 31))) &&& 15)).toNatClampNeg = nI (ct p (crd (m + 1) (pls pl m p) p)) := by rw [e5, ia, nI_clamp (by omega)]; exact g9 p (by omega) _ c2
        have vb : G 9 (x * 16 + X x.toNatClampNeg).toNatClampNeg = nI (ct p (crd m pl p)) := by rw [ib, nI_clamp (by omega)]; exact g9 p (by omega) _ c1
        refine And.intro hv6 ?_
        refine And.intro hva ?_
        refine And.intro hvb ?_
        refine And.intro hv4 ?_
        refine And.intro hv6 ?_
        refine Exists.intro (2 * (S 6 - p)) ⟨by show _ < _; omega, p, few, upd X x.toNatClampNeg ((X x.toNatClampNeg ||| ((1 : Int32) <<< (nI m &&& 31))) &&& 15), upd Y (nI m).toNatClampNeg x, Z, x, hm, hx, rfl, rfl, fun i hi => ?_, hup, Or.inr ⟨rfl, rfl, h, fun q hq => ?_, ?_, _, _, _, rfl, eX, ?_⟩⟩
        · rw [hmc, pk_un (by omega)]; exact hY i hi
        · rw [hcl, ← hcl, e5, hcl]
          by_cases e : q = p
          · subst e; rw [pk_us]
          · rw [pk_un e, hX q hq, g10 q hq, crd_ne pl e]
        · rw [hmc, pk_us]; exact hx
        · show nI (T m pl) + (G 9 (x * 16 + ((X x.toNatClampNeg ||| ((1 : Int32) <<< (nI m &&& 31))) &&& 15)).toNatClampNeg - G 9 (x * 16 + X x.toNatClampNeg).toNatClampNeg) = _
          rw [va, vb]
          exact add_diff (t4 m pl p hm h)
    · obtain ⟨e1, e2, -, -⟩ := pow_split (P := S 6) (M := S 7) (m := m) (p := p) (q := nm (S 6) pl m) hm (by omega)
      have hnm : nm (S 6) (pls pl m p) (m + 1) = nm (S 6) pl m * S 6 + p := by
        rw [nm, nm_cong (pl' := pl) (fun i hi => by unfold pls; rw [if_neg (by omega)])]
        unfold pls
        rw [if_pos rfl]
      have hcl : x.toNatClampNeg = p := by rw [hx]; exact nI_clamp (n := p) (by omega)
      have hv6 : vp_in x 6 := by rw [hx]; exact pk_in p 6 (by omega)
      have hfew := upR_le hup
      cases d with
      | zero => exact absurd hd (by omega)
      | succ d =>
      refine Exists.intro tc ⟨va_up S 8 few, va_up (va_up (va_up G 10 X) 11 Y) 12 Z, ct, T, m + 1, pls pl m p, (by show S 7 - (m + 1) ≤ d; omega), (by show [Value.ref 23, Value.int (nI m + 1), Value.int (nI (T m pl) + y6)] = _; rw [nI_1, h6]), rfl, ⟨g6, g7, hm, (by show few ≤ 21; omega), fun i hi => ?_, g9, hX, fun i hi => ?_⟩, ⟨t1, t2, t3, t4⟩, fun few' X' Y' Z' hX' hY' hup' => ?_⟩
      · show pls pl m p i < S 6
        unfold pls
        split
        · exact hp
        · exact gpl i (by omega)
      · show Y i = nI (pls pl m p i)
        unfold pls
        by_cases e : i = m
        · rw [if_pos e, e]; exact hYm
        · rw [if_neg e, hY i (by omega)]; exact g11 i (by omega)
      · have hup' : upR (fun x => T (S 7) (dg (S 6) (S 7) x)) (S 6) (S 7) ((nm (S 6) pl m * S 6 + p) * S 6 ^ (S 7 - (m + 1))) ((nm (S 6) pl m * S 6 + p + 1) * S 6 ^ (S 7 - (m + 1))) few few' Z Z' := by rw [← hnm]; exact hup'
        refine And.intro hv6 ?_
        refine Exists.intro (2 * (S 6 - (p + 1)) + 1) ⟨by show _ < _; omega, p + 1, few', upd X' x.toNatClampNeg y4, Y', Z', x + 1, hm, (by rw [hx]; exact nI_1 p), rfl, rfl, fun i hi => ?_, upR_trans e1 e2 hup hup', Or.inl ⟨rfl, rfl, by omega, fun q hq => ?_, _, _, _, rfl⟩⟩
        · rw [hY' i (by omega)]; exact hY i hi
        · rw [hcl]
          by_cases e : q = p
          · subst e; rw [pk_us, h4, g10 q hq]
          · rw [pk_un e, hX' q hq]
            show X q = _
            rw [hX q hq, crd_ne pl e, g10 q hq]
set_option maxRecDepth 100000 in
set_option maxHeartbeats 4000000 in
theorem m_goOnD (l : Launch) : ∀ d : Nat, ip_Met l yX3_goOn cX3_goOn 7 none (ip_rm (d + 2)) (C_goOnD d)
  | 0 => fun _ _ _ _ _ h => h.elim
  | d + 1 => ip_met tc_X3_goOn 400 (by decide +kernel) fl_X3_ok ip_cn0 (ip_cs1 (ip_gsV (m_X3_keepIfFewer l) (ip_in [408, 409, 410, 37, 411] (by decide +kernel) (by decide +kernel)) rfl ⟨by decide +kernel, by decide +kernel, by decide +kernel⟩ ⟨rfl, rfl, by show 1 + 1 ≤ d + 1 + 2; omega, by show 8 + (2 + 11) + 40 * 1 ≤ 40 * (d + 1 + 2); omega⟩) (ip_cs1 (ip_gsS (m_goOnD l d) (ip_in [405, 406, 37, 407] (by decide +kernel) (by decide +kernel)) ⟨by decide +kernel, by decide +kernel, by decide +kernel⟩ ⟨rfl, rfl, by show d + 2 + 1 ≤ d + 1 + 2; omega, by show 8 + (7 + 11) + 40 * (d + 2) ≤ 40 * (d + 1 + 2); omega⟩) (ip_cs0))) cj_X3_goOn rfl (p_goOnD d)
theorem m_X3_goOn (l : Launch) : ip_Met l yX3_goOn cX3_goOn 7 none (ip_rm 7) C_X3_goOn := m_goOnD l 5
