/-! ===== copy: the reference ===== -/
def okC (S : Nat → Nat) (k o : Nat) (i j n : Int) : Prop := 0 ≤ n ∧ 0 ≤ i ∧ 0 ≤ j ∧ i + n ≤ S (30 + k) ∧ j + n ≤ S (30 + o)
def q_copy (S : Nat → Nat) (G : Nat → Nat → Int32) (k i o j n : Int32) : Int32 × Nat × (Nat → Nat → Int32) := if ¬ inI k 4 ∨ ¬ inI o 4 then (-1, 0, G) else if S (10 + nt k) = 0 ∨ S (10 + nt o) = 0 then (-11, 1, G) else if S (20 + nt k) ≠ S (20 + nt o) then (-12, 2, G) else if ¬ (0 ≤ n.toInt ∧ 0 ≤ i.toInt ∧ 0 ≤ j.toInt ∧ i.toInt + n.toInt ≤ S (30 + nt k) ∧ j.toInt + n.toInt ≤ S (30 + nt o)) then (-13, 3, G) else (n, 0, va_up G (nt o) (va_cpy (G (nt k)) (G (nt o)) (nt i) (nt j) (nt n)))
def cpf (g : Nat → Int32) (a b lo hi : Nat) : Nat → Int32 := fun x => if b + lo ≤ x ∧ x < b + hi then g (a + (x - b)) else g x
theorem cpf_0 (g : Nat → Int32) (a b lo : Nat) : cpf g a b lo lo = g := by funext x; unfold cpf; rw [if_neg (by omega)]
theorem cpf_up (g : Nat → Int32) (a b lo hi : Nat) (h : lo ≤ hi) : upd (cpf g a b lo hi) (b + hi) (g (a + hi)) = cpf g a b lo (hi + 1) := by
  funext x
  unfold upd cpf
  by_cases e : x = b + hi
  · rw [if_pos e, if_pos (by omega), e, show b + hi - b = hi by omega]
  · rw [if_neg e]
    by_cases e2 : b + lo ≤ x ∧ x < b + hi
    · rw [if_pos e2, if_pos (by omega)]
    · rw [if_neg e2, if_neg (by omega)]
theorem cpf_dn (g : Nat → Int32) (a b lo hi : Nat) (h : lo < hi) : upd (cpf g a b (lo + 1) hi) (b + lo) (g (a + lo)) = cpf g a b lo hi := by
  funext x
  unfold upd cpf
  by_cases e : x = b + lo
  · rw [if_pos e, if_pos (by omega), e, show b + lo - b = lo by omega]
  · rw [if_neg e]
    by_cases e2 : b + (lo + 1) ≤ x ∧ x < b + hi
    · rw [if_pos e2, if_pos (by omega)]
    · rw [if_neg e2, if_neg (by omega)]
theorem cpf_out (g : Nat → Int32) {a b lo hi x : Nat} (h : x < b + lo ∨ b + hi ≤ x) : cpf g a b lo hi x = g x := by unfold cpf; rw [if_neg (by omega)]
theorem relH_copy {S : Nat → Nat} {G N : Nat → Nat → Int32} {k o i j n : Nat} (hk : k < 4) (ho : o < 4) (z1 : S (10 + k) = 1) (hi : i + n ≤ 60) (hj : j + n ≤ 60) (h : relH S G N) : relH S (va_up G o (va_cpy (G k) (G o) i j n)) (va_up N 3 (cpf (N 3) (60 * k + i) (60 * o + j) 0 n)) := by
  intro c hc
  obtain ⟨a, b⟩ := h c hc
  have e3 : va_up N 3 (cpf (N 3) (60 * k + i) (60 * o + j) 0 n) 3 = cpf (N 3) (60 * k + i) (60 * o + j) 0 n := rfl
  refine ⟨a, fun z => ⟨(b z).1, (b z).2.1, fun x hx => ?_⟩⟩
  rw [e3]
  by_cases e : c = o
  · subst e
    rw [va_up_self]
    by_cases e2 : j ≤ x ∧ x < j + n
    · rw [pk_cpy_in e2.1 e2.2]
      unfold cpf
      rw [if_pos (by omega), show 60 * k + i + (60 * c + x - (60 * c + j)) = 60 * k + (i + (x - j)) by omega]
      exact ((h k hk).2 z1).2.2 _ (by omega)
    · rw [pk_cpy_out (by omega), cpf_out _ (by omega)]
      exact (b z).2.2 x hx
  · rw [up_n (f := G) c e, cpf_out _ (by omega)]
    exact (b z).2.2 x hx
def C_X8_copy : ip_C := fun vs hp K => ∃ tc S G R N, ∃ k i o j n : Int32, vs = [.ref 0, .int k, .int i, .int o, .int j, .int n] ∧ hp = hpM R N ∧ wfC S G ∧ relA tc S G R N ∧ ∀ R' N', relA tc (va_up S 0 (q_copy S G k i o j n).2.1) (q_copy S G k i o j n).2.2 R' N' → K (some (.int (q_copy S G k i o j n).1)) (hpM R' N')
def cs_X8_copy : List ip_G := [(82, 1, 0, C_X8_isSheet), (93, 2, 8, C_X8_fails)]
def cpl (n q : Nat) (b : Bool) : Nat := if b then n - q else 0
def cph (n q : Nat) (b : Bool) : Nat := if b then n else q
def I_X8_copy (P : Prop) (R : Nat → Int32) (N : Nat → Nat → Int32) (k i o j n : Nat) (ah : Bool) : Nat → Nat → ip_P := fun pc kk L st hp => pc = 166 ∧ P ∧ ∃ (q : Nat) (y : Int32) (l6 l9 : Option Value) (F : Nat → Int32), q ≤ n ∧ kk = n - q ∧ L = [some (.ref 0), some (.int (nI k)), some (.int (nI i)), some (.int (nI o)), some (.int (nI j)), some (.int (nI n)), l6, some (.int (ip_bi ah)), some (.int y), l9] ∧ st = [] ∧ hp = hpM (va_up R 0 0) (va_up N 3 F) ∧ y = nI q ∧ F = cpf (N 3) (60 * k + i) (60 * o + j) (cpl n q ah) (cph n q ah)
theorem p_X8_copy : ip_Pf fl_X8 cn_X8 cs_X8_copy (some .int) tb_X8_copy 10 C_X8_copy := by
  rintro _ _ K ⟨tc, S, G, R, N, k, i, o, j, n, rfl, rfl, hwf, hrel, hK⟩
  have h0 := relA_f 0 hrel
  refine ⟨Nat.le_of_ble_eq_true rfl, I_X8_copy (inI k 4 ∧ inI o 4 ∧ S (10 + nt k) = 1 ∧ S (10 + nt o) = 1 ∧ S (20 + nt k) = S (20 + nt o) ∧ 0 ≤ n.toInt ∧ 0 ≤ i.toInt ∧ 0 ≤ j.toInt ∧ i.toInt + n.toInt ≤ S (30 + nt k) ∧ j.toInt + n.toInt ≤ S (30 + nt o) ∧ S (30 + nt k) ≤ 60 ∧ S (30 + nt o) ≤ 60) R N (nt k) (nt i) (nt o) (nt j) (nt n) (decide (i.toInt < j.toInt)), ?_, ?_⟩
  · refine Exists.intro k ⟨rfl, fun b hb => ?_⟩
    refine ip_bt (fun h => ?_) (fun h => ?_)
    · have hin : ¬ inI k 4 := fun z => by rw [hb.mpr z] at h; cases h
      rw [q_copy, if_pos (.inl hin)] at hK
      exact hK _ N h0
    have hin : inI k 4 := hb.mp h
    refine Exists.intro o ⟨rfl, fun b2 hb2 => ?_⟩
    refine ip_bn (fun h2 => ?_) (fun h2 => ?_)
    · have hin2 : inI o 4 := hb2.mp h2
      rw [q_copy, if_neg (by rintro (z | z); exact z hin; exact z hin2)] at hK
      clear hb hb2 h h2
      obtain ⟨a, ha, rfl, ea⟩ := ti_of hin.1
      obtain ⟨c, hc, rfl, ec⟩ := ti_of hin2.1
      have l1 : a < 4 := by have := hin.2; omega
      have l2 : c < 4 := by have := hin2.2; omega
      rw [nt_n ha, nt_n hc] at hK ⊢
      have kf : ∀ (f : Nat) (x : Int32), (∀ R' N', relA tc (va_up S 0 f) G R' N' → K (some (.int x)) (hpM R' N')) → -10 - nI f = x → ∃ R1 N1, ∃ f1 : Int32, [Value.ref 0, Value.int (nI f)] = [Value.ref 0, .int f1] ∧ hpM (va_up R 0 0) N = hpM R1 N1 ∧ K (some (.int (-10 - f1))) (hpM (va_up R1 0 f1) N1) := fun f x hk e => ⟨va_up R 0 0, N, nI f, rfl, rfl, by rw [e]; exact hk (va_up (va_up R 0 0) 0 (nI f)) N (by have := relA_f f h0; rw [show va_up (va_up S 0 0) 0 f = va_up S 0 f from by funext z; simp only [va_up]; split <;> rfl] at this; exact this)⟩
      obtain ⟨hv, hka⟩ := sh_at hrel.2.2.2.2 hwf.2.1 l1
      obtain ⟨hv2, hkc⟩ := sh_at hrel.2.2.2.2 hwf.2.1 l2
      rcases hka with ⟨z0, e1⟩ | ⟨z1, e1, e9, e2, e3, l3, l4⟩
      · rw [if_pos (.inl z0)] at hK
        refine And.intro hv (And.intro (fun _ => ?_) (fun z => absurd e1 z))
        obtain ⟨R1, r⟩ := kf 1 (-11) hK (by decide)
        exact Exists.intro R1 r
      refine And.intro hv (And.intro (fun z => absurd z e9) (fun _ => ?_))
      rcases hkc with ⟨y0, f1⟩ | ⟨y1, f1, f9, f2, f3, l5, l6⟩
      · rw [if_pos (.inr y0)] at hK
        refine And.intro hv2 (And.intro (fun z => absurd f1 z) (fun _ => ?_))
        obtain ⟨R1, r⟩ := kf 1 (-11) hK (by decide)
        exact Exists.intro R1 r
      refine And.intro hv2 (And.intro (fun _ => ?_) (fun z => absurd z f9))
      rw [if_neg (by omega)] at hK
      have g1 : ∀ {X Y : Prop}, (S (20 + a) = S (20 + c) → X) → (S (20 + a) ≠ S (20 + c) → Y) → (N 1 (nI a).toNatClampNeg = N 1 (nI c).toNatClampNeg → X) ∧ (¬ N 1 (nI a).toNatClampNeg = N 1 (nI c).toNatClampNeg → Y) := fun f g => by rw [e1, f1]; exact pk_eq _ _ f g
      refine And.intro hv (And.intro hv2 ?_)
      refine g1 (fun h => ?_) (fun h => ?_)
      · rw [if_neg (not_not_intro h)] at hK
        have bad : ¬ (0 ≤ n.toInt ∧ 0 ≤ i.toInt ∧ 0 ≤ j.toInt ∧ i.toInt + n.toInt ≤ S (30 + a) ∧ j.toInt + n.toInt ≤ S (30 + c)) → ∃ R1 N1, ∃ f1 : Int32, [Value.ref 0, Value.int (nI 3)] = [Value.ref 0, .int f1] ∧ hpM (va_up R 0 0) N = hpM R1 N1 ∧ K (some (.int (-10 - f1))) (hpM (va_up R1 0 f1) N1) := fun z => by
          rw [if_pos z] at hK
          exact kf 3 (-13) hK (by decide)
        have g2 : ∀ {X Y : Prop}, ((S (30 + a) : Int) < i.toInt → X) → (i.toInt ≤ S (30 + a) → Y) → (N 2 (nI a).toNatClampNeg < i → X) ∧ (¬ N 2 (nI a).toNatClampNeg < i → Y) := fun f g => by rw [e2]; exact bz_lt _ _ f g (ti_n (by omega)) rfl
        have g3 : ∀ {X Y : Prop}, ((S (30 + c) : Int) < j.toInt → X) → (j.toInt ≤ S (30 + c) → Y) → (N 2 (nI c).toNatClampNeg < j → X) ∧ (¬ N 2 (nI c).toNatClampNeg < j → Y) := fun f g => by rw [f2]; exact bz_lt _ _ f g (ti_n (by omega)) rfl
        have g4 : ∀ {X Y : Prop}, 0 ≤ i.toInt → i.toInt ≤ S (30 + a) → ((S (30 + a) : Int) < i.toInt + n.toInt → X) → (i.toInt + n.toInt ≤ S (30 + a) → Y) → (N 2 (nI a).toNatClampNeg - i < n → X) ∧ (¬ N 2 (nI a).toNatClampNeg - i < n → Y) := fun h1 h2 f g => by
          obtain ⟨x, hx, rfl, ex⟩ := ti_of h1
          rw [e2, pk_sub (by omega)]
          exact bz_lt ((S (30 + a) - x : Nat) : Int) n.toInt (fun z => f (by omega)) (fun z => g (by omega)) (ti_n (by omega)) rfl
        have g5 : ∀ {X Y : Prop}, 0 ≤ j.toInt → j.toInt ≤ S (30 + c) → (j.toInt + n.toInt ≤ S (30 + c) → X) → ((S (30 + c) : Int) < j.toInt + n.toInt → Y) → (n ≤ N 2 (nI c).toNatClampNeg - j → X) ∧ (¬ n ≤ N 2 (nI c).toNatClampNeg - j → Y) := fun h1 h2 f g => by
          obtain ⟨x, hx, rfl, ex⟩ := ti_of h1
          rw [f2, pk_sub (by omega)]
          exact bz_le n.toInt ((S (30 + c) - x : Nat) : Int) (fun z => f (by omega)) (fun z => g (by omega)) rfl (ti_n (by omega))
        have stop : ∀ {X : Prop}, ¬ (0 ≤ n.toInt ∧ 0 ≤ i.toInt ∧ 0 ≤ j.toInt ∧ i.toInt + n.toInt ≤ S (30 + a) ∧ j.toInt + n.toInt ≤ S (30 + c)) → ((0 : Int32) = 0 → ∃ R1 N1, ∃ f1 : Int32, [Value.ref 0, Value.int (nI 3)] = [Value.ref 0, .int f1] ∧ hpM (va_up R 0 0) N = hpM R1 N1 ∧ K (some (.int (-10 - f1))) (hpM (va_up R1 0 f1) N1)) ∧ (¬ (0 : Int32) = 0 → X) := fun z => ⟨fun _ => bad z, fun w => absurd rfl w⟩
        refine bz_lt i.toInt 0 (fun h3 => ?_) (fun h3 => ?_)
        · refine And.intro (fun _ => ?_) (fun w => absurd rfl w)
          obtain ⟨R1, r⟩ := bad (by omega)
          exact Exists.intro R1 r
        refine bz_lt j.toInt 0 (fun h4 => ?_) (fun h4 => ?_)
        · refine And.intro (fun _ => ?_) (fun w => absurd rfl w)
          obtain ⟨R1, r⟩ := bad (by omega)
          exact Exists.intro R1 r
        refine bz_lt n.toInt 0 (fun h5 => ?_) (fun h5 => ?_)
        · refine And.intro (fun _ => ?_) (fun w => absurd rfl w)
          obtain ⟨R1, r⟩ := bad (by omega)
          exact Exists.intro R1 r
        refine And.intro hv ?_
        refine g2 (fun h6 => ?_) (fun h6 => ?_)
        · refine And.intro (fun _ => ?_) (fun w => absurd rfl w)
          obtain ⟨R1, r⟩ := bad (by omega)
          exact Exists.intro R1 r
        refine And.intro hv2 ?_
        refine g3 (fun h7 => ?_) (fun h7 => ?_)
        · refine And.intro (fun _ => ?_) (fun w => absurd rfl w)
          obtain ⟨R1, r⟩ := bad (by omega)
          exact Exists.intro R1 r
        refine And.intro (fun w => absurd w (by decide)) (fun _ => ?_)
        refine And.intro hv ?_
        refine g4 h3 h6 (fun h8 => ?_) (fun h8 => ?_)
        · obtain ⟨R1, r⟩ := bad (by omega)
          exact Exists.intro R1 r
        refine And.intro hv2 ?_
        refine g5 h4 h7 (fun h9 => ?_) (fun h9 => ?_)
        · have hP : inI (nI a) 4 ∧ inI (nI c) 4 ∧ S (10 + a) = 1 ∧ S (10 + c) = 1 ∧ S (20 + a) = S (20 + c) ∧ 0 ≤ n.toInt ∧ 0 ≤ i.toInt ∧ 0 ≤ j.toInt ∧ i.toInt + n.toInt ≤ S (30 + a) ∧ j.toInt + n.toInt ≤ S (30 + c) ∧ S (30 + a) ≤ 60 ∧ S (30 + c) ≤ 60 := ⟨hin, hin2, z1, y1, h, h5, h3, h4, h8, h9, l4, l6⟩
          obtain ⟨i', hi', rfl, ei⟩ := ti_of h3
          obtain ⟨j', hj', rfl, ej⟩ := ti_of h4
          obtain ⟨n', hn', rfl, en⟩ := ti_of h5
          have hs : ∀ b : Bool, cpf (N 3) (60 * a + i') (60 * c + j') (cpl n' 0 b) (cph n' 0 b) = N 3 := fun b => by cases b <;> exact cpf_0 _ _ _ _
          rw [nt_n hi', nt_n hj', nt_n hn']
          refine bz_le (nI j').toInt (nI i').toInt (fun h10 => ?_) (fun h10 => ?_)
          · have hd : decide ((nI i').toInt < (nI j').toInt) = false := decide_eq_false (by omega)
            rw [hd]
            exact Exists.intro n' ⟨trivial, rfl, hP, 0, _, _, _, N 3, by omega, rfl, rfl, rfl, rfl, rfl, (hs _).symm⟩
          · have hd : decide ((nI i').toInt < (nI j').toInt) = true := decide_eq_true h10
            rw [hd]
            exact Exists.intro n' ⟨trivial, rfl, hP, 0, _, _, _, N 3, by omega, rfl, rfl, rfl, rfl, rfl, (hs _).symm⟩
        · obtain ⟨R1, r⟩ := bad (by omega)
          exact Exists.intro R1 r
      · rw [if_pos h] at hK
        obtain ⟨R1, r⟩ := kf 2 (-12) hK (by decide)
        exact Exists.intro R1 r
    · have hin2 : ¬ inI o 4 := fun z => by rw [hb2.mpr z] at h2; cases h2
      rw [q_copy, if_pos (.inr hin2)] at hK
      exact hK _ N h0
  · rintro pc kk L st hp ⟨rfl, hP, q, y, l6, l9, F, hq, rfl, rfl, rfl, rfl, rfl, rfl⟩
    obtain ⟨hin, hin2, z1, y1, hl, h5, h3, h4, h8, h9, l4, l6'⟩ := id hP
    rw [q_copy, if_neg (by rintro (z | z); exact z hin; exact z hin2), if_neg (by omega), if_neg (not_not_intro hl), if_neg (not_not_intro ⟨h5, h3, h4, h8, h9⟩)] at hK
    obtain ⟨a, ha, rfl, ea⟩ := ti_of hin.1
    obtain ⟨c, hc, rfl, ec⟩ := ti_of hin2.1
    obtain ⟨i, hi, rfl, ei⟩ := ti_of h3
    obtain ⟨j, hj, rfl, ej⟩ := ti_of h4
    obtain ⟨n, hn, rfl, en⟩ := ti_of h5
    have l1 : a < 4 := by have := hin.2; omega
    have l2 : c < 4 := by have := hin2.2; omega
    rw [nt_n ha, nt_n hc, nt_n hi, nt_n hj, nt_n hn] at hK ⊢
    rw [nt_n ha, nt_n hc] at hP
    rw [nt_n hn] at hq
    rw [nt_n ha] at z1 h8 l4
    rw [nt_n hc] at y1 h9 l6'
    rw [ei, en] at h8
    rw [ej, en] at h9
    have b1 : i + n ≤ 60 := by omega
    have b2 : j + n ≤ 60 := by omega
    refine pk_le n q (fun h => ?_) (fun h => ?_)
    · obtain rfl : q = n := by omega
      have hF : cpf (N 3) (60 * a + i) (60 * c + j) (cpl q q (decide ((nI i).toInt < (nI j).toInt))) (cph q q (decide ((nI i).toInt < (nI j).toInt))) = cpf (N 3) (60 * a + i) (60 * c + j) 0 q := by
        unfold cpl cph
        split
        · rw [Nat.sub_self]
        · rfl
      rw [hF]
      refine hK (va_up R 0 0) (va_up N 3 (cpf (N 3) (60 * a + i) (60 * c + j) 0 q)) ?_
      obtain ⟨a0, a1, a2, ⟨r1, r2, r3, r4⟩, a4⟩ := h0
      have z1' : va_up S 0 0 (10 + a) = 1 := by rw [up_n _ (by omega)]; exact z1
      exact ⟨a0, a1, a2, ⟨r1, r2.trans (up_n (f := G) (k := c) 4 (by omega)).symm, r3.trans (up_n (f := G) (k := c) 5 (by omega)).symm, r4.trans (up_n (f := G) (k := c) 6 (by omega)).symm⟩, relH_copy l1 l2 z1' b1 b2 a4⟩
    have st : ∀ (x : Int32) (t lo hi lo' hi' : Nat), x = nI t → t < n → (60 * a + i + t < 60 * c + j + lo ∨ 60 * c + j + hi ≤ 60 * a + i + t) → upd (cpf (N 3) (60 * a + i) (60 * c + j) lo hi) (60 * c + j + t) (N 3 (60 * a + i + t)) = cpf (N 3) (60 * a + i) (60 * c + j) lo' hi' → vp_in ((60 : Int32) * nI a + nI i + x) 240 ∧ vp_in ((60 : Int32) * nI c + nI j + x) 240 ∧ upd (cpf (N 3) (60 * a + i) (60 * c + j) lo hi) ((60 : Int32) * nI c + nI j + x).toNatClampNeg (cpf (N 3) (60 * a + i) (60 * c + j) lo hi ((60 : Int32) * nI a + nI i + x).toNatClampNeg) = cpf (N 3) (60 * a + i) (60 * c + j) lo' hi' := fun x t lo hi lo' hi' ex ht ho hu => by
      subst ex
      rw [cel_i, cel_i, nI_add, nI_add, nI_clamp (by omega), nI_clamp (by omega), cpf_out _ ho]
      exact ⟨pk_in (60 * a + i + t) 240 (by omega), pk_in (60 * c + j + t) 240 (by omega), hu⟩
    cases hd : decide ((nI i).toInt < (nI j).toInt) with
    | false =>
      have hij : ¬ (nI i).toInt < (nI j).toInt := of_decide_eq_false hd
      rw [ei, ej] at hij
      obtain ⟨s1, s2, s3⟩ := st (nI q) q 0 q 0 (q + 1) rfl h (by omega) (cpf_up _ _ _ _ _ (by omega))
      refine And.intro (fun _ => ?_) (fun w => absurd rfl w)
      refine And.intro s1 (And.intro s2 ?_)
      exact Exists.intro (n - (q + 1)) ⟨by show _ < _; omega, rfl, hP, q + 1, _, _, _, _, by omega, rfl, rfl, rfl, rfl, nI_1 q, s3⟩
    | true =>
      have hij : (nI i).toInt < (nI j).toInt := of_decide_eq_true hd
      rw [ei, ej] at hij
      have ex : nI n - 1 - nI q = nI (n - 1 - q) := by
        have e1 : nI n - 1 = nI (n - 1) := pk_sub (a := n) (b := 1) (by omega)
        rw [e1, pk_sub (by omega)]
      obtain ⟨s1, s2, s3⟩ := st (nI n - 1 - nI q) (n - 1 - q) (n - q) n (n - (q + 1)) n ex (by omega) (by omega) (by
        have := cpf_dn (N 3) (60 * a + i) (60 * c + j) (n - (q + 1)) n (by omega)
        rw [show n - (q + 1) + 1 = n - q by omega] at this
        rw [show n - 1 - q = n - (q + 1) by omega]
        exact this)
      refine And.intro (fun w => absurd w (by decide)) (fun _ => ?_)
      refine And.intro s1 (And.intro s2 ?_)
      exact Exists.intro (n - (q + 1)) ⟨by show _ < _; omega, rfl, hP, q + 1, _, _, _, _, by omega, rfl, rfl, rfl, rfl, nI_1 q, s3⟩
set_option maxRecDepth 100000 in
set_option maxHeartbeats 4000000 in
theorem m_X8_copy (l : Launch) : ip_Met l yX8_copy cX8_copy 10 (some .int) (ip_rm 2) C_X8_copy := ip_met tb_X8_copy 400 (by decide +kernel) fl_X8_ok cn_X8_ok (ip_cs1 (ip_gsS (m_X8_isSheet l) (ip_in [713, 714, 39, 715] (by decide +kernel) (by decide +kernel)) ⟨by decide +kernel, by decide +kernel, by decide +kernel⟩ ⟨rfl, rfl, Nat.le_of_ble_eq_true rfl, Nat.le_of_ble_eq_true rfl⟩) (ip_cs1 (ip_gsV (m_X8_fails l) (ip_in [726, 728, 10, 39, 729] (by decide +kernel) (by decide +kernel)) rfl ⟨by decide +kernel, by decide +kernel, by decide +kernel⟩ ⟨rfl, rfl, Nat.le_of_ble_eq_true rfl, Nat.le_of_ble_eq_true rfl⟩) (ip_cs0))) ck_X8_copy rfl p_X8_copy
