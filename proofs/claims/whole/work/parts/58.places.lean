/-! ===== where men should stand: rows of parishes by numbers ===== -/
def dg (P M x i : Nat) : Nat := x / P ^ (M - 1 - i) % P
def nm (P : Nat) (pl : Nat → Nat) : Nat → Nat
  | 0 => 0
  | m + 1 => nm P pl m * P + pl m
theorem nm_cong {P : Nat} {pl pl' : Nat → Nat} : ∀ {m : Nat}, (∀ i, i < m → pl i = pl' i) → nm P pl m = nm P pl' m
  | 0, _ => rfl
  | m + 1, h => by rw [nm, nm, nm_cong (fun i hi => h i (by omega)), h m (by omega)]
theorem nm_div {P m : Nat} {pl : Nat → Nat} : ∀ r, (∀ i, i < m + r → pl i < P) → nm P pl (m + r) / P ^ r = nm P pl m
  | 0, _ => by simp
  | r + 1, h => by
    have hp := h (m + r) (by omega)
    rw [← Nat.add_assoc, nm, Nat.pow_succ, Nat.mul_comm (P ^ r) P, ← Nat.div_div_eq_div_mul, Nat.mul_comm (nm P pl (m + r)) P, Nat.mul_add_div (by omega), Nat.div_eq_of_lt hp, Nat.add_zero]
    exact nm_div r (fun i hi => h i (by omega))
theorem dg_nm {P M i : Nat} {pl : Nat → Nat} (hi : i < M) (h : ∀ i, i < M → pl i < P) : dg P M (nm P pl M) i = pl i := by
  have e := nm_div (P := P) (m := i + 1) (pl := pl) (M - (i + 1)) (fun j hj => h j (by omega))
  rw [show i + 1 + (M - (i + 1)) = M by omega] at e
  rw [dg, show M - 1 - i = M - (i + 1) by omega, e, nm, Nat.mul_comm, Nat.mul_add_mod]
  exact Nat.mod_eq_of_lt (h i hi)
theorem dg_lt {P M x i : Nat} (hP : 0 < P) : dg P M x i < P := Nat.mod_lt _ hP
/-- the first of the least -/
def fstL (c : Nat → Nat) (n x : Nat) : Prop := x < n ∧ (∀ y, y < x → c x < c y) ∧ ∀ y, y < n → c x ≤ c y
theorem fstL_one {c : Nat → Nat} {n x y : Nat} (h : fstL c n x) (h2 : fstL c n y) : x = y := by
  obtain ⟨a1, a2, a3⟩ := h
  obtain ⟨b1, b2, b3⟩ := h2
  rcases Nat.lt_trichotomy x y with q | q | q
  · have := b2 x q; have := a3 y b1; omega
  · exact q
  · have := a2 y q; have := b3 x a1; omega
def amn (c : Nat → Nat) : Nat → Nat
  | 0 => 0
  | n + 1 => if n = 0 then 0 else if c n < c (amn c n) then n else amn c n
theorem amn_ok (c : Nat → Nat) : ∀ n, fstL c (n + 1) (amn c (n + 1))
  | 0 => ⟨by simp [amn], fun y hy => by simp [amn] at hy, fun y hy => by obtain rfl : y = 0 := by omega
                                                                         simp [amn]⟩
  | n + 1 => by
    obtain ⟨a1, a2, a3⟩ := amn_ok c n
    have e : amn c (n + 1 + 1) = if c (n + 1) < c (amn c (n + 1)) then n + 1 else amn c (n + 1) := by rw [amn, if_neg (by omega)]
    rw [e]
    generalize amn c (n + 1) = z at *
    by_cases h : c (n + 1) < c z
    · rw [if_pos h]
      refine ⟨by omega, fun y hy => ?_, fun y hy => ?_⟩
      · have := a3 y (by omega); omega
      · by_cases q : y = n + 1
        · rw [q]; omega
        · have := a3 y (by omega); omega
    · rw [if_neg h]
      refine ⟨by omega, a2, fun y hy => ?_⟩
      by_cases q : y = n + 1
      · rw [q]; omega
      · exact a3 y (by omega)
/-- what a stretch of numbers does to the fewest and to the row that is kept -/
def upR (c : Nat → Nat) (P M lo hi few few' : Nat) (B B' : Nat → Int32) : Prop := (few' = few ∧ B' = B ∧ ∀ x, lo ≤ x → x < hi → few ≤ c x) ∨ (∃ x, lo ≤ x ∧ x < hi ∧ few' = c x ∧ few' < few ∧ (∀ y, lo ≤ y → y < x → few' < c y) ∧ (∀ y, lo ≤ y → y < hi → few' ≤ c y) ∧ ∀ i, i < M → B' i = nI (dg P M x i))
theorem upR_refl {c : Nat → Nat} {P M lo hi few : Nat} {B : Nat → Int32} (h : hi ≤ lo) : upR c P M lo hi few few B B := Or.inl ⟨rfl, rfl, fun x h1 h2 => absurd h2 (by omega)⟩
theorem upR_trans {c : Nat → Nat} {P M lo mid hi f1 f2 f3 : Nat} {B1 B2 B3 : Nat → Int32} (hm : lo ≤ mid) (hh : mid ≤ hi) (h : upR c P M lo mid f1 f2 B1 B2) (h2 : upR c P M mid hi f2 f3 B2 B3) : upR c P M lo hi f1 f3 B1 B3 := by
  rcases h with ⟨rfl, rfl, a3⟩ | ⟨x, a1, a2, a3, a4, a5, a6, a7⟩
  · rcases h2 with ⟨rfl, rfl, b3⟩ | ⟨x, b1, b2, b3, b4, b5, b6, b7⟩
    · refine Or.inl ⟨rfl, rfl, fun x q1 q2 => ?_⟩
      by_cases c' : x < mid
      · exact a3 x q1 c'
      · exact b3 x (by omega) q2
    · refine Or.inr ⟨x, by omega, b2, b3, b4, fun y q1 q2 => ?_, fun y q1 q2 => ?_, b7⟩
      · by_cases c' : y < mid
        · have := a3 y q1 c'; omega
        · exact b5 y (by omega) q2
      · by_cases c' : y < mid
        · have := a3 y q1 c'; omega
        · exact b6 y (by omega) q2
  · rcases h2 with ⟨rfl, rfl, b3⟩ | ⟨z, b1, b2, b3, b4, b5, b6, b7⟩
    · refine Or.inr ⟨x, a1, by omega, a3, a4, a5, fun y q1 q2 => ?_, a7⟩
      by_cases c' : y < mid
      · exact a6 y q1 c'
      · exact b3 y (by omega) q2
    · refine Or.inr ⟨z, by omega, b2, b3, by omega, fun y q1 q2 => ?_, fun y q1 q2 => ?_, b7⟩
      · by_cases c' : y < mid
        · have := a6 y q1 c'; omega
        · exact b5 y (by omega) q2
      · by_cases c' : y < mid
        · have := a6 y q1 c'; omega
        · exact b6 y (by omega) q2
theorem upR_all {c : Nat → Nat} {P M n few few' : Nat} {B B' : Nat → Int32} (h : upR c P M 0 (n + 1) few few' B B') (hc : ∀ x, c x < few) : few' = c (amn c (n + 1)) ∧ ∀ i, i < M → B' i = nI (dg P M (amn c (n + 1)) i) := by
  rcases h with ⟨-, -, a3⟩ | ⟨x, a1, a2, a3, a4, a5, a6, a7⟩
  · have := a3 0 (by omega) (by omega); have := hc 0; omega
  · have e : x = amn c (n + 1) := fstL_one ⟨a2, fun y hy => by have := a5 y (by omega) hy; omega, fun y hy => by have := a6 y (by omega) hy; omega⟩ (amn_ok c n)
    rw [← e]
    exact ⟨a3, a7⟩
def sqP (G : Nat → Nat → Int32) (k a t : Nat) : Nat := nt (G k (a + 2 * t + 1))
/-- how often it strikes, if just the first m stand, by pl -/
def Tm (S : Nat → Nat) (sp sq : Nat → Nat) (n m : Nat) (pl : Nat → Nat) : Nat := fb_ct (fun t => !heldS S (fun i => decide (i < m) && pl i == sp t) (sq t)) n
def ctm (S : Nat → Nat) (sp sq : Nat → Nat) (n p c : Nat) : Nat := fb_ct (fun t => sp t == p && !heldS S (fun i => c.testBit i) (sq t)) n
def crd (m : Nat) (pl : Nat → Nat) (p : Nat) : Nat := bs 4 (fun i => decide (i < m) && pl i == p)
def pls (pl : Nat → Nat) (m p : Nat) : Nat → Nat := fun i => if i = m then p else pl i
theorem crd_lt (m : Nat) (pl : Nat → Nat) (p : Nat) : crd m pl p < 16 := bs_lt _ 4
theorem crd_or {m : Nat} (pl : Nat → Nat) (p : Nat) (hm : m < 4) : crd m pl p ||| 2 ^ m = crd (m + 1) (pls pl m p) p := by
  unfold crd
  rw [bs_or_one hm]
  refine bs_cong (fun i _ => ?_)
  unfold pls
  by_cases e : i = m
  · subst e; simp
  · have : decide (i < m + 1) = decide (i < m) := decide_eq_decide.mpr (by omega)
    simp [e, this]
theorem crd_ne {m : Nat} (pl : Nat → Nat) {p q : Nat} (hq : q ≠ p) : crd (m + 1) (pls pl m p) q = crd m pl q := by
  unfold crd
  refine bs_cong (fun i _ => ?_)
  unfold pls
  by_cases e : i = m
  · subst e
    have : (p == q) = false := by simp; omega
    simp [this]
  · have : decide (i < m + 1) = decide (i < m) := decide_eq_decide.mpr (by omega)
    simp [e, this]
theorem Tm_cong {S : Nat → Nat} {sp sq : Nat → Nat} {n m : Nat} {pl pl' : Nat → Nat} (h : ∀ i, i < m → pl i = pl' i) : Tm S sp sq n m pl = Tm S sp sq n m pl' := by
  refine fb_ct_cong (fun t _ => ?_)
  congr 1
  refine held_cong (fun i _ => ⟨rfl, rfl, ?_⟩)
  by_cases c : i < m
  · rw [h i c]
  · rw [decide_eq_false c]; rfl
theorem ct_two (f g : Nat → Bool) : ∀ n, fb_ct f n = fb_ct (fun t => g t && f t) n + fb_ct (fun t => !g t && f t) n
  | 0 => rfl
  | n + 1 => by
    rw [fb_ct_succ, fb_ct_succ, fb_ct_succ, ct_two f g n]
    cases g n <;> cases f n <;> simp <;> omega
theorem Tm_step {S : Nat → Nat} (h3 : S 3 ≤ 4) {sp sq : Nat → Nat} {n m p : Nat} {pl : Nat → Nat} : Tm S sp sq n (m + 1) (pls pl m p) + ctm S sp sq n p (crd m pl p) = Tm S sp sq n m pl + ctm S sp sq n p (crd (m + 1) (pls pl m p) p) := by
  have e1 : ∀ (m' : Nat) (pl' : Nat → Nat), fb_ct (fun t => sp t == p && !heldS S (fun i => decide (i < m') && pl' i == sp t) (sq t)) n = ctm S sp sq n p (crd m' pl' p) := fun m' pl' => by
    refine fb_ct_cong (fun t _ => ?_)
    by_cases e : sp t = p
    · have hb : (sp t == p) = true := by simp [e]
      rw [hb]
      congr 1
      congr 1
      refine held_cong (fun i hi => ⟨rfl, rfl, ?_⟩)
      unfold crd
      rw [bs_bit, decide_eq_true (show i < 4 by omega), e]
      rfl
    · have hb : (sp t == p) = false := by simp [e]
      rw [hb]; rfl
  have e2 : fb_ct (fun t => !(sp t == p) && !heldS S (fun i => decide (i < m + 1) && pls pl m p i == sp t) (sq t)) n = fb_ct (fun t => !(sp t == p) && !heldS S (fun i => decide (i < m) && pl i == sp t) (sq t)) n := by
    refine fb_ct_cong (fun t _ => ?_)
    by_cases e : sp t = p
    · have hb : (sp t == p) = true := by simp [e]
      rw [hb]; rfl
    · congr 1
      congr 1
      refine held_cong (fun i hi => ⟨rfl, rfl, ?_⟩)
      unfold pls
      by_cases c : i = m
      · subst c
        have : (p == sp t) = false := by simp; omega
        simp [this]
      · have : decide (i < m + 1) = decide (i < m) := decide_eq_decide.mpr (by omega)
        simp [c, this]
  unfold Tm
  rw [ct_two _ (fun t => sp t == p) n, ct_two (fun t => !heldS S (fun i => decide (i < m) && pl i == sp t) (sq t)) (fun t => sp t == p) n, e1, e1, e2]
  omega
theorem Tm_0 {S : Nat → Nat} {sp sq : Nat → Nat} {n : Nat} {pl : Nat → Nat} : Tm S sp sq n 0 pl = n := by
  unfold Tm
  rw [fb_ct_all]
  intro t _
  have : heldS S (fun i => decide (i < 0) && pl i == sp t) (sq t) = false := by
    unfold heldS held
    rw [anyb_false (fun i _ => by simp)]
    rfl
  rw [this]; rfl
theorem Tm_le (S : Nat → Nat) (sp sq : Nat → Nat) (n m : Nat) (pl : Nat → Nat) : Tm S sp sq n m pl ≤ n := fb_ct_le _ _
theorem ctm_le (S : Nat → Nat) (sp sq : Nat → Nat) (n p c : Nat) : ctm S sp sq n p c ≤ n := fb_ct_le _ _
/-- the answer -/
def cP (S : Nat → Nat) (G : Nat → Nat → Int32) (k a n x : Nat) : Nat := Tm S (spP G k a) (sqP G k a) n (S 3) (dg (S 2) (S 3) x)
def q_place (S : Nat → Nat) (G : Nat → Nat → Int32) (kk sh ln i n : Int32) : Int32 × Nat := if kk.toInt < -1 then (-1, 0) else if (hsR S G sh ln i n true).1 ≠ 0 then hsR S G sh ln i n true else if kk.toInt = -1 then (nI (cP S G (nt sh) (nt i) (nt n) (amn (cP S G (nt sh) (nt i) (nt n)) (S 2 ^ S 3))), 0) else if inI kk (S 3) then (nI (dg (S 2) (S 3) (amn (cP S G (nt sh) (nt i) (nt n)) (S 2 ^ S 3)) (nt kk)), 0) else (-9, 0)
/-- the county, as it would be with men placed by number x -/
def plS (S : Nat → Nat) (x : Nat) : Nat → Nat := fun j => if 50 ≤ j ∧ j < 50 + S 3 then dg (S 2) (S 3) x (j - 50) else S j
theorem plS_n (S : Nat → Nat) (x : Nat) {j : Nat} (h : j < 50 ∨ 54 ≤ j) (h3 : S 3 ≤ 4) : plS S x j = S j := by unfold plS; rw [if_neg (by omega)]
theorem plS_m (S : Nat → Nat) (x : Nat) {m : Nat} (h : m < S 3) : plS S x (50 + m) = dg (S 2) (S 3) x m := by unfold plS; rw [if_pos (by omega), show 50 + m - 50 = m by omega]
theorem plS_st (S : Nat → Nat) (G : Nat → Nat → Int32) (k a x t : Nat) (h3 : S 3 ≤ 4) : stP (plS S x) G k a t = !heldS S (fun i => decide (i < S 3) && dg (S 2) (S 3) x i == spP G k a t) (sqP G k a t) := by
  unfold stP stk
  congr 1
  unfold heldS
  rw [plS_n S x (by omega) h3, plS_n S x (by omega) h3]
  refine held_cong (fun m hm => ⟨plS_n S x (by omega) h3, plS_n S x (by omega) h3, ?_⟩)
  rw [plS_m S x hm, decide_eq_true hm]
  rfl
theorem plS_ct (S : Nat → Nat) (G : Nat → Nat → Int32) (k a n x : Nat) (h3 : S 3 ≤ 4) : fb_ct (stP (plS S x) G k a) n = cP S G k a n x := fb_ct_cong (fun t _ => plS_st S G k a x t h3)
theorem plS_wf {S : Nat → Nat} (h : wfM S) (hP : 0 < S 2) (x : Nat) : wfM (plS S x) := by
  obtain ⟨a, b, c, d⟩ := h
  refine ⟨by rw [plS_n S x (by omega) c]; exact a, by rw [plS_n S x (by omega) c]; exact b, by rw [plS_n S x (by omega) c]; exact c, fun m hm => ?_⟩
  obtain ⟨d1, d2, d3⟩ := d m hm
  refine ⟨by rw [plS_n S x (by omega) c]; exact d1, ?_, by rw [plS_n S x (by omega) c]; exact d3⟩
  by_cases q : m < S 3
  · rw [plS_m S x q]
    have := dg_lt (M := S 3) (x := x) (i := m) hP
    omega
  · unfold plS
    rw [if_neg (by omega)]
    exact d2
