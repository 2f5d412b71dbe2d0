/-! ===== storms that go on: walks and rows of parishes ===== -/
def sw (S : Nat → Nat) (q s : Nat) : Nat := if dgp S q = 0 then s else s ||| 2 ^ q
def nxB (S : Nat → Nat) (f : Nat → Bool) (j : Nat) : Bool := anyb (S 2) (fun q => anyb 64 (fun s => f (64 * q + s) && anyb 3 (fun d => decide (1 ≤ q + d ∧ q + d - 1 < S 2) && j == 64 * (q + d - 1) + sw S (q + d - 1) s)))
def rch (S : Nat → Nat) (p : Nat) : Nat → Nat → Bool
  | 0 => fun j => j == 64 * p + sw S p 0
  | k + 1 => nxB S (rch S p k)
def mxB (f : Nat → Bool) : Nat → Nat
  | 0 => 0
  | k + 1 => if f k = true ∧ mxB f k < pc6 (k % 64) then pc6 (k % 64) else mxB f k
def msk (S : Nat → Nat) (a b : Nat) : Nat := bs 6 (fun i => decide (a ≤ i ∧ i ≤ b) && dgp S i != 0)
theorem msk_lt (S : Nat → Nat) (a b : Nat) : msk S a b < 64 := bs_lt _ 6
theorem msk_add {S : Nat → Nat} {a b a' b' q : Nat} (hq : q < 6) (h : ∀ i, i < 6 → ((a' ≤ i ∧ i ≤ b') ↔ ((a ≤ i ∧ i ≤ b) ∨ i = q))) : sw S q (msk S a b) = msk S a' b' := by
  unfold sw msk
  by_cases hd : dgp S q = 0
  · rw [if_pos hd]
    refine bs_cong (fun i hi => ?_)
    by_cases e : i = q
    · subst e; simp [hd]
    · have : decide (a ≤ i ∧ i ≤ b) = decide (a' ≤ i ∧ i ≤ b') := by
        have := h i hi
        simp only [e, or_false] at this
        exact decide_eq_decide.mpr this.symm
      rw [this]
  · rw [if_neg hd, bs_or_one hq]
    refine bs_cong (fun i hi => ?_)
    have h' := h i hi
    by_cases e : i = q
    · subst e
      have : (a' ≤ i ∧ i ≤ b') := h'.mpr (Or.inr rfl)
      simp [hd, this]
    · simp only [e, or_false] at h'
      have : decide (a ≤ i ∧ i ≤ b) = decide (a' ≤ i ∧ i ≤ b') := decide_eq_decide.mpr h'.symm
      rw [this]
      simp [e]
theorem msk_none (S : Nat → Nat) {a b : Nat} (h : b < a) : msk S a b = 0 := by
  have : ∀ n, bs n (fun _ => false) = 0 := fun n => by
    induction n with
    | zero => rfl
    | succ n ih => simp [bs, ih]
  unfold msk
  rw [← this 6]
  refine bs_cong (fun i _ => ?_)
  rw [decide_eq_false (by omega)]
  rfl
theorem msk_one {S : Nat → Nat} {p : Nat} (hp : p < 6) : sw S p 0 = msk S p p := by
  rw [← msk_none S (show p < p + 1 by omega)]
  exact msk_add hp (fun i _ => by omega)
theorem ct_win (D : Nat → Bool) (a b : Nat) : ∀ n, fb_ct (fun i => decide (a ≤ i ∧ i ≤ b) && D i) n = fb_ct (fun i => D (a + i)) (min n (b + 1) - a)
  | 0 => by rw [show min 0 (b + 1) - a = 0 by omega]; rfl
  | n + 1 => by
    rw [fb_ct_succ, ct_win D a b n]
    by_cases h1 : n < a
    · rw [show min n (b + 1) - a = 0 by omega, show min (n + 1) (b + 1) - a = 0 by omega, decide_eq_false (by omega)]
      rfl
    · by_cases h2 : n ≤ b
      · rw [show min (n + 1) (b + 1) - a = (min n (b + 1) - a) + 1 by omega, fb_ct_succ, decide_eq_true (by omega), show a + (min n (b + 1) - a) = n by omega]
        rfl
      · rw [show min n (b + 1) = b + 1 by omega, show min (n + 1) (b + 1) = b + 1 by omega, decide_eq_false (by omega)]
        rfl
theorem pc_msk (S : Nat → Nat) {a b : Nat} (hb : b < 6) : pc6 (msk S a b) = dct S a b := by
  have e : pc6 (msk S a b) = fb_ct (fun i => decide (a ≤ i ∧ i ≤ b) && dgp S i != 0) 6 := by
    unfold pc6 msk
    refine fb_ct_cong (fun i hi => ?_)
    rw [bs_bit, decide_eq_true hi]
    rfl
  rw [e, ct_win (fun i => dgp S i != 0) a b 6, dct, show min 6 (b + 1) = b + 1 by omega]
theorem rch_inv {S : Nat → Nat} {p : Nat} (h2 : S 2 ≤ 6) (hp : p < S 2) : ∀ (k j : Nat), rch S p k j = true → ∃ a b q, a ≤ p ∧ p ≤ b ∧ b < S 2 ∧ a ≤ q ∧ q ≤ b ∧ j = 64 * q + msk S a b ∧ ((p - a) + (b - a) + (b - q) ≤ k ∨ (b - p) + (b - a) + (q - a) ≤ k)
  | 0, j, h => by
    have e : j = 64 * p + sw S p 0 := by simpa [rch] using h
    exact ⟨p, p, p, by omega, by omega, hp, by omega, by omega, by rw [e, msk_one (by omega)], by omega⟩
  | k + 1, j, h => by
    simp only [rch, nxB] at h
    obtain ⟨q0, hq0, h⟩ := anyb_iff.mp h
    obtain ⟨s, hs, h⟩ := anyb_iff.mp h
    rw [Bool.and_eq_true] at h
    obtain ⟨hf, h⟩ := h
    obtain ⟨d, hd, h⟩ := anyb_iff.mp h
    rw [Bool.and_eq_true] at h
    obtain ⟨hv, h⟩ := h
    have hv := of_decide_eq_true hv
    have e : j = 64 * (q0 + d - 1) + sw S (q0 + d - 1) s := by simpa using h
    obtain ⟨a, b, q, g1, g2, g3, g4, g5, g6, g7⟩ := rch_inv h2 hp k _ hf
    have hm := msk_lt S a b
    have e1 : q0 = q := by omega
    have e2 : s = msk S a b := by omega
    subst e1 e2
    generalize ht : q0 + d - 1 = t at *
    by_cases c1 : t < a
    · refine ⟨t, b, t, by omega, g2, g3, by omega, by omega, ?_, by omega⟩
      rw [e, msk_add (a' := t) (b' := b) (by omega) (fun i _ => by omega)]
    · by_cases c2 : b < t
      · refine ⟨a, t, t, by omega, by omega, by omega, by omega, by omega, ?_, by omega⟩
        rw [e, msk_add (a' := a) (b' := t) (by omega) (fun i _ => by omega)]
      · refine ⟨a, b, t, g1, g2, g3, by omega, by omega, ?_, by omega⟩
        rw [e, msk_add (a' := a) (b' := b) (by omega) (fun i _ => by omega)]
theorem rch_go {S : Nat → Nat} {p k q t s : Nat} (h : rch S p k (64 * q + s) = true) (hq : q < S 2) (hs : s < 64) (ht : t < S 2) (hd : t + 1 = q ∨ t = q ∨ t = q + 1) : rch S p (k + 1) (64 * t + sw S t s) = true := by
  simp only [rch, nxB]
  refine anyb_iff.mpr ⟨q, hq, anyb_iff.mpr ⟨s, hs, ?_⟩⟩
  rw [h, Bool.true_and]
  refine anyb_iff.mpr ⟨t + 1 - q, by omega, ?_⟩
  rw [show q + (t + 1 - q) - 1 = t by omega, decide_eq_true (by omega)]
  simp
theorem rch_to {S : Nat → Nat} {p k q t a b a' b' : Nat} (h : rch S p k (64 * q + msk S a b) = true) (h2 : S 2 ≤ 6) (hq : q < S 2) (ht : t < S 2) (hd : t + 1 = q ∨ t = q ∨ t = q + 1) (hw : ∀ i, i < 6 → ((a' ≤ i ∧ i ≤ b') ↔ ((a ≤ i ∧ i ≤ b) ∨ i = t))) : rch S p (k + 1) (64 * t + msk S a' b') = true := by
  have := rch_go h hq (msk_lt S a b) ht hd
  rw [msk_add (by omega) hw] at this
  exact this
theorem rch_0 {S : Nat → Nat} {p : Nat} (h2 : S 2 ≤ 6) (hp : p < S 2) : rch S p 0 (64 * p + msk S p p) = true := by
  rw [← msk_one (by omega)]
  simp [rch]
theorem rch_l {S : Nat → Nat} {p k q a b : Nat} (h2 : S 2 ≤ 6) (hq : q < S 2) (ha : a ≤ q) (hqb : q ≤ b) (h : rch S p k (64 * q + msk S a b) = true) : ∀ i, i ≤ q → rch S p (k + i) (64 * (q - i) + msk S (min a (q - i)) b) = true
  | 0, _ => by rw [show min a (q - 0) = a by omega]; exact h
  | i + 1, hi => rch_to (rch_l h2 hq ha hqb h i (by omega)) h2 (by omega) (by omega) (by omega) (fun j _ => by omega)
theorem rch_r {S : Nat → Nat} {p k q a b : Nat} (h2 : S 2 ≤ 6) (hq : q < S 2) (ha : a ≤ q) (hqb : q ≤ b) (h : rch S p k (64 * q + msk S a b) = true) : ∀ i, q + i < S 2 → rch S p (k + i) (64 * (q + i) + msk S a (max b (q + i))) = true
  | 0, _ => by rw [show max b (q + 0) = b by omega]; exact h
  | i + 1, hi => rch_to (rch_r h2 hq ha hqb h i (by omega)) h2 (by omega) (by omega) (by omega) (fun j _ => by omega)
theorem rch_st {S : Nat → Nat} {p k q a b : Nat} (h2 : S 2 ≤ 6) (hq : q < S 2) (ha : a ≤ q) (hqb : q ≤ b) (h : rch S p k (64 * q + msk S a b) = true) : ∀ i, rch S p (k + i) (64 * q + msk S a b) = true
  | 0 => h
  | i + 1 => rch_to (rch_st h2 hq ha hqb h i) h2 hq hq (by omega) (fun j _ => by omega)
theorem rch_all {S : Nat → Nat} {p k a b : Nat} (h2 : S 2 ≤ 6) (ha : a ≤ p) (hb : p ≤ b) (hbS : b < S 2) (hk : stp a p b ≤ k) : ∃ q, q < S 2 ∧ rch S p k (64 * q + msk S a b) = true := by
  have h0 := rch_0 h2 (show p < S 2 by omega)
  unfold stp at hk
  by_cases c : p - a ≤ b - p
  · have h1 := rch_l h2 (by omega) (Nat.le_refl p) (Nat.le_refl p) h0 (p - a) (by omega)
    rw [show p - (p - a) = a by omega, show min p a = a by omega] at h1
    have h3 := rch_r h2 (by omega) (Nat.le_refl a) ha h1 (b - a) (by omega)
    rw [show a + (b - a) = b by omega, show max p b = b by omega] at h3
    have h4 := rch_st h2 hbS (by omega) (Nat.le_refl b) h3 (k - (0 + (p - a) + (b - a)))
    rw [show 0 + (p - a) + (b - a) + (k - (0 + (p - a) + (b - a))) = k by omega] at h4
    exact ⟨b, hbS, h4⟩
  · have h1 := rch_r h2 (by omega) (Nat.le_refl p) (Nat.le_refl p) h0 (b - p) (by omega)
    rw [show p + (b - p) = b by omega, show max p b = b by omega] at h1
    have h3 := rch_l h2 hbS hb (Nat.le_refl b) h1 (b - a) (by omega)
    rw [show b - (b - a) = a by omega, show min p a = a by omega] at h3
    have h4 := rch_st h2 (by omega) (Nat.le_refl a) (by omega) h3 (k - (0 + (b - p) + (b - a)))
    rw [show 0 + (b - p) + (b - a) + (k - (0 + (b - p) + (b - a))) = k by omega] at h4
    exact ⟨a, by omega, h4⟩
theorem mxB_ge {f : Nat → Bool} {j : Nat} (hf : f j = true) : ∀ {n : Nat}, j < n → pc6 (j % 64) ≤ mxB f n
  | n + 1, h => by
    simp only [mxB]
    by_cases e : j = n
    · subst e
      split
      · exact Nat.le_refl _
      · rename_i q
        have : ¬ mxB f j < pc6 (j % 64) := fun z => q ⟨hf, z⟩
        omega
    · have ih := mxB_ge hf (show j < n by omega)
      split
      · rename_i q; omega
      · exact ih
theorem mxB_is (f : Nat → Bool) : ∀ n, mxB f n = 0 ∨ ∃ j, j < n ∧ f j = true ∧ mxB f n = pc6 (j % 64)
  | 0 => Or.inl rfl
  | n + 1 => by
    simp only [mxB]
    split
    · rename_i q; exact Or.inr ⟨n, by omega, q.1, rfl⟩
    · rcases mxB_is f n with h | ⟨j, a, b, c⟩
      · exact Or.inl h
      · exact Or.inr ⟨j, by omega, b, c⟩
theorem mxB_le (f : Nat → Bool) : ∀ n, mxB f n ≤ 6
  | 0 => Nat.zero_le _
  | n + 1 => by
    have := mxB_le f n
    have h := pc6_le (n % 64)
    simp only [mxB]
    split <;> omega
theorem wI_ge {S : Nat → Nat} {p n a acc : Nat} : ∀ j, acc ≤ wI S p n a acc j
  | 0 => Nat.le_refl _
  | j + 1 => by
    have := wI_ge (S := S) (p := p) (n := n) (a := a) (acc := acc) j
    simp only [wI]
    split <;> omega
theorem wI_in {S : Nat → Nat} {p n a acc i : Nat} (h : stp a p (p + i) < n) : ∀ j, i < j → dct S a (p + i) ≤ wI S p n a acc j
  | j + 1, hj => by
    simp only [wI]
    by_cases e : i = j
    · subst e
      rw [if_pos h]
      omega
    · have := wI_in (S := S) (acc := acc) h j (by omega)
      split <;> omega
theorem wI_is {S : Nat → Nat} {p n a acc : Nat} : ∀ j, wI S p n a acc j = acc ∨ ∃ i, i < j ∧ stp a p (p + i) < n ∧ wI S p n a acc j = dct S a (p + i)
  | 0 => Or.inl rfl
  | j + 1 => by
    have ih := wI_is (S := S) (p := p) (n := n) (a := a) (acc := acc) j
    simp only [wI]
    split
    · rename_i h
      by_cases c : wI S p n a acc j ≤ dct S a (p + j)
      · exact Or.inr ⟨j, by omega, h, by omega⟩
      · rw [show max (wI S p n a acc j) (dct S a (p + j)) = wI S p n a acc j by omega]
        rcases ih with q | ⟨i, q1, q2, q3⟩
        · exact Or.inl q
        · exact Or.inr ⟨i, by omega, q2, q3⟩
    · rcases ih with q | ⟨i, q1, q2, q3⟩
      · exact Or.inl q
      · exact Or.inr ⟨i, by omega, q2, q3⟩
theorem wO_in {S : Nat → Nat} {p n a i : Nat} (h : stp a p (p + i) < n) (hi : p + i < S 2) : ∀ j, a < j → dct S a (p + i) ≤ wO S p n j
  | j + 1, hj => by
    simp only [wO]
    by_cases e : a = j
    · subst e
      exact wI_in h _ (by omega)
    · exact Nat.le_trans (wO_in h hi j (by omega)) (wI_ge _)
theorem wO_is {S : Nat → Nat} {p n : Nat} : ∀ j, wO S p n j = 0 ∨ ∃ a i, a < j ∧ p + i < S 2 ∧ stp a p (p + i) < n ∧ wO S p n j = dct S a (p + i)
  | 0 => Or.inl rfl
  | j + 1 => by
    simp only [wO]
    rcases wI_is (S := S) (p := p) (n := n) (a := j) (acc := wO S p n j) (S 2 - p) with h | ⟨i, h1, h2, h3⟩
    · rw [h]
      rcases wO_is (S := S) (p := p) (n := n) j with q | ⟨a, i, q1, q2, q3, q4⟩
      · exact Or.inl q
      · exact Or.inr ⟨a, i, by omega, q2, q3, q4⟩
    · exact Or.inr ⟨j, i, by omega, by omega, h2, h3⟩
theorem worst_is {S : Nat → Nat} {p k : Nat} (h2 : S 2 ≤ 6) (hp : p < S 2) : mxB (rch S p k) 384 = wO S p (k + 1) (p + 1) := by
  apply Nat.le_antisymm
  · rcases mxB_is (rch S p k) 384 with h | ⟨j, h1, h3, h4⟩
    · omega
    · obtain ⟨a, b, q, g1, g2, g3, g4, g5, g6, g7⟩ := rch_inv h2 hp k j h3
      have hm := msk_lt S a b
      have e : j % 64 = msk S a b := by omega
      rw [h4, e, pc_msk S (by omega)]
      obtain ⟨i, rfl⟩ : ∃ i, b = p + i := ⟨b - p, by omega⟩
      exact wO_in (by unfold stp; omega) g3 _ (by omega)
  · rcases wO_is (S := S) (p := p) (n := k + 1) (p + 1) with h | ⟨a, i, h1, h3, h4, h5⟩
    · omega
    · obtain ⟨q, hq, hr⟩ := rch_all (k := k) h2 (show a ≤ p by omega) (show p ≤ p + i by omega) h3 (by omega)
      have hm := msk_lt S a (p + i)
      have := mxB_ge hr (n := 384) (by omega)
      rw [show (64 * q + msk S a (p + i)) % 64 = msk S a (p + i) by omega, pc_msk S (by omega)] at this
      omega
theorem worst_0 {S : Nat → Nat} {p : Nat} : wO S p 0 (p + 1) = 0 := by
  rcases wO_is (S := S) (p := p) (n := 0) (p + 1) with h | ⟨a, i, h1, h3, h4, h5⟩
  · exact h
  · exact absurd h4 (by omega)
