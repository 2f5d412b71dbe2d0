/-! ===== what is meant: sets of the first n, who answers, what holds ===== -/
def anyb : Nat → (Nat → Bool) → Bool
  | 0, _ => false
  | n + 1, f => anyb n f || f n
def bs : Nat → (Nat → Bool) → Nat
  | 0, _ => 0
  | n + 1, f => bs n f + (if f n then 2 ^ n else 0)
theorem bs_lt (f : Nat → Bool) : ∀ n, bs n f < 2 ^ n
  | 0 => by simp [bs]
  | n + 1 => by
    have := bs_lt f n
    simp only [bs, Nat.pow_succ]
    split <;> omega
theorem bs_bit (f : Nat → Bool) : ∀ n i, (bs n f).testBit i = (decide (i < n) && f i)
  | 0, i => by simp [bs]
  | n + 1, i => by
    have ih := bs_bit f n i
    have hl := bs_lt f n
    simp only [bs]
    by_cases hf : f n = true
    · rw [if_pos hf]
      rw [show bs n f + 2 ^ n = 2 ^ n + bs n f by omega]
      by_cases hi : i = n
      · subst hi
        rw [Nat.testBit_two_pow_add_eq, Nat.testBit_lt_two_pow hl]
        simp [hf]
      · rcases Nat.lt_or_ge i n with h | h
        · rw [Nat.testBit_two_pow_add_gt h, ih]
          simp [h, Nat.lt_succ_of_lt h]
        · have hlt : 2 ^ n + bs n f < 2 ^ i := by
            have : 2 ^ (n + 1) ≤ 2 ^ i := Nat.pow_le_pow_right (by omega) (by omega)
            rw [Nat.pow_succ] at this
            omega
          rw [Nat.testBit_lt_two_pow hlt]
          have : ¬ i < n + 1 := by omega
          simp [this]
    · rw [if_neg hf, Nat.add_zero, ih]
      by_cases hi : i = n
      · subst hi
        simp [hf]
      · have : (i < n + 1) ↔ (i < n) := by omega
        simp [this]
theorem bs_cong {f g : Nat → Bool} : ∀ {n}, (∀ i, i < n → f i = g i) → bs n f = bs n g
  | 0, _ => rfl
  | n + 1, h => by simp only [bs]; rw [bs_cong (fun i hi => h i (by omega)), h n (by omega)]
theorem anyb_cong {f g : Nat → Bool} : ∀ {n}, (∀ i, i < n → f i = g i) → anyb n f = anyb n g
  | 0, _ => rfl
  | n + 1, h => by simp only [anyb]; rw [anyb_cong (fun i hi => h i (by omega)), h n (by omega)]
theorem sh1 : ∀ m : Fin 31, (1 : Int32) <<< (nI m.val &&& 31) = nI (2 ^ m.val) := by decide +kernel
theorem or_bit {a m : Nat} (ha : a < 2 ^ m) (hm : m < 31) : nI a ||| ((1 : Int32) <<< (nI m &&& 31)) = nI (a + 2 ^ m) := by
  have h := sh1 ⟨m, hm⟩
  simp only at h
  have h2 : nI (2 ^ m * 1) ||| nI a = nI (2 ^ m * 1 + a) := fa_or_sum 1 ha
  rw [Nat.mul_one] at h2
  rw [h, fa_or, Nat.or_comm, ← fa_or, h2, Nat.add_comm]
/-- right, wrong answers of a man of a kind with a list, to a question, by the truth -/
def ar (tr kd li q : Nat) : Bool := (kd != 2) && (li.testBit q || (kd == 1 && tr.testBit q))
def aw (tr kd li q : Nat) : Bool := if kd == 2 then li.testBit q else (kd == 1 && !(li.testBit q || tr.testBit q))
/-- HELD by those that pr names -/
def held (tr mn : Nat) (kd li : Nat → Nat) (pr : Nat → Bool) (q : Nat) : Bool := anyb mn (fun m => pr m && ar tr (kd m) (li m) q) && !anyb mn (fun m => pr m && aw tr (kd m) (li m) q)
theorem held_cong {tr mn : Nat} {kd li kd' li' : Nat → Nat} {pr pr' : Nat → Bool} {q : Nat} (h : ∀ m, m < mn → kd m = kd' m ∧ li m = li' m ∧ pr m = pr' m) : held tr mn kd li pr q = held tr mn kd' li' pr' q := by
  have e1 : anyb mn (fun m => pr m && ar tr (kd m) (li m) q) = anyb mn (fun m => pr' m && ar tr (kd' m) (li' m) q) := anyb_cong (fun i hi => by obtain ⟨a, b, c⟩ := h i hi; simp only [a, b, c])
  have e2 : anyb mn (fun m => pr m && aw tr (kd m) (li m) q) = anyb mn (fun m => pr' m && aw tr (kd' m) (li' m) q) := anyb_cong (fun i hi => by obtain ⟨a, b, c⟩ := h i hi; simp only [a, b, c])
  unfold held
  rw [e1, e2]
/-- by the system's numbers -/
def heldS (S : Nat → Nat) (pr : Nat → Bool) (q : Nat) : Bool := held (S 1) (S 3) (fun m => S (40 + m)) (fun m => S (60 + m)) pr q
def dgs (S : Nat → Nat) (pr : Nat → Bool) : Nat := bs 6 (fun q => !heldS S pr q)
def wfM (S : Nat → Nat) : Prop := S 1 < 64 ∧ S 2 ≤ 6 ∧ S 3 ≤ 4 ∧ ∀ m, m < 4 → S (40 + m) ≤ 2 ∧ S (50 + m) < 6 ∧ S (60 + m) < 64
theorem four {m : Nat} (h : m < 4) : m = 0 ∨ m = 1 ∨ m = 2 ∨ m = 3 := by omega
