/-! ===== the reference: what may be so ===== -/
theorem lst_ct {f : Nat → Bool} : ∀ n, fb_ct f n = 0 ↔ lst f n = none
  | 0 => by simp [lst, fb_ct]
  | n + 1 => by
    have ih := lst_ct (f := f) n
    rw [fb_ct_succ]
    simp only [lst]
    cases hl : lst f n with
    | none =>
      rw [ih.mpr hl]
      cases f n <;> simp
    | some a =>
      have : fb_ct f n ≠ 0 := fun z => by rw [ih.mp z] at hl; cases hl
      simp only [reduceCtorEq, iff_false]
      omega
theorem up_bk {α : Type} (f : Nat → α) (k : Nat) (x : α) : va_up (va_up f k x) k (f k) = f := by
  funext j
  simp only [va_up]
  split
  · next h => rw [h]
  · rfl
theorem upd_bk (f : Nat → Int32) (k : Nat) (x : Int32) : upd (upd f k x) k (f k) = f := by
  funext j
  simp only [upd]
  split
  · next h => rw [h]
  · rfl
theorem fqB_lt {f : Nat → Bool} : ∀ {n b : Nat}, fqB f n = some b → b < n
  | n + 1, b, h => by
    rw [fqB] at h
    generalize (f n && (match fqB f n with
      | none => true
      | some b => decide (pc6 n < pc6 b))) = c at h
    cases c
    · have := fqB_lt (show fqB f n = some b from h); omega
    · cases h; omega
theorem ct_64 (f : Nat → Bool) {s : Nat} (h : s ≤ 64) : fb_ct f s ≤ 64 := Nat.le_trans (fb_ct_le f s) h
theorem add_bi (a : Nat) (b : Bool) : nI a + ip_bi b = nI (a + (if b then 1 else 0)) := by
  cases b
  · show nI a + nI 0 = _; rw [nI_add]; rfl
  · show nI a + nI 1 = _; rw [nI_add]; rfl
