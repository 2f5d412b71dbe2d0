/-! ===== Long.bitCount ===== -/
theorem and_split {a b : Nat} (ha : a < 256) (hb : b < 256) (x y : Nat) : (a + 256 * x) &&& (b + 256 * y) = (a &&& b) + 256 * (x &&& y) := by
  apply Nat.eq_of_testBit_eq
  intro i
  have h256 : 256 = 2 ^ 8 := rfl
  have key : ∀ {c : Nat} (z : Nat), c < 256 → (c + 256 * z).testBit i = if i < 8 then c.testBit i else z.testBit (i - 8) := by
    intro c z hc
    rw [show c + 256 * z = 2 ^ 8 * z + c by omega, Nat.testBit_two_pow_mul_add z hc]
  have hab : a &&& b < 256 := Nat.and_lt_two_pow (n := 8) _ hb
  rw [Nat.testBit_and, key x ha, key y hb, key _ hab, Nat.testBit_and]
  split
  · rfl
  · rw [Nat.testBit_and]
def mk8 (v : Nat) : Nat → Nat
  | 0 => 0
  | k + 1 => v + 256 * mk8 v k
def bA (k n : Nat) : Nat := n - ((n / 2) &&& mk8 85 k)
def bB (k n : Nat) : Nat := (n &&& mk8 51 k) + ((n / 4) &&& mk8 51 k)
def bC (k n : Nat) : Nat := (n + n / 16) &&& mk8 15 k
def a8 (a : Nat) : Nat := a - ((a / 2) &&& 85)
def b8 (a : Nat) : Nat := (a &&& 51) + ((a / 4) &&& 51)
def c8 (a : Nat) : Nat := (a + a / 16) &&& 15
theorem t_a8 : ∀ a : Fin 256, ∀ e : Fin 2, ((a.val / 2 + 128 * e.val) &&& 85) = (a.val / 2) &&& 85 ∧ a.val / 2 + 128 * e.val < 256 := by decide +kernel
theorem t_b8 : ∀ a : Fin 256, ∀ e : Fin 4, ((a.val / 4 + 64 * e.val) &&& 51) = (a.val / 4) &&& 51 ∧ a.val / 4 + 64 * e.val < 256 := by decide +kernel
theorem t_c8 : ∀ a : Fin 256, b8 (a8 a.val) ≤ 68 ∧ b8 (a8 a.val) % 16 ≤ 4 ∧ c8 (b8 (a8 a.val)) = fb_ct (fun i => a.val.testBit i) 8 := by decide +kernel
theorem t_d8 : ∀ a : Fin 73, ∀ e : Fin 5, ((a.val + 16 * e.val) &&& 15) = a.val &&& 15 := by decide +kernel
theorem t_a8lt : ∀ a : Fin 256, a8 a.val < 256 ∧ ((a.val / 2) &&& 85) ≤ a.val := by decide +kernel
theorem and_le (a b : Nat) : a &&& b ≤ a := Nat.and_le_left
theorem bA_s (k a x : Nat) (ha : a < 256) : bA (k + 1) (a + 256 * x) = a8 a + 256 * bA k x := by
  have h1 : (a + 256 * x) / 2 = (a / 2 + 128 * (x % 2)) + 256 * (x / 2) := by omega
  obtain ⟨e1, e2⟩ := t_a8 ⟨a, ha⟩ ⟨x % 2, by omega⟩
  simp only at e1 e2
  have h2 := (t_a8lt ⟨a, ha⟩).2
  simp only at h2
  have h3 : (x / 2) &&& mk8 85 k ≤ x := Nat.le_trans (and_le _ _) (by omega)
  unfold bA a8
  rw [h1, mk8, and_split e2 (by omega), e1]
  omega
theorem bB_s (k a x : Nat) (ha : a < 256) : bB (k + 1) (a + 256 * x) = b8 a + 256 * bB k x := by
  have h1 : (a + 256 * x) / 4 = (a / 4 + 64 * (x % 4)) + 256 * (x / 4) := by omega
  obtain ⟨e1, e2⟩ := t_b8 ⟨a, ha⟩ ⟨x % 4, by omega⟩
  simp only at e1 e2
  unfold bB b8
  rw [h1, mk8, and_split e2 (by omega), e1, and_split ha (by omega)]
  omega
def bT (k n : Nat) : Nat := bC k (bB k (bA k n))
theorem bBA_mod (k : Nat) : ∀ x, x < 256 ^ k → bB k (bA k x) % 16 ≤ 4 := by
  intro x hx
  cases k with
  | zero => simp [bB, mk8]
  | succ k =>
    obtain ⟨a, y, rfl, ha⟩ : ∃ a y, x = a + 256 * y ∧ a < 256 := ⟨x % 256, x / 256, by omega, by omega⟩
    have hlt : a8 a < 256 := (t_a8lt ⟨a, ha⟩).1
    have h2 : b8 (a8 a) % 16 ≤ 4 := (t_c8 ⟨a, ha⟩).2.1
    rw [bA_s k a y ha, bB_s k _ _ hlt]
    omega
theorem bT_s (k a x : Nat) (ha : a < 256) (hx : x < 256 ^ k) : bT (k + 1) (a + 256 * x) = fb_ct (fun i => a.testBit i) 8 + 256 * bT k x := by
  obtain ⟨p1, p2, p3⟩ := t_c8 ⟨a, ha⟩
  simp only at p1 p2 p3
  have hm := bBA_mod k x hx
  unfold bT
  have hlt : a8 a < 256 := (t_a8lt ⟨a, ha⟩).1
  rw [bA_s k a x ha, bB_s k _ _ hlt]
  unfold bC
  have h1 : (b8 (a8 a) + 256 * bB k (bA k x)) + (b8 (a8 a) + 256 * bB k (bA k x)) / 16 = (b8 (a8 a) + b8 (a8 a) / 16 + 16 * (bB k (bA k x) % 16)) + 256 * (bB k (bA k x) + bB k (bA k x) / 16) := by omega
  have h2 := t_d8 ⟨b8 (a8 a) + b8 (a8 a) / 16, by omega⟩ ⟨bB k (bA k x) % 16, by omega⟩
  simp only at h2
  rw [h1, mk8, and_split (by omega) (by omega), h2]
  rw [← p3]
  rfl
theorem ct_split (k a x : Nat) (ha : a < 256) : fb_ct (fun i => (a + 256 * x).testBit i) (8 + k) = fb_ct (fun i => a.testBit i) 8 + fb_ct (fun i => x.testBit i) k := by
  have key : ∀ i, (a + 256 * x).testBit i = if i < 8 then a.testBit i else x.testBit (i - 8) := by
    intro i
    rw [show a + 256 * x = 2 ^ 8 * x + a by omega, Nat.testBit_two_pow_mul_add x ha]
  rw [fb_ct_split]
  congr 1
  · exact fb_ct_cong (fun i hi => by rw [key, if_pos hi])
  · exact fb_ct_cong (fun i _ => by rw [key, if_neg (by omega), show 8 + i - 8 = i by omega])
theorem bT_step (k m n : Nat) (hn : n < 256 ^ (k + 1)) : ∃ p y, p ≤ 8 ∧ y < 256 ^ k ∧ bT (k + 1) n = p + 256 * bT k y ∧ fb_ct (fun i => n.testBit i) (8 + m) = p + fb_ct (fun i => y.testBit i) m := by
  rw [Nat.pow_succ] at hn
  obtain ⟨a, y, rfl, ha⟩ : ∃ a y, n = a + 256 * y ∧ a < 256 := ⟨n % 256, n / 256, by omega, by omega⟩
  have hy : y < 256 ^ k := by omega
  exact ⟨_, y, fb_ct_le _ 8, hy, bT_s k a y ha hy, ct_split m a y ha⟩
theorem div256 {a r x : Nat} (h : a < 256) (e : x = a + 256 * r) : x / 256 = r := by omega
theorem lin2 {p q r1 r2 r3 : Nat} (e1 : r1 = p + 256 * r2) (e2 : r2 = q + 256 * r3) : r1 + r2 = (p + q) + 256 * (r2 + r3) := by omega
theorem lin3 {s t u0 u1 u2 u3 : Nat} (e1 : u0 = s + 256 * u1) (e2 : u2 = t + 256 * u3) : u0 + u2 = (s + t) + 256 * (u1 + u3) := by omega
theorem def8 (p0 p1 p2 p3 p4 p5 p6 p7 x y z w : Nat) (h0 : p0 ≤ 8) (h1 : p1 ≤ 8) (h2 : p2 ≤ 8) (h3 : p3 ≤ 8) (h4 : p4 ≤ 8) (h5 : p5 ≤ 8) (h6 : p6 ≤ 8) (h7 : p7 ≤ 8) (hx : x = p0 + 256 * (p1 + 256 * (p2 + 256 * (p3 + 256 * (p4 + 256 * (p5 + 256 * (p6 + 256 * p7))))))) (hy : y = x + x / 256) (hz : z = y + y / 65536) (hw : w = z + z / 4294967296) : w % 128 = p0 + (p1 + (p2 + (p3 + (p4 + (p5 + (p6 + p7)))))) := by
  obtain ⟨r7, e7⟩ : ∃ r, r = p7 + 256 * 0 := ⟨_, rfl⟩
  obtain ⟨r6, e6⟩ : ∃ r, r = p6 + 256 * r7 := ⟨_, rfl⟩
  obtain ⟨r5, e5⟩ : ∃ r, r = p5 + 256 * r6 := ⟨_, rfl⟩
  obtain ⟨r4, e4⟩ : ∃ r, r = p4 + 256 * r5 := ⟨_, rfl⟩
  obtain ⟨r3, e3⟩ : ∃ r, r = p3 + 256 * r4 := ⟨_, rfl⟩
  obtain ⟨r2, e2⟩ : ∃ r, r = p2 + 256 * r3 := ⟨_, rfl⟩
  obtain ⟨r1, e1⟩ : ∃ r, r = p1 + 256 * r2 := ⟨_, rfl⟩
  have e0 : x = p0 + 256 * r1 := by rw [e1, e2, e3, e4, e5, e6, e7, Nat.mul_zero, Nat.add_zero]; exact hx
  have b : ∀ {a c : Nat}, a ≤ 8 → c ≤ 8 → a + c < 256 := fun ha hc => by clear hx hy hz hw e0 e1 e2 e3 e4 e5 e6 e7; omega
  have b4 : ∀ {a c d f : Nat}, a ≤ 8 → c ≤ 8 → d ≤ 8 → f ≤ 8 → a + c + (d + f) < 256 := fun ha hc hd hf => by clear hx hy hz hw e0 e1 e2 e3 e4 e5 e6 e7; omega
  rw [div256 (Nat.lt_of_le_of_lt h0 (by decide)) e0] at hy
  have w0 := lin2 e0 e1
  have w1 := lin2 e1 e2
  have w2 := lin2 e2 e3
  have w3 := lin2 e3 e4
  have w4 := lin2 e4 e5
  have w5 := lin2 e5 e6
  have w6 := lin2 e6 e7
  have w7 : r7 + 0 = p7 + 256 * (0 + 0) := by rw [e7]
  rw [← hy] at w0
  have q2 : y / 65536 = r2 + r3 := by
    rw [show (65536 : Nat) = 256 * 256 from rfl, ← Nat.div_div_eq_div_mul, div256 (b h0 h1) w0, div256 (b h1 h2) w1]
  rw [q2] at hz
  have y0 := lin3 w0 w2
  have y1 := lin3 w1 w3
  have y2 := lin3 w2 w4
  have y3 := lin3 w3 w5
  have y4 := lin3 w4 w6
  rw [← hz] at y0
  have q3 : z / 4294967296 = r4 + r5 + (r6 + r7) := by
    rw [show (4294967296 : Nat) = 256 * 256 * 256 * 256 from rfl, ← Nat.div_div_eq_div_mul, ← Nat.div_div_eq_div_mul, ← Nat.div_div_eq_div_mul, div256 (b4 h0 h1 h2 h3) y0, div256 (b4 h1 h2 h3 h4) y1, div256 (b4 h2 h3 h4 h5) y2, div256 (b4 h3 h4 h5 h6) y3]
  rw [q3] at hw
  rw [y0, y4] at hw
  rw [hw]
  have fin : ∀ T1 T5 : Nat, (p0 + p1 + (p2 + p3) + 256 * T1 + (p4 + p5 + (p6 + p7) + 256 * T5)) % 128 = p0 + (p1 + (p2 + (p3 + (p4 + (p5 + (p6 + p7)))))) := fun T1 T5 => by
    clear hx hy hz hw e0 e1 e2 e3 e4 e5 e6 e7 w0 w1 w2 w3 w4 w5 w6 w7 q2 q3 y0 y1 y2 y3 y4 b b4
    omega
  exact fin _ _
theorem bT_8 (n : Nat) (hn : n < 256 ^ 8) (x y z w : Nat) (hx : x = bT 8 n) (hy : y = x + x / 256) (hz : z = y + y / 65536) (hw : w = z + z / 4294967296) : w % 128 = fb_ct (fun i => n.testBit i) (8 + (8 + (8 + (8 + (8 + (8 + (8 + (8 + 0)))))))) := by
  obtain ⟨p0, n1, q0, hn1, a0, b0⟩ := bT_step 7 (8 + (8 + (8 + (8 + (8 + (8 + (8 + 0))))))) n hn
  obtain ⟨p1, n2, q1, hn2, a1, b1⟩ := bT_step 6 (8 + (8 + (8 + (8 + (8 + (8 + 0)))))) n1 hn1
  obtain ⟨p2, n3, q2, hn3, a2, b2⟩ := bT_step 5 (8 + (8 + (8 + (8 + (8 + 0))))) n2 hn2
  obtain ⟨p3, n4, q3, hn4, a3, b3⟩ := bT_step 4 (8 + (8 + (8 + (8 + 0)))) n3 hn3
  obtain ⟨p4, n5, q4, hn5, a4, b4⟩ := bT_step 3 (8 + (8 + (8 + 0))) n4 hn4
  obtain ⟨p5, n6, q5, hn6, a5, b5⟩ := bT_step 2 (8 + (8 + 0)) n5 hn5
  obtain ⟨p6, n7, q6, hn7, a6, b6⟩ := bT_step 1 (8 + 0) n6 hn6
  obtain ⟨p7, n8, q7, hn8, a7, b7⟩ := bT_step 0 0 n7 hn7
  have hz0 : bT 0 n8 = 0 := by simp [bT, bC, mk8]
  rw [b0, b1, b2, b3, b4, b5, b6, b7]
  rw [a0, a1, a2, a3, a4, a5, a6, a7, hz0, Nat.mul_zero, Nat.add_zero] at hx
  exact def8 p0 p1 p2 p3 p4 p5 p6 p7 x y z w q0 q1 q2 q3 q4 q5 q6 q7 hx hy hz hw
