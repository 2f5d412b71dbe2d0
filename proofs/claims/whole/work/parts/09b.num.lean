/-! ===== branches by whole numbers ===== -/
theorem bz_lt {x y : Int32} {X Y : Prop} (u v : Int) (t : u < v → X) (f : v ≤ u → Y) (hx : x.toInt = u := by first | rfl | decide | assumption | exact nI_toInt (by omega)) (hy : y.toInt = v := by first | rfl | decide | assumption | exact nI_toInt (by omega)) : (x < y → X) ∧ (¬ x < y → Y) := by
  subst hx hy
  rw [fa_lt]
  exact ⟨t, fun h => f (by omega)⟩
theorem bz_le {x y : Int32} {X Y : Prop} (u v : Int) (t : u ≤ v → X) (f : v < u → Y) (hx : x.toInt = u := by first | rfl | decide | assumption | exact nI_toInt (by omega)) (hy : y.toInt = v := by first | rfl | decide | assumption | exact nI_toInt (by omega)) : (x ≤ y → X) ∧ (¬ x ≤ y → Y) := by
  subst hx hy
  rw [fa_le]
  exact ⟨t, fun h => f (by omega)⟩
theorem bz_eq {x y : Int32} {X Y : Prop} (u v : Int) (t : u = v → X) (f : u ≠ v → Y) (hx : x.toInt = u := by first | rfl | decide | assumption | exact nI_toInt (by omega)) (hy : y.toInt = v := by first | rfl | decide | assumption | exact nI_toInt (by omega)) : (x = y → X) ∧ (¬ x = y → Y) := by
  subst hx hy
  rw [fa_eq]
  exact ⟨t, fun h => f h⟩
theorem bz_ne {x y : Int32} {X Y : Prop} (u v : Int) (t : u ≠ v → X) (f : u = v → Y) (hx : x.toInt = u := by first | rfl | decide | assumption | exact nI_toInt (by omega)) (hy : y.toInt = v := by first | rfl | decide | assumption | exact nI_toInt (by omega)) : (¬ x = y → X) ∧ (x = y → Y) := by
  subst hx hy
  rw [fa_eq]
  exact ⟨fun h => t h, f⟩
theorem pk_ne {x y : Int32} {A B : Prop} (a b : Nat) (f : a ≠ b → A) (g : a = b → B) (hx : x = nI a := by rfl) (hy : y = nI b := by rfl) (ha : a < 2 ^ 31 := by omega) (hb : b < 2 ^ 31 := by omega) : (¬ x = y → A) ∧ (x = y → B) := by
  subst hx hy
  rw [nI_eq ha hb]
  exact ⟨f, g⟩
theorem ts_t {b : Bool} (h : ¬ b = false) : b = true := by cases b <;> simp_all
theorem ti_n {n : Nat} (h : n < 2147483648) : (nI n).toInt = (n : Int) := nI_toInt h
theorem ti_of {x : Int32} (h : 0 ≤ x.toInt) : ∃ n : Nat, n < 2147483648 ∧ x = nI n ∧ x.toInt = (n : Int) := by
  have hr := fb_rng x
  refine ⟨x.toInt.toNat, by omega, ?_, by omega⟩
  rw [fa_eq, ti_n (by omega)]
  omega
