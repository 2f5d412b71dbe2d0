/-! ===== the system's state: hpC, its cells; tc: TRACE, S: its numbers, G: its rows ===== -/
abbrev rf_A (f : Nat → Option Nat) : ip_A := .inr (.inr (.inr (.inr f)))
def hpC (tc : Int32) (S : Nat → Nat) (G : Nat → Nat → Int32) : ip_H := [
  .inr (6, [.ref 1, .ref 10, .ref 16, .ref 20, .ref 23, .int tc, .int (nI (S 0))]),
  .inl (2, 4, rf_A (fun k => some (2 + 2 * k))),
  .inr (4, [.int (nI (S 10)), .int (nI (S 20)), .int (nI (S 30)), .ref 3]), .inl (0, 60, .inl (G 0)),
  .inr (4, [.int (nI (S 11)), .int (nI (S 21)), .int (nI (S 31)), .ref 5]), .inl (0, 60, .inl (G 1)),
  .inr (4, [.int (nI (S 12)), .int (nI (S 22)), .int (nI (S 32)), .ref 7]), .inl (0, 60, .inl (G 2)),
  .inr (4, [.int (nI (S 13)), .int (nI (S 23)), .int (nI (S 33)), .ref 9]), .inl (0, 60, .inl (G 3)),
  .inr (0, [.int (nI (S 1)), .int (nI (S 2)), .int (nI (S 3)), .ref 11]),
  .inl (3, 4, rf_A (fun k => some (12 + k))),
  .inr (1, [.int (nI (S 40)), .int (nI (S 50)), .int (nI (S 60))]),
  .inr (1, [.int (nI (S 41)), .int (nI (S 51)), .int (nI (S 61))]),
  .inr (1, [.int (nI (S 42)), .int (nI (S 52)), .int (nI (S 62))]),
  .inr (1, [.int (nI (S 43)), .int (nI (S 53)), .int (nI (S 63))]),
  .inr (3, [.int (nI (S 4)), .ref 17, .ref 18, .ref 19]), .inl (0, 8, .inl (G 4)), .inl (0, 8, .inl (G 5)), .inl (1, 8, .inl (G 6)),
  .inr (5, [.int (nI (S 5)), .ref 21, .ref 22]), .inl (0, 20, .inl (G 7)), .inl (0, 20, .inl (G 8)),
  .inr (2, [.ref 24, .ref 25, .ref 26, .ref 27, .int (nI (S 6)), .int (nI (S 7)), .int (nI (S 8))]), .inl (0, 96, .inl (G 9)), .inl (0, 6, .inl (G 10)), .inl (0, 4, .inl (G 11)), .inl (0, 4, .inl (G 12))]
def ip_bi (b : Bool) : Int32 := if b then 1 else 0
theorem ip_bt {b : Bool} {X Y : Prop} (h0 : b = false → X) (h1 : b = true → Y) : (ip_bi b = 0 → X) ∧ (¬ ip_bi b = 0 → Y) := by
  cases b
  · exact ⟨fun _ => h0 rfl, fun h => absurd rfl h⟩
  · exact ⟨fun h => absurd h (by decide), fun _ => h1 rfl⟩
theorem ip_bn {b : Bool} {X Y : Prop} (h1 : b = true → X) (h0 : b = false → Y) : (¬ ip_bi b = 0 → X) ∧ (ip_bi b = 0 → Y) := by
  cases b
  · exact ⟨fun h => absurd rfl h, fun _ => h0 rfl⟩
  · exact ⟨fun _ => h1 rfl, fun h => absurd h (by decide)⟩
theorem ip_bnar (b : Bool) : narrow .boolean (.int (ip_bi b)) = .int (ip_bi b) := by cases b <;> rfl
theorem ip_b01 (b : Bool) : ip_bi b = 0 ∨ ip_bi b = 1 := by cases b <;> simp [ip_bi]
