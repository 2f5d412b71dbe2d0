/-! ===== class and reference, call by call: what stays so, and that they answer alike ===== -/
theorem wfM_as {S S' : Nat → Nat} (h : wfM S) (e : ∀ j, j ≠ 0 → (j < 5 ∨ 8 < j) → S' j = S j) : wfM S' := by
  obtain ⟨a, b, c, d⟩ := h
  refine ⟨by rw [e 1 (by omega) (by omega)]; exact a, by rw [e 2 (by omega) (by omega)]; exact b, by rw [e 3 (by omega) (by omega)]; exact c, fun m hm => ?_⟩
  rw [e (40 + m) (by omega) (by omega), e (50 + m) (by omega) (by omega), e (60 + m) (by omega) (by omega)]
  exact d m hm
theorem wfH_as {S S' : Nat → Nat} (h : wfH S) (e : ∀ j, j ≠ 0 → (j < 5 ∨ 8 < j) → S' j = S j) : wfH S' := fun k hk => by
  rw [e (10 + k) (by omega) (by omega), e (20 + k) (by omega) (by omega), e (30 + k) (by omega) (by omega)]
  exact h k hk
theorem wfR_as {S S' : Nat → Nat} {G G' : Nat → Nat → Int32} (h : wfR S G) (e4 : S' 4 = S 4) (g4 : G' 4 = G 4) (g5 : G' 5 = G 5) (g6 : G' 6 = G 6) : wfR S' G' := by
  unfold wfR
  rw [e4, g4, g5, g6]
  exact h
theorem wfC_as {S S' : Nat → Nat} {G G' : Nat → Nat → Int32} (h : wfC S G) (h0 : S' 0 ≤ 4) (e : ∀ j, j ≠ 0 → (j < 5 ∨ 8 < j) → S' j = S j) (g4 : G' 4 = G 4) (g5 : G' 5 = G 5) (g6 : G' 6 = G 6) : wfC S' G' := by
  obtain ⟨a, b, c, d, f, i⟩ := h
  refine ⟨wfM_as a e, wfH_as b e, wfR_as c (e 4 (by omega) (by omega)) g4 g5 g6, h0, ?_, ?_⟩
  · rw [e 2 (by omega) (by omega), e 3 (by omega) (by omega)]; exact f
  · rw [e 2 (by omega) (by omega)]; exact i
theorem wfC_0 {S : Nat → Nat} {G : Nat → Nat → Int32} (h : wfC S G) {f : Nat} (hf : f ≤ 4) : wfC (va_up S 0 f) G := wfC_as h hf (fun j h0 _ => up0 S f h0) rfl rfl rfl
theorem same_wf {S S' : Nat → Nat} {G G' : Nat → Nat → Int32} {f : Nat} (h : wfC S G) (hf : f ≤ 4) (hs : sameC S G f S' G') : wfC S' G' := wfC_as h (by rw [hs.1]; exact hf) hs.2.1 (hs.2.2 4 (by omega)) (hs.2.2 5 (by omega)) (hs.2.2 6 (by omega))
theorem same_rel {tc : Int32} {S S' : Nat → Nat} {G G' : Nat → Nat → Int32} {R : Nat → Int32} {N : Nat → Nat → Int32} {f : Nat} (hs : sameC S G f S' G') (h : relA tc (va_up S 0 f) G R N) : relA tc S' G' R N := by
  obtain ⟨s0, s1, s2⟩ := hs
  have e : ∀ j, j ≠ 0 → (j < 5 ∨ 8 < j) → S' j = va_up S 0 f j := fun j h0 hj => by rw [up0 S f h0]; exact s1 j h0 hj
  obtain ⟨r0, r1, rm, rr, rh⟩ := h
  refine ⟨by rw [s0]; exact r0, r1, relM_S rm (e 1 (by omega) (by omega)) (e 2 (by omega) (by omega)) (e 3 (by omega) (by omega)) (fun i hi => e i (by omega) (by omega)), ?_, relH_S rh (fun i h1 h2 => e i (by omega) (by omega)) (fun k hk => s2 k (by omega)) rfl rfl rfl⟩
  obtain ⟨q1, q2, q3, q4⟩ := rr
  exact ⟨by rw [e 4 (by omega) (by omega)]; exact q1, by rw [s2 4 (by omega)]; exact q2, by rw [s2 5 (by omega)]; exact q3, by rw [s2 6 (by omega)]; exact q4⟩
theorem wfH_ne {S : Nat → Nat} (h : wfH S) {j x : Nat} (hj : j < 10 ∨ 40 ≤ j) : wfH (va_up S j x) := fun k hk => by
  rw [up_n (10 + k) (by omega), up_n (20 + k) (by omega), up_n (30 + k) (by omega)]
  exact h k hk
/-- one call of the law: both answer the same int, and what was so stays so -/
def LawI (CC CM : ip_C) (as : List Value) : Prop := ∀ (tc : Int32) (S : Nat → Nat) (G : Nat → Nat → Int32) (R : Nat → Int32) (N : Nat → Nat → Int32), wfC S G → relA tc S G R N → ∃ ans : Int32, CC (.ref 0 :: as) (hpC tc S G) (fun r hp' => r = some (.int ans) ∧ ∃ tc' S' G', hp' = hpC tc' S' G' ∧ CM (.ref 0 :: as) (hpM R N) (fun r2 hp2 => r2 = some (.int ans) ∧ ∃ R' N', hp2 = hpM R' N' ∧ wfC S' G' ∧ relA tc' S' G' R' N'))
def LawL (CC CM : ip_C) (as : List Value) : Prop := ∀ (tc : Int32) (S : Nat → Nat) (G : Nat → Nat → Int32) (R : Nat → Int32) (N : Nat → Nat → Int32), wfC S G → relA tc S G R N → ∃ ans : Int64, CC (.ref 0 :: as) (hpC tc S G) (fun r hp' => r = some (.long ans) ∧ ∃ tc' S' G', hp' = hpC tc' S' G' ∧ CM (.ref 0 :: as) (hpM R N) (fun r2 hp2 => r2 = some (.long ans) ∧ ∃ R' N', hp2 = hpM R' N' ∧ wfC S' G' ∧ relA tc' S' G' R' N'))
theorem law_ofMan (m w : Int32) : LawI C_X7_ofMan C_X8_ofMan [.int m, .int w] := fun tc S G R N hw hr =>
  ⟨_, tc, S, G, m, w, rfl, rfl, hw, rfl, tc, S, G, rfl, S, R, N, m, w, rfl, rfl, hw.1, hr.2.2.1, rfl, R, N, rfl, hw, hr⟩
theorem law_answer (m w : Int32) : LawI C_X7_answer C_X8_answer [.int m, .int w] := fun tc S G R N hw hr =>
  ⟨_, tc, S, G, m, w, rfl, rfl, hw, rfl, tc, S, G, rfl, S, R, N, m, w, rfl, rfl, hw.1, hr.2.2.1, rfl, R, N, rfl, hw, hr⟩
theorem law_strikes (m w : Int32) : LawI C_X7_strikes C_X8_strikes [.int m, .int w] := fun tc S G R N hw hr =>
  ⟨_, tc, S, G, m, w, rfl, rfl, hw, rfl, tc, S, G, rfl, S, R, N, m, w, rfl, rfl, hw.1, hr.2.2.1, rfl, R, N, rfl, hw, hr⟩
theorem law_dangers (m : Int32) : LawI C_X7_dangers C_X8_dangers [.int m] := fun tc S G R N hw hr =>
  ⟨_, tc, S, G, m, rfl, rfl, hw, rfl, tc, S, G, rfl, S, R, N, m, rfl, rfl, hw.1, hr.2.2.1, rfl, R, N, rfl, hw, hr⟩
theorem law_worth (m : Int32) : LawI C_X7_worth C_X8_worth [.int m] := fun tc S G R N hw hr =>
  ⟨_, tc, S, G, m, rfl, rfl, hw, rfl, tc, S, G, rfl, S, R, N, m, rfl, rfl, hw.1, hr.2.2.1, rfl, R, N, rfl, hw, hr⟩
theorem law_odds (p q w : Int32) : LawL C_X7_odds C_X8_odds [.int p, .int q, .int w] := fun tc S G R N hw hr =>
  ⟨_, tc, S, G, p, q, w, rfl, rfl, hw, rfl, tc, S, G, rfl, S, R, N, p, q, w, rfl, rfl, hw.1, hr.2.2.1, rfl, R, N, rfl, hw, hr⟩
theorem law_many (m : Int32) : LawI C_X7_many C_X8_many [.int m] := fun tc S G R N hw hr =>
  ⟨_, tc, S, G, m, rfl, rfl, rfl, tc, S, G, rfl, tc, S, G, R, N, m, rfl, rfl, hr, rfl, R, N, rfl, hw, hr⟩
theorem law_truths (m : Int32) : LawI C_X7_truths C_X8_truths [.int m] := fun tc S G R N hw hr =>
  ⟨_, tc, S, G, m, rfl, rfl, hw, rfl, tc, S, G, rfl, tc, S, G, R, N, m, rfl, rfl, hw, hr, rfl, R, N, rfl, hw, hr⟩
theorem law_stood (m : Int32) : LawI C_X7_stood C_X8_stood [.int m] := fun tc S G R N hw hr =>
  ⟨_, tc, S, G, m, rfl, rfl, hw, rfl, tc, S, G, rfl, tc, S, G, R, N, m, rfl, rfl, hw, hr, rfl, R, N, rfl, hw, hr⟩
theorem law_kinds (m : Int32) : LawI C_X7_kinds C_X8_kinds [.int m] := fun tc S G R N hw hr =>
  ⟨_, tc, S, G, m, rfl, rfl, hw, rfl, tc, S, G, rfl, tc, S, G, R, N, m, rfl, rfl, hw, hr, rfl, R, N, rfl, hw, hr⟩
theorem law_knew (m w : Int32) : LawI C_X7_knew C_X8_knew [.int m, .int w] := fun tc S G R N hw hr =>
  ⟨_, tc, S, G, m, w, rfl, rfl, hw, rfl, tc, S, G, rfl, tc, S, G, R, N, m, w, rfl, rfl, hw, hr, rfl, R, N, rfl, hw, hr⟩
theorem law_worst (m w : Int32) : LawI C_X7_worst C_X8_worst [.int m, .int w] := fun tc S G R N hw hr =>
  ⟨_, tc, S, G, m, w, rfl, rfl, hw, rfl, tc, S, G, rfl, tc, S, G, R, N, m, w, rfl, rfl, hw, hr, fun R' N' h => ⟨rfl, R', N', rfl, hw, h⟩⟩
theorem law_trace : LawI C_X7_trace C_X8_trace [] := fun tc S G R N hw hr =>
  ⟨tc, tc, S, G, rfl, rfl, rfl, tc, S, G, rfl, R, N, rfl, rfl, by rw [hr.2.1], R, N, rfl, hw, hr⟩
theorem law_fault : LawI C_X7_fault C_X8_fault [] := fun tc S G R N hw hr =>
  ⟨nI (S 0), tc, S, G, rfl, rfl, rfl, tc, S, G, rfl, R, N, rfl, rfl, by rw [hr.1], R, N, rfl, hw, hr⟩
theorem law_truth (a : Int32) : LawI C_X7_truth C_X8_truth [.int a] := fun tc S G R N hw hr => by
  have hw' : wfC (q_truth S a).2 G := by
    unfold q_truth
    split
    · exact hw
    · split
      · exact hw
      · rename_i h _
        have hlt := (inI_nt (Decidable.of_not_not h)).1
        exact ⟨wfM_tr hw.1 hlt, wfH_ne hw.2.1 (by omega), wfR_up hw.2.2.1 (by omega), hw.2.2.2.1, hw.2.2.2.2⟩
  exact ⟨_, tc, S, G, a, rfl, rfl, hw, rfl, tc, _, G, rfl, tc, S, G, R, N, a, rfl, rfl, hw, hr, fun R' N' h => ⟨rfl, R', N', rfl, hw', h⟩⟩
theorem wfC_pl {S : Nat → Nat} {G : Nat → Nat → Int32} (hw : wfC S G) {j x : Nat} (hj : j < 4) (hx : x < 6) : wfC (va_up S (50 + j) x) G :=
  ⟨wfM_pl hw.1 hj hx, fun k hk => by rw [up_n (10 + k) (by omega), up_n (20 + k) (by omega), up_n (30 + k) (by omega)]; exact hw.2.1 k hk, wfR_up hw.2.2.1 (by omega), by rw [up_n 0 (by omega)]; exact hw.2.2.2.1, by rw [up_n 2 (by omega), up_n 3 (by omega)]; exact hw.2.2.2.2⟩
theorem wfC_li {S : Nat → Nat} {G : Nat → Nat → Int32} (hw : wfC S G) {j x : Nat} (hj : j < 4) (hx : x < 64) : wfC (va_up S (60 + j) x) G :=
  ⟨wfM_li hw.1 hj hx, fun k hk => by rw [up_n (10 + k) (by omega), up_n (20 + k) (by omega), up_n (30 + k) (by omega)]; exact hw.2.1 k hk, wfR_up hw.2.2.1 (by omega), by rw [up_n 0 (by omega)]; exact hw.2.2.2.1, by rw [up_n 2 (by omega), up_n 3 (by omega)]; exact hw.2.2.2.2⟩
theorem law_stand (m p : Int32) : LawI C_X7_stand C_X8_stand [.int m, .int p] := fun tc S G R N hw hr => by
  have hw' : wfC (q_stand S m p).2 G := by
    unfold q_stand
    split
    · exact hw
    · split
      · exact hw
      · rename_i h h2
        have l1 := (inI_nt (Decidable.of_not_not h)).1
        have l2 := (inI_nt (Decidable.of_not_not h2)).1
        have w2 := hw.1.2.1
        have w3 := hw.1.2.2.1
        exact wfC_pl hw (by omega) (by omega)
  exact ⟨_, tc, S, G, m, p, rfl, rfl, hw, rfl, tc, _, G, rfl, tc, S, G, R, N, m, p, rfl, rfl, hw, hr, fun R' N' h => ⟨rfl, R', N', rfl, hw', h⟩⟩
theorem law_learn (m p : Int32) : LawI C_X7_learn C_X8_learn [.int m, .int p] := fun tc S G R N hw hr => by
  have hw' : wfC (q_learn S m p).2 G := by
    unfold q_learn
    split
    · exact hw
    · split
      · exact hw
      · rename_i h h2
        have l1 := (inI_nt (Decidable.of_not_not h)).1
        have l2 := (inI_nt (Decidable.of_not_not h2)).1
        have w3 := hw.1.2.2.1
        exact wfC_li hw (by omega) l2
  exact ⟨_, tc, S, G, m, p, rfl, rfl, hw, rfl, tc, _, G, rfl, tc, S, G, R, N, m, p, rfl, rfl, hw, hr, fun R' N' h => ⟨rfl, R', N', rfl, hw', h⟩⟩
theorem law_as (m k : Int32) : LawI C_X7_as C_X8_as [.int m, .int k] := fun tc S G R N hw hr => by
  have hw' : wfC (q_as S m k).2 G := by
    unfold q_as
    split
    · exact wfC_0 hw (by omega)
    · split
      · exact wfC_0 hw (by omega)
      · split
        · exact wfC_0 hw (by omega)
        · exact wfC_0 hw (by omega)
  exact ⟨_, tc, S, G, m, k, rfl, rfl, hw, rfl, tc, _, G, rfl, tc, S, G, R, N, m, k, rfl, rfl, hw, hr, fun R' N' h => ⟨rfl, R', N', rfl, hw', h⟩⟩
theorem law_tell (m : Int32) : LawI C_X7_tell C_X8_tell [.int m] := fun tc S G R N hw hr =>
  ⟨_, tc, S, G, m, rfl, rfl, hw, rfl, _, S, G, rfl, tc, S, G, R, N, m, rfl, rfl, hw, hr, fun R' N' h => ⟨rfl, R', N', rfl, hw, h⟩⟩
theorem law_hail (m : Int32) : LawI C_X7_hail C_X8_hail [.int m] := fun tc S G R N hw hr =>
  ⟨_, tc, S, G, m, rfl, rfl, hw, rfl, _, S, G, rfl, tc, S, G, R, N, m, rfl, rfl, hw, hr, fun R' N' h => ⟨rfl, R', N', rfl, hw, h⟩⟩
theorem wfH_up {S : Nat → Nat} (h : wfH S) {k x : Nat} (j : Nat) (hj : j = 10 + k ∧ x ≤ 1 ∨ j = 20 + k ∧ x ≤ 2 ∨ j = 30 + k ∧ x ≤ 60) (hk : k < 4) : wfH (va_up S j x) := fun i hi => by
  obtain ⟨a, b, c⟩ := h i hi
  simp only [va_up]
  refine ⟨?_, ?_, ?_⟩
  · split
    · omega
    · exact a
  · split
    · omega
    · exact b
  · split
    · omega
    · exact c
theorem wfM_up {S : Nat → Nat} (h : wfM S) {j x : Nat} (hj : 4 ≤ j ∧ j < 40) : wfM (va_up S j x) := by
  obtain ⟨a, b, c, d⟩ := h
  refine ⟨by rw [up_n 1 (by omega)]; exact a, by rw [up_n 2 (by omega)]; exact b, by rw [up_n 3 (by omega)]; exact c, fun m hm => ?_⟩
  rw [up_n (40 + m) (by omega), up_n (50 + m) (by omega), up_n (60 + m) (by omega)]
  exact d m hm
theorem wfC_sh {S : Nat → Nat} {G : Nat → Nat → Int32} (hw : wfC S G) {k x : Nat} (j : Nat) (hj : j = 10 + k ∧ x ≤ 1 ∨ j = 20 + k ∧ x ≤ 2 ∨ j = 30 + k ∧ x ≤ 60) (hk : k < 4) : wfC (va_up S j x) G :=
  ⟨wfM_up hw.1 (by omega), wfH_up hw.2.1 j hj hk, wfR_up hw.2.2.1 (by omega), by rw [up_n 0 (by omega)]; exact hw.2.2.2.1, by rw [up_n 2 (by omega), up_n 3 (by omega)]; exact hw.2.2.2.2⟩
theorem wfC_G {S : Nat → Nat} {G : Nat → Nat → Int32} (hw : wfC S G) {k : Nat} (hk : k < 4) (f : Nat → Int32) : wfC S (va_up G k f) :=
  ⟨hw.1, hw.2.1, wfR_as hw.2.2.1 rfl (up_n 4 (by omega)) (up_n 5 (by omega)) (up_n 6 (by omega)), hw.2.2.2⟩
theorem law_lose (k : Int32) : LawI C_X7_lose C_X8_lose [.int k] := fun tc S G R N hw hr => by
  have hw' : wfC (q_lose S k).2 G := by
    unfold q_lose
    split
    · exact hw
    · rename_i h
      have l1 := (inI_nt (Decidable.of_not_not h)).1
      exact wfC_sh hw (k := nt k) _ (Or.inl ⟨rfl, by omega⟩) l1
  exact ⟨_, tc, S, G, k, rfl, rfl, hw, rfl, tc, _, G, rfl, tc, S, G, R, N, k, rfl, rfl, hw, hr, fun R' N' h => ⟨rfl, R', N', rfl, hw', h⟩⟩
theorem law_back (k : Int32) : LawI C_X7_back C_X8_back [.int k] := fun tc S G R N hw hr => by
  have hw' : wfC (q_back S k).2 G := by
    unfold q_back
    split
    · exact hw
    · obtain ⟨c1, c2⟩ := hw.2.2.1
      refine ⟨wfM_up hw.1 (by omega), wfH_ne hw.2.1 (by omega), ⟨?_, fun r hrr => c2 r ?_⟩, hw.2.2.2⟩
      · show S 4 - nt k ≤ 8
        omega
      · have : r < S 4 - nt k := hrr
        omega
  exact ⟨_, tc, S, G, k, rfl, rfl, hw, rfl, tc, _, G, rfl, tc, S, G, R, N, k, rfl, rfl, hw, hr, fun R' N' h => ⟨rfl, R', N', rfl, hw', h⟩⟩
theorem law_sheet (k ln n : Int32) : LawI C_X7_sheet C_X8_sheet [.int k, .int ln, .int n] := fun tc S G R N hw hr => by
  have hw' : wfC (q_sheet S G k ln n).2.1 (q_sheet S G k ln n).2.2 := by
    unfold q_sheet
    split
    · exact wfC_0 hw (by omega)
    · split
      · exact wfC_0 hw (by omega)
      · split
        · exact wfC_0 hw (by omega)
        · rename_i h h2 h3
          have l1 := (inI_nt (Decidable.of_not_not h)).1
          have l2 : inI ln 3 := Decidable.of_not_not (fun z => h2 (Or.inl z))
          have l3 := (inI_nt l2).1
          have l4 : ¬ 60 < n.toInt := fun z => h2 (Or.inr z)
          have l5 : nt n ≤ 60 := by unfold nt; omega
          exact wfC_G (wfC_sh (wfC_sh (wfC_sh (wfC_0 hw (by omega)) (k := nt k) (10 + nt k) (Or.inl ⟨rfl, by omega⟩) l1) (k := nt k) (20 + nt k) (Or.inr (Or.inl ⟨rfl, by omega⟩)) l1) (k := nt k) (30 + nt k) (Or.inr (Or.inr ⟨rfl, l5⟩)) l1) l1 _
  exact ⟨_, tc, S, G, k, ln, n, rfl, rfl, hw, rfl, tc, _, _, rfl, tc, S, G, R, N, k, ln, n, rfl, rfl, hw, hr, fun R' N' h => ⟨rfl, R', N', rfl, hw', h⟩⟩
theorem law_put (k i v : Int32) : LawI C_X7_put C_X8_put [.int k, .int i, .int v] := fun tc S G R N hw hr => by
  have hw' : wfC (q_put S G k i v).2.1 (q_put S G k i v).2.2 := by
    unfold q_put
    split
    · exact wfC_0 hw (by omega)
    · split
      · exact wfC_0 hw (fo_le _ _ _ _ _)
      · rename_i h h2
        have l1 := (inI_nt (Decidable.of_not_not h)).1
        exact wfC_G (wfC_0 hw (by omega)) l1 _
  exact ⟨_, tc, S, G, k, i, v, rfl, rfl, hw, rfl, tc, _, _, rfl, tc, S, G, R, N, k, i, v, rfl, rfl, hw, hr, fun R' N' h => ⟨rfl, R', N', rfl, hw', h⟩⟩
theorem law_cell (k i ln : Int32) : LawL C_X7_cell C_X8_cell [.int k, .int i, .int ln] := fun tc S G R N hw hr => by
  have hw' : wfC (q_cell S G k i ln).2 G := by
    unfold q_cell
    split
    · exact wfC_0 hw (by omega)
    · split
      · exact wfC_0 hw (fo_le _ _ _ _ _)
      · exact wfC_0 hw (by omega)
  exact ⟨_, tc, S, G, k, i, ln, rfl, rfl, hw, rfl, tc, _, _, rfl, tc, S, G, R, N, k, i, ln, rfl, rfl, hw, hr, fun R' N' h => ⟨rfl, R', N', rfl, hw', h⟩⟩
theorem law_copy (k i o j n : Int32) : LawI C_X7_copy C_X8_copy [.int k, .int i, .int o, .int j, .int n] := fun tc S G R N hw hr => by
  have hw' : wfC (va_up S 0 (q_copy S G k i o j n).2.1) (q_copy S G k i o j n).2.2 := by
    unfold q_copy
    split
    · exact wfC_0 hw (f := 0) (by omega)
    · split
      · exact wfC_0 hw (f := 1) (by omega)
      · split
        · exact wfC_0 hw (f := 2) (by omega)
        · split
          · exact wfC_0 hw (f := 3) (by omega)
          · rename_i h _ _ _
            have l2 : inI o 4 := Decidable.of_not_not (fun z => h (Or.inr z))
            exact wfC_G (wfC_0 hw (f := 0) (by omega)) (inI_nt l2).1 _
  exact ⟨_, tc, S, G, k, i, o, j, n, rfl, rfl, hw, rfl, tc, _, _, rfl, tc, S, G, R, N, k, i, o, j, n, rfl, rfl, hw, hr, fun R' N' h => ⟨rfl, R', N', rfl, hw', h⟩⟩
theorem law_reading (p q : Int32) (b : Bool) : LawI C_X7_reading C_X8_reading [.int p, .int q, .int (ip_bi b)] := fun tc S G R N hw hr => by
  have hw' : wfC (q_reading S G p q b).2.1 (q_reading S G p q b).2.2 := by
    unfold q_reading
    split
    · exact hw
    · split
      · exact hw
      · split
        · exact hw
        · rename_i h h2 h3
          obtain ⟨l1, e1⟩ := inI_nt (Decidable.of_not_not h)
          obtain ⟨l2, e2⟩ := inI_nt (Decidable.of_not_not h2)
          have w2 := hw.1.2.1
          obtain ⟨c1, c2⟩ := hw.2.2.1
          refine ⟨wfM_up hw.1 (by omega), wfH_ne hw.2.1 (by omega), ⟨?_, fun r hrr => ?_⟩, hw.2.2.2⟩
          · show S 4 + 1 ≤ 8
            omega
          · have hrr : r < S 4 + 1 := hrr
            show upd (G 4) (S 4) p r = nI (pN (upd (G 4) (S 4) p) r) ∧ pN (upd (G 4) (S 4) p) r < 6 ∧ upd (G 5) (S 4) q r = nI (pN (upd (G 5) (S 4) q) r) ∧ pN (upd (G 5) (S 4) q) r < 6 ∧ (upd (G 6) (S 4) (ip_bi b) r = 0 ∨ upd (G 6) (S 4) (ip_bi b) r = 1)
            unfold pN
            by_cases c : r = S 4
            · subst c
              rw [pk_us, pk_us, pk_us, nt_cl (Decidable.of_not_not h).1, nt_cl (Decidable.of_not_not h2).1]
              exact ⟨e1, by omega, e2, l2, ip_b01 b⟩
            · rw [pk_un c, pk_un c, pk_un c]
              exact c2 r (by omega)
  exact ⟨_, tc, S, G, p, q, b, rfl, rfl, hw, rfl, tc, _, _, rfl, tc, S, G, R, N, p, q, b, rfl, rfl, hw, hr, fun R' N' h => ⟨rfl, R', N', rfl, hw', h⟩⟩
theorem hsR_le (S : Nat → Nat) (G : Nat → Nat → Int32) (sh ln i n : Int32) (w : Bool) : (hsR S G sh ln i n w).2 ≤ 4 := by
  unfold hsR
  split
  · exact Nat.zero_le _
  · split
    · exact Nat.zero_le _
    · split
      · exact fo_le _ _ _ _ _
      · split <;> exact Nat.zero_le _
theorem law_storm (sh ln i n w : Int32) : LawI C_X7_storm C_X8_storm [.int sh, .int ln, .int i, .int n, .int w] := fun tc S G R N hw hr => by
  have hf : (q_storm S G sh ln i n w).2 ≤ 4 := by
    unfold q_storm
    split
    · exact hsR_le _ _ _ _ _ _ _
    · split
      · exact Nat.zero_le _
      · split <;> exact Nat.zero_le _
  exact ⟨_, tc, S, G, sh, ln, i, n, w, rfl, rfl, hw, fun x f g => ⟨rfl, tc, _, _, rfl, tc, S, G, R, N, sh, ln, i, n, w, rfl, rfl, hw, hr, fun R' N' h => ⟨rfl, R', N', rfl, same_wf hw hf (same_05 S G _ x f g), same_rel (same_05 S G _ x f g) h⟩⟩⟩
theorem law_teach (m sh ln i n : Int32) : LawI C_X7_teach C_X8_teach [.int m, .int sh, .int ln, .int i, .int n] := fun tc S G R N hw hr => by
  have hf : (q_teach S G m sh ln i n).2 ≤ 4 := by
    unfold q_teach
    split
    · exact Nat.zero_le _
    · split
      · exact hsR_le _ _ _ _ _ _ _
      · exact Nat.zero_le _
  exact ⟨_, tc, S, G, m, sh, ln, i, n, rfl, rfl, hw, fun x f g => ⟨rfl, tc, _, _, rfl, tc, S, G, R, N, m, sh, ln, i, n, rfl, rfl, hw, hr, fun R' N' h => ⟨rfl, R', N', rfl, same_wf hw hf (same_05 S G _ x f g), same_rel (same_05 S G _ x f g) h⟩⟩⟩
theorem law_place (m sh ln i n : Int32) : LawI C_X7_place C_X8_place [.int m, .int sh, .int ln, .int i, .int n] := fun tc S G R N hw hr => by
  have hf : (q_place S G m sh ln i n).2 ≤ 4 := by
    unfold q_place
    split
    · exact Nat.zero_le _
    · split
      · exact hsR_le _ _ _ _ _ _ _
      · split
        · exact Nat.zero_le _
        · split <;> exact Nat.zero_le _
  exact ⟨_, tc, S, G, m, sh, ln, i, n, rfl, rfl, hw, fun S' G' hs => ⟨rfl, tc, S', G', rfl, tc, S, G, R, N, m, sh, ln, i, n, rfl, rfl, hw, hr, fun R' N' h => ⟨rfl, R', N', rfl, same_wf hw hf hs, same_rel hs h⟩⟩⟩
theorem law_fair (sh ln i n w : Int32) : LawL C_X7_fair C_X8_fair [.int sh, .int ln, .int i, .int n, .int w] := fun tc S G R N hw hr => by
  have hf : (q_fair S G sh ln i n w).2 ≤ 4 := by
    unfold q_fair
    split
    · exact Nat.zero_le _
    · split
      · exact fo_le _ _ _ _ _
      · split
        · exact Nat.zero_le _
        · split <;> exact Nat.zero_le _
  exact ⟨_, tc, S, G, sh, ln, i, n, w, rfl, rfl, hw, rfl, tc, _, G, rfl, tc, S, G, R, N, sh, ln, i, n, w, rfl, rfl, hw, hr, fun R' N' h => ⟨rfl, R', N', rfl, wfC_0 hw hf, h⟩⟩
theorem wf_stl {S : Nat → Nat} {G : Nat → Nat → Int32} (hw : wfC S G) {g : Nat → Int32} {a m : Nat} (h1 : 1 ≤ m) (h4 : m ≤ 4) (hgo : ∀ t, t < 4 + 5 * m → goP g a t) : wfC (va_up (stl (va_up S 0 0) g a m m) 4 0) G := by
  obtain ⟨s1, s2, s3⟩ := stl_123 (va_up S 0 0) g a m m h4
  have so : ∀ j, j ≠ 1 → j ≠ 2 → j ≠ 3 → j < 40 → stl (va_up S 0 0) g a m m j = va_up S 0 0 j := fun j a' b c d => stl_out _ _ _ _ m h4 j a' b c (Or.inl d)
  have g1 := go_1.mp (hgo 1 (by omega))
  have g2 := go_2.mp (hgo 2 (by omega))
  have g3 := go_3.mp (hgo 3 (by omega))
  have hP : 2 ≤ nt (g (a + 3)) - 48 ∧ nt (g (a + 3)) - 48 ≤ 6 := by unfold nt; omega
  refine ⟨⟨?_, ?_, ?_, fun t ht => ?_⟩, fun k hk => ?_, ⟨Nat.zero_le _, fun r hr => absurd hr (Nat.not_lt_zero r)⟩, ?_, ?_, ?_⟩
  · rw [up_n 1 (by omega), s1]; exact (sv_ok g1 g2).2
  · rw [up_n 2 (by omega), s2]; exact hP.2
  · rw [up_n 3 (by omega), s3]; exact h4
  · rw [up_n (40 + t) (by omega), up_n (50 + t) (by omega), up_n (60 + t) (by omega)]
    obtain ⟨q1, q2⟩ := stl_man (va_up S 0 0) g a m ht m h4
    by_cases c : t < m
    · obtain ⟨a1, a2, a3⟩ := q1 c
      rw [a1, a2, a3]
      have m2 := ((go_m (g := g) (a := a) (i := t) (r := 2) (by omega)).mp (hgo _ (by omega))).2
      have m3 := ((go_m (g := g) (a := a) (i := t) (r := 3) (by omega)).mp (hgo _ (by omega))).2
      have m4 := ((go_m (g := g) (a := a) (i := t) (r := 4) (by omega)).mp (hgo _ (by omega))).2
      rw [mg_2] at m2
      rw [mg_3] at m3
      rw [mg_4, show a + (4 + 5 * t + 4) - 1 = a + (4 + 5 * t + 3) by omega] at m4
      refine ⟨?_, ?_, (sv_ok m3 m4).2⟩
      · unfold kdB
        split
        · omega
        · split <;> omega
      · unfold nt
        omega
    · obtain ⟨a1, a2, a3⟩ := q2 (by omega)
      rw [a1, a2, a3, up0 S 0 (by omega), up0 S 0 (by omega), up0 S 0 (by omega)]
      exact hw.1.2.2.2 t ht
  · rw [up_n (10 + k) (by omega), up_n (20 + k) (by omega), up_n (30 + k) (by omega), so (10 + k) (by omega) (by omega) (by omega) (by omega), so (20 + k) (by omega) (by omega) (by omega) (by omega), so (30 + k) (by omega) (by omega) (by omega) (by omega), up0 S 0 (by omega), up0 S 0 (by omega), up0 S 0 (by omega)]
    exact hw.2.1 k hk
  · rw [up_n 0 (by omega), so 0 (by omega) (by omega) (by omega) (by omega)]
    exact Nat.zero_le _
  · rw [up_n 2 (by omega), up_n 3 (by omega), s2, s3]
    omega
  · rw [up_n 2 (by omega), s2]
    omega
theorem law_county (sh ln i n : Int32) : LawI C_X7_county C_X8_county [.int sh, .int ln, .int i, .int n] := fun tc S G R N hw hr => by
  have hw' : wfC (q_county S G sh ln i n).2 G := by
    unfold q_county
    split
    · exact wfC_0 hw (by omega)
    · split
      · exact wfC_0 hw (by omega)
      · split
        · exact wfC_0 hw (fo_le _ _ _ _ _)
        · rename_i h1 h2 h3
          split
          · rename_i hff
            have hs4 := Decidable.of_not_not h1
            have hfz := Decidable.of_not_not h3
            obtain ⟨z1, z2, z3, z4, z5⟩ := fo_zero hfz
            have hz := (hw.2.1 (nt sh) (inI_nt hs4).1).2.2
            have hn60 : nt n ≤ 60 := by unfold nt; omega
            obtain ⟨hl, h9, h5⟩ := ffR_ok (by omega) hff
            have hgo : ∀ t, t < nt n → goP (G (nt sh)) (nt i) t := fun t ht => by
              have := fb_ct_zero.mp ((lst_ct _).mpr hl) t ht
              have : dcd (goP (G (nt sh)) (nt i) t) = true := by simpa using this
              exact dcd_iff.mp this
            have h24 := go_len hgo
            have e : nt n = 4 + 5 * ((nt n - 4) / 5) := by omega
            exact wf_stl hw (by omega) (by omega) (by rw [← e]; exact hgo)
          · exact wfC_0 hw (by omega)
  exact ⟨_, tc, S, G, sh, ln, i, n, rfl, rfl, hw, rfl, tc, _, G, rfl, tc, S, G, R, N, sh, ln, i, n, rfl, rfl, hw, hr, fun R' N' h => ⟨rfl, R', N', rfl, hw', h⟩⟩
