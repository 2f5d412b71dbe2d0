/-! ===== the law's cases: values off the script, both calls, the comparison ===== -/
def lw_aok : Nat → List Nat → Bool
  | _, [] => true
  | pc, k :: ks => decide (decode code pc = .ok (.aload_n 0, 1)) && (decide (decode code (pc + 1) = .ok (.iload_n 3, 1)) && (decide (decode code (pc + 1 + 1) = .ok (.iconst (k : Int), 1)) && (decide (decode code (pc + 1 + 1 + 1) = .ok (.iadd, 1)) && (decide (decode code (pc + 1 + 1 + 1 + 1) = .ok (.iaload, 1)) && lw_aok (pc + 1 + 1 + 1 + 1 + 1) ks))))
/-- the two systems of the law in the heap -/
def lw_St (s : State) (D : va_G) (dA adC adM : Nat → Nat) (H : Heap) (locs : List Loc) : Prop := ∃ tc S G R N, wfC S G ∧ relA tc S G R N ∧ va_P D vwCl (ip_cw adC dA (hpC tc S G)) H ∧ va_P D vwCl (ip_cw adM dA (hpM R N)) H ∧ va_D (fun q => s.heap.size ≤ q) (ip_cw adC dA (hpC tc S G)) ∧ va_D (fun q => s.heap.size ≤ q) (ip_cw adM dA (hpM R N)) ∧ va_S (fun q => s.heap.size ≤ q) s.heap H locs
def lw_Mid (s : State) (D : va_G) (dA adC adM : Nat → Nat) (CM : ip_C) (as : List Value) (ans : Value) (H : Heap) (locs : List Loc) : Prop := ∃ tc S G R N, CM (.ref 0 :: as) (hpM R N) (fun r2 hp2 => r2 = some ans ∧ ∃ R' N', hp2 = hpM R' N' ∧ wfC S G ∧ relA tc S G R' N') ∧ va_P D vwCl (ip_cw adC dA (hpC tc S G)) H ∧ va_P D vwCl (ip_cw adM dA (hpM R N)) H ∧ va_D (fun q => s.heap.size ≤ q) (ip_cw adC dA (hpC tc S G)) ∧ va_D (fun q => s.heap.size ≤ q) (ip_cw adM dA (hpM R N)) ∧ va_S (fun q => s.heap.size ≤ q) s.heap H locs
def LawV (T : Value → Prop) (CC CM : ip_C) (as : List Value) : Prop := ∀ (tc : Int32) (S : Nat → Nat) (G : Nat → Nat → Int32) (R : Nat → Int32) (N : Nat → Nat → Int32), wfC S G → relA tc S G R N → ∃ ans : Value, T ans ∧ CC (.ref 0 :: as) (hpC tc S G) (fun r hp' => r = some ans ∧ ∃ tc' S' G', hp' = hpC tc' S' G' ∧ CM (.ref 0 :: as) (hpM R N) (fun r2 hp2 => r2 = some ans ∧ ∃ R' N', hp2 = hpM R' N' ∧ wfC S' G' ∧ relA tc' S' G' R' N'))
def isI (v : Value) : Prop := ∃ a : Int32, v = .int a
def isL (v : Value) : Prop := ∃ a : Int64, v = .long a
theorem LawI.v {CC CM : ip_C} {as : List Value} (h : LawI CC CM as) : LawV isI CC CM as := fun tc S G R N hw hr => by
  obtain ⟨a, q⟩ := h tc S G R N hw hr
  exact ⟨.int a, ⟨a, rfl⟩, q⟩
theorem LawL.v {CC CM : ip_C} {as : List Value} (h : LawL CC CM as) : LawV isL CC CM as := fun tc S G R N hw hr => by
  obtain ⟨a, q⟩ := h tc S G R N hw hr
  exact ⟨.long a, ⟨a, rfl⟩, q⟩
def isV (T : Value → Prop) : Prop := ∀ v, T v → v.category ≤ 2 ∧ ∀ ad, ip_cv ad v = v
theorem isI_v : isV isI := fun v ⟨a, h⟩ => by subst h; exact ⟨Nat.le_of_ble_eq_true rfl, fun _ => rfl⟩
theorem isL_v : isV isL := fun v ⟨a, h⟩ => by subst h; exact ⟨Nat.le_of_ble_eq_true rfl, fun _ => rfl⟩
/-- a called method of the law: link, contract, room -/
def lw_Ok (l : Launch) (ci idx n : Nat) (C : ip_C) : Prop := ∃ (y : MethodName) (bytes : ByteArray) (nL : Nat) (ret : Option FieldType) (rm : Room), ip_Met l y bytes nL ret rm C ∧ (∀ w ∈ ip_wV RL idx y bytes nL ret, w ∈ ip_ws) ∧ (vwCl[ci]?).map (fun q => q.1) = some y.cls ∧ ip_nm y n ∧ ip_rR rm room_1 nL
section LWD
variable {p : Program} {l : Launch} {e : Env} {s : State} {m : MethodId} {below : List Frame} {meth : Method} {c : Code} {H : Heap} {locs : List Loc} {cells slots : Nat} {Q : State → Prop} {D : va_G} {dA adC adM : Nat → Nat} {b L i : Nat} {xs : Nat → Int32} {ls : Array Slot}
theorem lw_args (hx : p.tables.exec = Jvm.exec) (hb : c.code = code) (hX : va_X b L xs s s.heap) (hbl : b < s.heap.size) (hl : lv_has ls 4 [(0, .ref b), (1, .ref (adC 0)), (2, .ref (adM 0)), (3, .int (nI i))]) (hi : i + 5 < L) (hL : L ≤ 3072) (hS : va_S (fun q => s.heap.size ≤ q) s.heap H locs) : ∀ (ks : List Nat) (pc : Nat) (st : List Value), lw_aok pc ks = true → (∀ k ∈ ks, k ≤ 5) → W p l e room_1 s m #[Value.ref b] below meth c H locs cells slots Q (F0 m (pc + 5 * ks.length) ls ((ks.map (fun k => Value.int (xs (i + k)))).reverse ++ st)) → W p l e room_1 s m #[Value.ref b] below meth c H locs cells slots Q (F0 m pc ls st) := by
  intro ks
  induction ks with
  | nil =>
    intro pc st _ _ h
    rw [List.length_nil, Nat.mul_zero, Nat.add_zero, List.map_nil, List.reverse_nil, List.nil_append] at h
    exact h
  | cons k ks ih =>
    intro pc st hc hk h
    simp only [lw_aok, Bool.and_eq_true, decide_eq_true_eq] at hc
    obtain ⟨d0, d1, d2, d3, d4, hc⟩ := hc
    have hk5 := hk k List.mem_cons_self
    have ek : Int32.ofInt (k : Int) = nI k := by
      rcases (show k = 0 ∨ k = 1 ∨ k = 2 ∨ k = 3 ∨ k = 4 ∨ k = 5 by omega) with rfl | rfl | rfl | rfl | rfl | rfl
      all_goals rfl
    refine lv_aload_n hx hb d0 rfl (lv_at hl 0 rfl) ?_
    refine lv_iload_n hx hb d1 rfl (lv_at hl 3 rfl) ?_
    refine lv_iconst (v := nI k) hx hb d2 ek ?_
    refine lv_iadd hx hb d3 ?_
    rw [nI_add]
    refine va_sld hx hb hX hbl (Nat.not_le.mpr hbl) hS (pk_in (i + k) L (by omega)) d4 ?_
    rw [nI_clamp (by omega)]
    refine ih _ _ hc (fun k' h' => hk k' (List.mem_cons_of_mem _ h')) ?_
    have e1 : pc + 5 * (k :: ks).length = pc + 1 + 1 + 1 + 1 + 1 + 5 * ks.length := by rw [List.length_cons]; omega
    have e2 : ((k :: ks).map (fun k => Value.int (xs (i + k)))).reverse ++ st = (ks.map (fun k => Value.int (xs (i + k)))).reverse ++ Value.int (xs (i + k)) :: st := by simp
    rw [e1, e2] at h
    exact h
/-- the class's call -/
theorem lw_c1 {T : Value → Prop} {CC CM : ip_C} {as : List Value} {n idx pc : Nat} (hT : isV T) (hC : lw_Ok l 6 idx n CC) (hlaw : LawV T CC CM as)
    (hx : p.tables.exec = Jvm.exec) (hb : c.code = code) (hml : c.maxLocals = 4) (hown : s.vm.findClass RL = some m.cls) (hts : ∀ w ∈ ip_ws, w.before #[Value.ref b] s = true) (hK : va_K D vwCl (ip_tys dA) s) (hN : ip_N s) (hc : cells ≤ 600000 ∧ slots ≤ 7302250) (hls : ls.size = 4) (hXX : ∀ i j, i < 28 → j < 17 → adC i ≠ adM j)
    (hst : lw_St s D dA adC adM H locs) (hlen : as.length = n) (has : as.map (ip_cv adC) = as) (hdg : decode code pc = .ok (.invokevirtual idx, 3))
    (kk : ∀ (ans : Value) (H' : Heap) (locs' : List Loc), T ans → lw_Mid s D dA adC adM CM as ans H' locs' → W p l e room_1 s m #[Value.ref b] below meth c H' locs' cells slots Q (F0 m (pc + 3) ls [ans])) :
    W p l e room_1 s m #[Value.ref b] below meth c H locs cells slots Q (F0 m pc ls (as.reverse ++ [.ref (adC 0)])) := by
  obtain ⟨tc, S, G, R, N, hw, hr, hP1, hP2, hD1, hD2, hS⟩ := hst
  obtain ⟨y, bytes, nL, ret, rm, hM, hwv, hci, hn, hR⟩ := hC
  obtain ⟨ans, hans, hCC⟩ := hlaw tc S G R N hw hr
  have := lw_call (p := p) (e := e) (R := room_1) (s := s) (m := m) (args := #[Value.ref b]) (below := below) (meth := meth) (c := c) (H := H) (locs := locs) (cells := cells) (slots := slots) (Q := Q) (ad := adC) (rest := []) (pc := pc) (ls := ls) hM hwv hci hn hR hx hb hml hown hts hK hN (A := fun q => s.heap.size ≤ q) (fun _ h => h) hc.1 hc.2 hls hP1 hD1 hS hlen (by decide) rfl hdg hCC (fun r hp' H' locs' hk hP' hD' hS' hsz hfr => by
    obtain ⟨rfl, tc', S', G', rfl, hCM⟩ := hk
    have e1 : ((some ans).map (ip_cv adC)).toList ++ [] = [ans] := by
      show [ip_cv adC ans] = [ans]
      rw [(hT ans hans).2]
    rw [e1]
    exact kk ans H' locs' hans ⟨tc', S', G', R, N, hCM, hP', lw_other (hp := hpC tc S G) (hp2 := hpM R N) hXX hP2 hfr, hD', hD2, hS'⟩)
  rw [has] at this
  exact this
/-- the reference's call -/
theorem lw_c2 {T : Value → Prop} {CM : ip_C} {as : List Value} {n idx pc : Nat} {ans : Value} (hT : isV T) (hC : lw_Ok l 7 idx n CM)
    (hx : p.tables.exec = Jvm.exec) (hb : c.code = code) (hml : c.maxLocals = 4) (hown : s.vm.findClass RL = some m.cls) (hts : ∀ w ∈ ip_ws, w.before #[Value.ref b] s = true) (hK : va_K D vwCl (ip_tys dA) s) (hN : ip_N s) (hc : cells ≤ 600000 ∧ slots ≤ 7302250) (hls : ls.size = 4) (hXX : ∀ i j, i < 28 → j < 17 → adC i ≠ adM j)
    (hans : T ans) (hst : lw_Mid s D dA adC adM CM as ans H locs) (hlen : as.length = n) (has : as.map (ip_cv adM) = as) (hdg : decode code pc = .ok (.invokevirtual idx, 3))
    (kk : ∀ (H' : Heap) (locs' : List Loc), lw_St s D dA adC adM H' locs' → W p l e room_1 s m #[Value.ref b] below meth c H' locs' cells slots Q (F0 m (pc + 3) ls [ans, ans])) :
    W p l e room_1 s m #[Value.ref b] below meth c H locs cells slots Q (F0 m pc ls (as.reverse ++ [.ref (adM 0), ans])) := by
  obtain ⟨tc, S, G, R, N, hCM, hP1, hP2, hD1, hD2, hS⟩ := hst
  obtain ⟨y, bytes, nL, ret, rm, hM, hwv, hci, hn, hR⟩ := hC
  have hcat : (([ans] : List Value).map fun v => v.category).sum ≤ 8 := by
    have := (hT ans hans).1
    simp only [List.map_cons, List.map_nil, List.sum_cons, List.sum_nil]
    omega
  have := lw_call (p := p) (e := e) (R := room_1) (s := s) (m := m) (args := #[Value.ref b]) (below := below) (meth := meth) (c := c) (H := H) (locs := locs) (cells := cells) (slots := slots) (Q := Q) (ad := adM) (rest := [ans]) (pc := pc) (ls := ls) hM hwv hci hn hR hx hb hml hown hts hK hN (A := fun q => s.heap.size ≤ q) (fun _ h => h) hc.1 hc.2 hls hP2 hD2 hS hlen hcat rfl hdg hCM (fun r hp' H' locs' hk hP' hD' hS' hsz hfr => by
    obtain ⟨rfl, R', N', rfl, hw, hr⟩ := hk
    have e1 : ((some ans).map (ip_cv adM)).toList ++ [ans] = [ans, ans] := by
      show [ip_cv adM ans, ans] = [ans, ans]
      rw [(hT ans hans).2]
    rw [e1]
    exact kk H' locs' ⟨tc, S, G, R', N', hw, hr, lw_other (hp := hpM R N) (hp2 := hpC tc S G) (fun i j h1 h2 z => hXX j i h2 h1 z.symm) hP1 hfr, hP', hD1, hD', hS'⟩)
  rw [has] at this
  exact this
def lw_cok (pc : Nat) (ks : List Nat) (idC idM : Nat) : Bool := decide (decode code pc = .ok (.aload_n 1, 1)) && (lw_aok (pc + 1) ks && (decide (decode code (pc + 1 + 5 * ks.length) = .ok (.invokevirtual idC, 3)) && (decide (decode code (pc + 1 + 5 * ks.length + 3) = .ok (.aload_n 2, 1)) && (lw_aok (pc + 1 + 5 * ks.length + 3 + 1) ks && (decide (decode code (pc + 1 + 5 * ks.length + 3 + 1 + 5 * ks.length) = .ok (.invokevirtual idM, 3)) && ks.all (fun k => Nat.ble k 5))))))
/-- both calls with values off the script -/
theorem lw_two {T : Value → Prop} {CC CM : ip_C} (ks : List Nat) {idC idM pc : Nat} (hT : isV T) (hC : lw_Ok l 6 idC ks.length CC) (hM : lw_Ok l 7 idM ks.length CM) (hlaw : LawV T CC CM (ks.map (fun k => Value.int (xs (i + k))))) (hok : lw_cok pc ks idC idM = true)
    (hx : p.tables.exec = Jvm.exec) (hb : c.code = code) (hml : c.maxLocals = 4) (hown : s.vm.findClass RL = some m.cls) (hts : ∀ w ∈ ip_ws, w.before #[Value.ref b] s = true) (hK : va_K D vwCl (ip_tys dA) s) (hN : ip_N s) (hX : va_X b L xs s s.heap) (hbl : b < s.heap.size) (hc : cells ≤ 600000 ∧ slots ≤ 7302250) (hXX : ∀ i j, i < 28 → j < 17 → adC i ≠ adM j)
    (hl : lv_has ls 4 [(0, .ref b), (1, .ref (adC 0)), (2, .ref (adM 0)), (3, .int (nI i))]) (hi : i + 5 < L) (hL : L ≤ 3072) (hst : lw_St s D dA adC adM H locs)
    (kk : ∀ (ans : Value) (H' : Heap) (locs' : List Loc), T ans → lw_St s D dA adC adM H' locs' → W p l e room_1 s m #[Value.ref b] below meth c H' locs' cells slots Q (F0 m (pc + 1 + 5 * ks.length + 3 + 1 + 5 * ks.length + 3) ls [ans, ans])) :
    W p l e room_1 s m #[Value.ref b] below meth c H locs cells slots Q (F0 m pc ls []) := by
  simp only [lw_cok, Bool.and_eq_true, decide_eq_true_eq, List.all_eq_true] at hok
  obtain ⟨d1, a1, d2, d3, a2, d4, hks⟩ := hok
  have hks : ∀ k ∈ ks, k ≤ 5 := fun k h => Nat.le_of_ble_eq_true (hks k h)
  have has : ∀ ad : Nat → Nat, (ks.map (fun k => Value.int (xs (i + k)))).map (ip_cv ad) = ks.map (fun k => Value.int (xs (i + k))) := fun ad => by rw [List.map_map]; rfl
  have hS := hst
  obtain ⟨-, -, -, -, -, -, -, -, -, -, -, hS⟩ := hS
  refine lv_aload_n hx hb d1 rfl (lv_at hl 1 rfl) ?_
  refine lw_args hx hb hX hbl hl hi hL hS ks _ _ a1 hks ?_
  refine lw_c1 hT hC hlaw hx hb hml hown hts hK hN hc hl.1 hXX hst (by rw [List.length_map]) (has adC) d2 (fun ans H' locs' hans hmid => ?_)
  have hS' := hmid
  obtain ⟨-, -, -, -, -, -, -, -, -, -, hS'⟩ := hS'
  refine lv_aload_n hx hb d3 rfl (lv_at hl 2 rfl) ?_
  refine lw_args hx hb hX hbl hl hi hL hS' ks _ _ a2 hks ?_
  exact lw_c2 hT hM hx hb hml hown hts hK hN hc hl.1 hXX hans hmid (by rw [List.length_map]) (has adM) d4 (fun H2 locs2 hst2 => kk ans H2 locs2 hans hst2)
end LWD
