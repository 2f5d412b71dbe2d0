/-! ===== an abstract machine over small pictures of the heap, and weakest preconditions over it ===== -/
abbrev ip_H : Type := List va_E
abbrev ip_L : Type := List (Option Value)
abbrev ip_K : Type := Option Value → ip_H → Prop
abbrev ip_C : Type := List Value → ip_H → ip_K → Prop
abbrev ip_P : Type := ip_L → List Value → ip_H → Prop
/-- an instruction: its place, itself, its length, whether a loop begins there, its number, its target -/
abbrev ip_I : Type := Nat × Instr × Nat × Bool × Int32 × Nat
/-- a field's entry: pool number, class, slot, type, whether it may be written -/
abbrev ip_F : Type := Nat × Nat × Nat × FieldType × Bool
/-- a call's entry: pool number, how many values it takes, 0 (static) or the receiver's class and 1, its contract -/
abbrev ip_G : Type := Nat × Nat × Nat × ip_C
def ip_cv (ad : Nat → Nat) : Value → Value
  | .ref k => .ref (ad k)
  | v => v
abbrev ip_A : Type := (Nat → Int32) ⊕ (Nat → Int64) ⊕ (Nat → UInt32) ⊕ (Nat → UInt64) ⊕ (Nat → Option Nat)
def ip_ca (ad : Nat → Nat) : ip_A → ip_A
  | .inr (.inr (.inr (.inr f))) => .inr (.inr (.inr (.inr (fun i => (f i).map ad))))
  | x => x
def ip_ce (ad dA : Nat → Nat) : va_E → va_E
  | .inl (t, n, x) => .inl (dA t, n, ip_ca ad x)
  | .inr (ci, fs) => .inr (ci, fs.map (ip_cv ad))
def ip_cw (ad dA : Nat → Nat) (hp : ip_H) : va_W := hp.mapIdx (fun k e => (ad k, ip_ce ad dA e))
theorem ip_cw_at {ad dA : Nat → Nat} {hp : ip_H} {q : Nat} {e : va_E} (h : hp[q]? = some e) : (ip_cw ad dA hp)[q]? = some (ad q, ip_ce ad dA e) := by
  simp [ip_cw, List.getElem?_mapIdx, h]
theorem ip_cw_set (ad dA : Nat → Nat) (hp : ip_H) (q : Nat) (e : va_E) : ip_cw ad dA (hp.set q e) = (ip_cw ad dA hp).set q (ad q, ip_ce ad dA e) := by
  apply List.ext_getElem?
  intro i
  simp only [ip_cw, List.getElem?_mapIdx, List.getElem?_set, List.length_mapIdx]
  by_cases hi : q = i
  · subst hi
    by_cases hl : q < hp.length <;> simp [hl]
  · simp [hi]
theorem ip_cv_cat (ad : Nat → Nat) (v : Value) : (ip_cv ad v).category = v.category := by cases v <;> rfl
-- locals
def ip_clr (L : ip_L) : Nat → ip_L
  | 0 => L
  | j + 1 => match L[j]? with
    | some (some v) => if v.category = 2 then L.set j none else L
    | _ => L
def ip_st1 (L : ip_L) (i : Nat) (v : Value) : ip_L := (ip_clr L i).set i (some v)
def ip_st2 (L : ip_L) (i : Nat) (v : Value) : ip_L := ((ip_clr L i).set i (some v)).set (i + 1) none
theorem ip_clr_at {L : ip_L} {i j : Nat} {w : Value} (h : (ip_clr L i)[j]? = some (some w)) : L[j]? = some (some w) ∧ ¬ (j + 1 = i ∧ w.category = 2) := by
  cases i with
  | zero => exact ⟨h, fun q => by omega⟩
  | succ k =>
    simp only [ip_clr] at h
    split at h
    · rename_i v hv
      by_cases hc : v.category = 2
      · rw [if_pos hc, List.getElem?_set] at h
        by_cases hk : k = j
        · subst hk
          rw [if_pos rfl] at h
          split at h <;> simp at h
        · rw [if_neg hk] at h
          exact ⟨h, fun q => hk (by omega)⟩
      · rw [if_neg hc] at h
        refine ⟨h, fun q => ?_⟩
        have e : j = k := by omega
        subst e
        rw [h] at hv
        cases hv
        exact hc q.2
    · rename_i hv
      refine ⟨h, fun q => ?_⟩
      have e : j = k := by omega
      subst e
      exact hv w h
theorem ip_clr_len (L : ip_L) (i : Nat) : (ip_clr L i).length = L.length := by
  cases i with
  | zero => rfl
  | succ k =>
    simp only [ip_clr]
    split
    · split <;> simp
    · rfl
def ip_Lh (ad : Nat → Nat) (nL : Nat) (ls : Array Slot) (L : ip_L) : Prop := L.length = nL ∧ ∃ l, lv_has ls nL l ∧ ∀ (j : Nat) (w : Value), L[j]? = some (some w) → (j, ip_cv ad w) ∈ l
theorem ip_Lh.at {ad : Nat → Nat} {nL : Nat} {ls : Array Slot} {L : ip_L} (h : ip_Lh ad nL ls L) {j : Nat} {w : Value} (hj : L[j]? = some (some w)) : ls[j]? = some (.val (ip_cv ad w)) := by
  obtain ⟨-, l, h1, h2⟩ := h
  exact h1.2.2 _ (h2 j w hj)
theorem ip_Lh.size {ad : Nat → Nat} {nL : Nat} {ls : Array Slot} {L : ip_L} (h : ip_Lh ad nL ls L) : ls.size = nL := by
  obtain ⟨-, l, h1, -⟩ := h
  exact h1.1
theorem ip_Lh.st1 {ad : Nat → Nat} {nL : Nat} {ls ls' : Array Slot} {L : ip_L} {l : List (Nat × Value)} {i : Nat} {v : Value} (hn : L.length = nL) (h2 : ∀ (j : Nat) (w : Value), L[j]? = some (some w) → (j, ip_cv ad w) ∈ l)
    (h : lv_has ls' nL ((i, ip_cv ad v) :: l.filter (fun q => !(q.1 == i) && !(q.1 + 1 == i && q.2.category == 2)))) : ip_Lh ad nL ls' (ip_st1 L i v) := by
  refine ⟨by simp [ip_st1, ip_clr_len, hn], _, h, fun j w hj => ?_⟩
  simp only [ip_st1, List.getElem?_set] at hj
  by_cases hi : i = j
  · subst hi
    rw [if_pos rfl] at hj
    split at hj
    · cases hj; exact List.mem_cons_self
    · cases hj
  · rw [if_neg hi] at hj
    obtain ⟨a, b⟩ := ip_clr_at hj
    refine List.mem_cons_of_mem _ (List.mem_filter.mpr ⟨h2 j w a, ?_⟩)
    have hne : (j == i) = false := by simp; omega
    simp only [ip_cv_cat, hne, Bool.not_false, Bool.true_and, Bool.not_eq_true', Bool.and_eq_false_imp, beq_iff_eq]
    intro q
    have : ¬ w.category = 2 := fun z => b ⟨q, z⟩
    simpa using this
theorem ip_Lh.st2 {ad : Nat → Nat} {nL : Nat} {ls ls' : Array Slot} {L : ip_L} {l : List (Nat × Value)} {i : Nat} {v : Value} (hn : L.length = nL) (h2 : ∀ (j : Nat) (w : Value), L[j]? = some (some w) → (j, ip_cv ad w) ∈ l)
    (h : lv_has ls' nL ((i, ip_cv ad v) :: l.filter (fun q => !(q.1 == i) && (!(q.1 == i + 1) && !(q.1 + 1 == i && q.2.category == 2))))) : ip_Lh ad nL ls' (ip_st2 L i v) := by
  refine ⟨by simp [ip_st2, ip_clr_len, hn], _, h, fun j w hj => ?_⟩
  simp only [ip_st2] at hj
  rw [List.getElem?_set] at hj
  by_cases h1 : i + 1 = j
  · rw [if_pos h1] at hj
    split at hj <;> simp at hj
  · rw [if_neg h1, List.getElem?_set] at hj
    by_cases hi : i = j
    · subst hi
      rw [if_pos rfl] at hj
      split at hj
      · cases hj; exact List.mem_cons_self
      · cases hj
    · rw [if_neg hi] at hj
      obtain ⟨a, b⟩ := ip_clr_at hj
      refine List.mem_cons_of_mem _ (List.mem_filter.mpr ⟨h2 j w a, ?_⟩)
      have hne : (j == i) = false := by simp; omega
      have hne2 : (j == i + 1) = false := by simp; omega
      simp only [ip_cv_cat, hne, hne2, Bool.not_false, Bool.true_and, Bool.not_eq_true', Bool.and_eq_false_imp, beq_iff_eq]
      intro q
      have : ¬ w.category = 2 := fun z => b ⟨q, z⟩
      simpa using this
-- what stands on the stack
def ip_i1 (st : List Value) (k : Int32 → List Value → Prop) : Prop := match st with
  | .int x :: r => k x r
  | _ => False
def ip_i2 (st : List Value) (k : Int32 → Int32 → List Value → Prop) : Prop := match st with
  | .int y :: .int x :: r => k x y r
  | _ => False
def ip_l1 (st : List Value) (k : Int64 → List Value → Prop) : Prop := match st with
  | .long x :: r => k x r
  | _ => False
def ip_l2 (st : List Value) (k : Int64 → Int64 → List Value → Prop) : Prop := match st with
  | .long y :: .long x :: r => k x y r
  | _ => False
def ip_li (st : List Value) (k : Int64 → Int32 → List Value → Prop) : Prop := match st with
  | .int y :: .long x :: r => k x y r
  | _ => False
theorem ip_i1_s {st : List Value} {k : Int32 → List Value → Prop} (h : ip_i1 st k) : ∃ x r, st = .int x :: r ∧ k x r := by
  unfold ip_i1 at h
  split at h
  · exact ⟨_, _, rfl, h⟩
  · exact h.elim
theorem ip_i2_s {st : List Value} {k : Int32 → Int32 → List Value → Prop} (h : ip_i2 st k) : ∃ x y r, st = .int y :: .int x :: r ∧ k x y r := by
  unfold ip_i2 at h
  split at h
  · exact ⟨_, _, _, rfl, h⟩
  · exact h.elim
theorem ip_l1_s {st : List Value} {k : Int64 → List Value → Prop} (h : ip_l1 st k) : ∃ x r, st = .long x :: r ∧ k x r := by
  unfold ip_l1 at h
  split at h
  · exact ⟨_, _, rfl, h⟩
  · exact h.elim
theorem ip_l2_s {st : List Value} {k : Int64 → Int64 → List Value → Prop} (h : ip_l2 st k) : ∃ x y r, st = .long y :: .long x :: r ∧ k x y r := by
  unfold ip_l2 at h
  split at h
  · exact ⟨_, _, _, rfl, h⟩
  · exact h.elim
theorem ip_li_s {st : List Value} {k : Int64 → Int32 → List Value → Prop} (h : ip_li st k) : ∃ x y r, st = .int y :: .long x :: r ∧ k x y r := by
  unfold ip_li at h
  split at h
  · exact ⟨_, _, _, rfl, h⟩
  · exact h.elim
def ip_ldi (L : ip_L) (i : Nat) (k : Int32 → Prop) : Prop := match L[i]? with
  | some (some (.int x)) => k x
  | _ => False
def ip_ldl (L : ip_L) (i : Nat) (k : Int64 → Prop) : Prop := match L[i]? with
  | some (some (.long x)) => k x
  | _ => False
def ip_lda (L : ip_L) (i : Nat) (k : Value → Prop) : Prop := match L[i]? with
  | some (some (.ref x)) => k (.ref x)
  | some (some .null) => k .null
  | _ => False
theorem ip_ldi_s {L : ip_L} {i : Nat} {k : Int32 → Prop} (h : ip_ldi L i k) : ∃ x, L[i]? = some (some (.int x)) ∧ k x := by
  unfold ip_ldi at h
  split at h
  · exact ⟨_, by assumption, h⟩
  · exact h.elim
theorem ip_ldl_s {L : ip_L} {i : Nat} {k : Int64 → Prop} (h : ip_ldl L i k) : ∃ x, L[i]? = some (some (.long x)) ∧ k x := by
  unfold ip_ldl at h
  split at h
  · exact ⟨_, by assumption, h⟩
  · exact h.elim
theorem ip_lda_s {L : ip_L} {i : Nat} {k : Value → Prop} (h : ip_lda L i k) : ∃ v, L[i]? = some (some v) ∧ k v ∧ (v = .null ∨ ∃ a, v = .ref a) := by
  unfold ip_lda at h
  split at h
  · exact ⟨_, by assumption, h, Or.inr ⟨_, rfl⟩⟩
  · exact ⟨_, by assumption, h, Or.inl rfl⟩
  · exact h.elim
def ip_a1 (st : List Value) (k : Value → List Value → Prop) : Prop := match st with
  | .ref a :: r => k (.ref a) r
  | .null :: r => k .null r
  | _ => False
theorem ip_a1_s {st : List Value} {k : Value → List Value → Prop} (h : ip_a1 st k) : ∃ v r, st = v :: r ∧ k v r ∧ (v = .null ∨ ∃ a, v = .ref a) := by
  unfold ip_a1 at h
  split at h
  · exact ⟨_, _, rfl, h, Or.inr ⟨_, rfl⟩⟩
  · exact ⟨_, _, rfl, h, Or.inl rfl⟩
  · exact h.elim
def ip_nu (st : List Value) (kn kr : List Value → Prop) : Prop := match st with
  | .ref _ :: r => kr r
  | .null :: r => kn r
  | _ => False
def ip_cmp (c : Jvm.ClassFile.Cond) (x y : Int32) (t f : Prop) : Prop := match c with
  | .eq => (x = y → t) ∧ (¬ x = y → f)
  | .ne => (¬ x = y → t) ∧ (x = y → f)
  | .lt => (x < y → t) ∧ (¬ x < y → f)
  | .ge => (y ≤ x → t) ∧ (¬ y ≤ x → f)
  | .gt => (y < x → t) ∧ (¬ y < x → f)
  | .le => (x ≤ y → t) ∧ (¬ x ≤ y → f)
/-- the tableswitch's ways, one behind another -/
def ip_ts (jp : Nat → Prop) (pc : Nat) (x : Int) (d : Prop) : Int → List Int → Prop
  | lo, [] => (x < lo ∨ lo ≤ x) → d
  | lo, o :: os => (x = lo → jp ((pc : Int) + o).toNat) ∧ (x ≠ lo → ip_ts jp pc x d (lo + 1) os)
def ip_lk (jp : Nat → Prop) (pc : Nat) (x : Int) (d : Int) : List (Int × Int) → Prop
  | [] => jp ((pc : Int) + d).toNat
  | (a, o) :: os => (a = x → jp ((pc : Int) + o).toNat) ∧ (¬ a = x → ip_lk jp pc x d os)
def ip_ok (ty : FieldType) (v : Value) (k : Prop) : Prop := match ty with
  | .int => match v with
    | .int _ => k
    | _ => False
  | .boolean => match v with
    | .int x => (x = 0 ∨ x = 1) ∧ k
    | _ => False
  | _ => False
def ip_gf (fl : List ip_F) (i : Nat) : Option ip_F := match fl with
  | [] => none
  | f :: r => match f.1 == i with
    | true => some f
    | false => ip_gf r i
def ip_gv (cn : List (Nat × Value)) (i : Nat) : Option Value := match cn with
  | [] => none
  | f :: r => match f.1 == i with
    | true => some f.2
    | false => ip_gv r i
def ip_gc (cs : List ip_G) (i : Nat) : Option ip_G := match cs with
  | [] => none
  | f :: r => match f.1 == i with
    | true => some f
    | false => ip_gc r i
/-- an object's cell -/
def ip_ob (hp : ip_H) (q : Nat) (k : Nat → List Value → Prop) : Prop := match hp[q]? with
  | some (.inr (ci, fs)) => k ci fs
  | _ => False
/-- an array of numbers: its type's number, length, contents -/
def ip_ar (hp : ip_H) (q : Nat) (k : Nat → Nat → (Nat → Int32) → Prop) : Prop := match hp[q]? with
  | some (.inl (t, n, .inl f)) => k t n f
  | _ => False
def ip_rr (hp : ip_H) (q : Nat) (k : Nat → Nat → (Nat → Option Nat) → Prop) : Prop := match hp[q]? with
  | some (.inl (t, n, .inr (.inr (.inr (.inr f))))) => k t n f
  | _ => False
theorem ip_ob_s {hp : ip_H} {q : Nat} {k : Nat → List Value → Prop} (h : ip_ob hp q k) : ∃ ci fs, hp[q]? = some (.inr (ci, fs)) ∧ k ci fs := by
  unfold ip_ob at h
  split at h
  · exact ⟨_, _, by assumption, h⟩
  · exact h.elim
theorem ip_ar_s {hp : ip_H} {q : Nat} {k : Nat → Nat → (Nat → Int32) → Prop} (h : ip_ar hp q k) : ∃ t n f, hp[q]? = some (.inl (t, n, .inl f)) ∧ k t n f := by
  unfold ip_ar at h
  split at h
  · exact ⟨_, _, _, by assumption, h⟩
  · exact h.elim
theorem ip_rr_s {hp : ip_H} {q : Nat} {k : Nat → Nat → (Nat → Option Nat) → Prop} (h : ip_rr hp q k) : ∃ t n f, hp[q]? = some (.inl (t, n, .inr (.inr (.inr (.inr f))))) ∧ k t n f := by
  unfold ip_rr at h
  split at h
  · exact ⟨_, _, _, by assumption, h⟩
  · exact h.elim
/-- stack: a reference and what is below it -/
def ip_r1 (st : List Value) (k : Nat → List Value → Prop) : Prop := match st with
  | .ref a :: r => k a r
  | _ => False
def ip_ri (st : List Value) (k : Nat → Int32 → List Value → Prop) : Prop := match st with
  | .int i :: .ref a :: r => k a i r
  | _ => False
def ip_rii (st : List Value) (k : Nat → Int32 → Int32 → List Value → Prop) : Prop := match st with
  | .int x :: .int i :: .ref a :: r => k a i x r
  | _ => False
def ip_vr (st : List Value) (k : Value → Nat → List Value → Prop) : Prop := match st with
  | v :: .ref a :: r => k v a r
  | _ => False
theorem ip_r1_s {st : List Value} {k : Nat → List Value → Prop} (h : ip_r1 st k) : ∃ a r, st = .ref a :: r ∧ k a r := by
  unfold ip_r1 at h
  split at h
  · exact ⟨_, _, rfl, h⟩
  · exact h.elim
theorem ip_ri_s {st : List Value} {k : Nat → Int32 → List Value → Prop} (h : ip_ri st k) : ∃ a i r, st = .int i :: .ref a :: r ∧ k a i r := by
  unfold ip_ri at h
  split at h
  · exact ⟨_, _, _, rfl, h⟩
  · exact h.elim
theorem ip_rii_s {st : List Value} {k : Nat → Int32 → Int32 → List Value → Prop} (h : ip_rii st k) : ∃ a i x r, st = .int x :: .int i :: .ref a :: r ∧ k a i x r := by
  unfold ip_rii at h
  split at h
  · exact ⟨_, _, _, _, rfl, h⟩
  · exact h.elim
theorem ip_vr_s {st : List Value} {k : Value → Nat → List Value → Prop} (h : ip_vr st k) : ∃ v a r, st = v :: .ref a :: r ∧ k v a r := by
  unfold ip_vr at h
  split at h
  · exact ⟨_, _, _, rfl, h⟩
  · exact h.elim
def ip_when (b : Bool) (k : Prop) : Prop := match b with
  | true => k
  | false => False
theorem ip_when_s {b : Bool} {k : Prop} (h : ip_when b k) : b = true ∧ k := by
  cases b with
  | false => exact h.elim
  | true => exact ⟨rfl, h⟩
/-- a call: its values off the stack, the receiver's class as told -/
def ip_call (g : Option ip_G) (virt : Bool) (nx : ip_P) (L : ip_L) (st : List Value) (hp : ip_H) : Prop := match g with
  | none => False
  | some (_, n, kd, C) => ip_when (Nat.ble n st.length && Nat.ble ((st.drop n).map fun v => v.category).sum 8) (match virt with
    | false => ip_when (kd == 0) (C (st.take n).reverse hp (fun r hp' => nx L (r.toList ++ st.drop n) hp'))
    | true => match (st.take n).reverse with
      | .ref q :: as => ip_ob hp q (fun ci _ => ip_when (kd == ci + 1) (C (.ref q :: as) hp (fun r hp' => nx L (r.toList ++ st.drop n) hp')))
      | _ => False)
def ip_ret (rt : Option FieldType) (ty : FieldType) (k : Prop) : Prop := match rt with
  | none => False
  | some t => match decide (t = ty) with
    | true => k
    | false => False
