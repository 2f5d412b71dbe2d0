/-! ===== methods by contract ===== -/
theorem ip_find_s {t : Nat} : ∀ (tb : List ip_I), ip_find t tb = [] ∨ ∃ (x : ip_I) (r pre : List ip_I), ip_find t tb = x :: r ∧ x.1 = t ∧ tb = pre ++ (x :: r)
  | [] => Or.inl rfl
  | x :: r => by
    simp only [ip_find]
    split
    · rename_i h
      exact Or.inr ⟨x, r, [], rfl, Nat.eq_of_beq_eq_true h, rfl⟩
    · rcases ip_find_s r with h | ⟨y, r', pre, h1, h2, h3⟩
      · exact Or.inl h
      · exact Or.inr ⟨y, r', x :: pre, h1, h2, by rw [h3]; rfl⟩
theorem ip_chk_s {cc : ByteArray} : ∀ (pre : List ip_I) {pc : Nat} {ins : Instr} {len : Nat} {hd : Bool} {ar : Int32} {tg : Nat} {r : List ip_I}, ip_chk cc (pre ++ (pc, ins, len, hd, ar, tg) :: r) = true → decode cc pc = .ok (ins, len) ∧ ip_nr ins len ar tg pc = true ∧ ∀ x r', r = x :: r' → x.1 = pc + len
  | [], pc, ins, len, hd, ar, tg, r, h => by
    simp only [List.nil_append, ip_chk, Bool.and_eq_true, decide_eq_true_eq] at h
    refine ⟨h.1.1.1, h.1.1.2, fun x r' e => ?_⟩
    have h2 := h.1.2
    rw [e] at h2
    exact ip_b1 h2
  | (pc0, ins0, len0, hd0, ar0, tg0) :: pre, pc, ins, len, hd, ar, tg, r, h => by
    simp only [List.cons_append, ip_chk, Bool.and_eq_true] at h
    exact ip_chk_s pre h.2
theorem ip_wp_nil {fl : List ip_F} {cn : List (Nat × Value)} {cs : List ip_G} {rt : Option FieldType} {tb : List ip_I} {I : Nat → Nat → ip_P} {K : ip_K} {n : Nat} {b : Option Nat} {fr : Bool} {L : ip_L} {st : List Value} {hp : ip_H} (h : ip_wp fl cn cs rt tb I K n b fr [] L st hp) : False := by
  cases n with
  | zero => exact h
  | succ n => exact h
def ip_la : List Value → ip_L
  | [] => []
  | v :: vs => if v.category = 2 then some v :: none :: ip_la vs else some v :: ip_la vs
def ip_L0 (nL : Nat) (vs : List Value) : ip_L := ip_la vs ++ List.replicate (nL - (ip_la vs).length) none
theorem ip_la_len (ad : Nat → Nat) : ∀ vs : List Value, (lg_sl (vs.map (ip_cv ad))).length = (ip_la vs).length
  | [] => rfl
  | v :: vs => by
    have ih := ip_la_len ad vs
    have e : lg_sl ((v :: vs).map (ip_cv ad)) = (if (ip_cv ad v).category = 2 then [Slot.val (ip_cv ad v), .second] else [Slot.val (ip_cv ad v)]) ++ lg_sl (vs.map (ip_cv ad)) := rfl
    rw [e, List.length_append, ih, ip_cv_cat]
    simp only [ip_la]
    split <;> simp only [List.length_cons, List.length_nil] <;> omega
theorem ip_la_at (ad : Nat → Nat) : ∀ (vs : List Value) (i j : Nat) (w : Value), (ip_la vs)[j]? = some (some w) → (i + j, ip_cv ad w) ∈ lv_args i (vs.map (ip_cv ad))
  | [], i, j, w, h => by simp [ip_la] at h
  | v :: vs, i, j, w, h => by
    simp only [ip_la] at h
    simp only [List.map_cons, lv_args, ip_cv_cat]
    by_cases hc : v.category = 2
    · rw [if_pos hc] at h ⊢
      match j, h with
      | 0, h => simp at h; subst h; exact List.mem_cons_self
      | 1, h => simp at h
      | j + 2, h =>
        have := ip_la_at ad vs (i + 2) j w (by simpa using h)
        rw [show i + (j + 2) = i + 2 + j by omega]
        exact List.mem_cons_of_mem _ this
    · rw [if_neg hc] at h ⊢
      match j, h with
      | 0, h => simp at h; subst h; exact List.mem_cons_self
      | j + 1, h =>
        have := ip_la_at ad vs (i + 1) j w (by simpa using h)
        rw [show i + (j + 1) = i + 1 + j by omega]
        exact List.mem_cons_of_mem _ this
theorem ip_L0_ok (ad : Nat → Nat) (nL : Nat) (vs : List Value) (h : (ip_la vs).length ≤ nL) : ip_Lh ad nL ((lg_sl (vs.map (ip_cv ad)) ++ List.replicate (nL - (lg_sl (vs.map (ip_cv ad))).length) Slot.unset).toArray) (ip_L0 nL vs) := by
  refine ⟨by simp [ip_L0]; omega, _, lv_entry (vs.map (ip_cv ad)) (by rw [ip_la_len]; exact h), fun j w hj => ?_⟩
  simp only [ip_L0] at hj
  by_cases hl : j < (ip_la vs).length
  · rw [List.getElem?_append_left hl] at hj
    simpa using ip_la_at ad vs 0 j w hj
  · rw [List.getElem?_append_right (by omega)] at hj
    have := List.mem_of_getElem? hj
    simp at this
/-- the words of nest mates -/
def ip_N (U : State) : Prop := va_Nw (.methodLinkNest RX0 28 yX7_holds "ThunderAsks") U ∧ va_Nw (.methodLinkNest RX3 74 yX7_holds "ThunderAsks") U
theorem ip_N.warm {s U : State} (hW : s.WarmedH U.vm) (h : ip_N s) : ip_N U := ⟨va_Nw.warmM hW h.1, va_Nw.warmM hW h.2⟩
theorem ip_N.same {u U : State} (he : u.vm = U.vm) (h : ip_N u) : ip_N U := ⟨va_Nw.same rfl he h.1, va_Nw.same rfl he h.2⟩
def ip_B (D : va_G) (dA ad : Nat → Nat) (hp : ip_H) (sz : Nat) (U : State) : Prop := U.heap.size = sz ∧ va_P D vwCl (ip_cw ad dA hp) U.heap ∧ va_K D vwCl (ip_tys dA) U ∧ va_D (fun _ => True) (ip_cw ad dA hp) ∧ ip_N U
def ip_Q (D : va_G) (dA ad : Nat → Nat) (hp : ip_H) (K : ip_K) (sz : Nat) : Array Value → State → Outcome → State → Prop := fun _ st oc t =>
  (∃ (r : Option Value) (hp' : ip_H), oc = .returned (r.map (ip_cv ad)) ∧ K r hp' ∧ va_P D vwCl (ip_cw ad dA hp') t.heap ∧ va_D (va_A (ip_cw ad dA hp) sz) (ip_cw ad dA hp')) ∧ va_F (va_A (ip_cw ad dA hp) sz) st t
/-- A METHOD'S CONTRACT: where C holds of its values and the heap, it returns as C's last argument allows -/
def ip_Met (l : Launch) (y : MethodName) (cc : ByteArray) (nL : Nat) (ret : Option FieldType) (rm : Room) (C : ip_C) : Prop := ∀ (D : va_G) (dA : Nat → Nat) (vs : List Value) (hp : ip_H) (K : ip_K), C vs hp K → ∀ (ad : Nat → Nat) (sz : Nat),
  Met l y (.code y cc nL ret :: ip_ws) rm (va_Pc (vs.map (ip_cv ad)) (ip_B D dA ad hp sz)) (ip_Q D dA ad hp K sz) 0 0 (va_A (ip_cw ad dA hp) sz)
def ip_GS (l : Launch) (R : Room) (own : String) (g : ip_G) : Prop := ∀ (p : Program) (e : Env) (s : State) (m : MethodId) (args : Array Value) (below : List Frame) (meth : Method) (c : Code) (cells slots : Nat) (Q : State → Prop) (cc : ByteArray) (nL : Nat) (D : va_G) (ad dA : Nat → Nat) (A : Nat → Prop),
  p.tables.exec = Jvm.exec → c.code = cc → c.maxLocals = nL → s.vm.findClass own = some m.cls → (∀ w ∈ ip_ws, w.before args s = true) → va_K D vwCl (ip_tys dA) s → ip_N s → (∀ q, s.heap.size ≤ q → A q) → cells ≤ R.cells → slots ≤ R.slots → ip_CS p l e R s m args below meth c cells slots Q cc nL D ad dA A g
set_option maxHeartbeats 4000000 in
theorem ip_met {l : Launch} {y : MethodName} {cc : ByteArray} {nL : Nat} {ret : Option FieldType} {rm : Room} {C : ip_C} {fl : List ip_F} {cn : List (Nat × Value)} {cs : List ip_G} (tb : List ip_I) (fuel : Nat) (hy : plainName y.cls = true) (hfl : ip_flOk y.cls fl) (hcn : ip_cnOk y.cls cn) (hcs : ∀ g ∈ cs, ip_GS l rm y.cls g) (hchk : ip_chk cc tb = true) (htb : tb.head?.map (fun x => x.1) = some 0)
    (hC : ∀ (vs : List Value) (hp : ip_H) (K : ip_K), C vs hp K → (ip_la vs).length ≤ nL ∧ ∃ I : Nat → Nat → ip_P, ip_wp fl cn cs ret tb I K fuel none false tb (ip_L0 nL vs) [] hp ∧ ∀ (pc k : Nat) (L : ip_L) (st : List Value) (hp : ip_H), I pc k L st hp → ip_wp fl cn cs ret tb I K fuel (some k) true (ip_find pc tb) L st hp) : ip_Met l y cc nL ret rm C := by
  intro D dA vs hp0 K hc ad sz
  obtain ⟨hlen, I, hw, hI⟩ := hC vs hp0 K hc
  refine Met.ofW (cc := cc) (maxL := nL) (ret := ret) hy rfl ?_
  intro p e s m args below meth c s₁ B hml hv
  obtain ⟨rfl, hsz, hP, hK, hD0, hN⟩ := hv
  have hx := B.exec
  have hb := B.bytes
  have hr := B.returns
  have hts0 := atoms_spec (ws := .code y cc nL ret :: ip_ws) B.pre
  have hts : ∀ w ∈ ip_ws, w.before (vs.map (ip_cv ad)).toArray s = true := fun w h => hts0 w (List.mem_cons_of_mem _ h)
  have hown : s.vm.findClass y.cls = some m.cls := findClass_of_methodNamed B.named
  have hlocks := B.notSynchronized
  subst hsz
  have hD := hD0.self (sz := s.heap.size)
  have hA : ∀ q : Nat, s.heap.size ≤ q → va_A (ip_cw ad dA hp0) s.heap.size q := fun q h => Or.inr h
  have hS : va_S (va_A (ip_cw ad dA hp0) s.heap.size) s.heap s.heap [] := va_S.rf
  have hret : ∀ (r : Option Value) (hp : ip_H) (H : Heap) (locs : List Loc), va_P D vwCl (ip_cw ad dA hp) H → va_D (va_A (ip_cw ad dA hp0) s.heap.size) (ip_cw ad dA hp) → va_S (va_A (ip_cw ad dA hp0) s.heap.size) s.heap H locs → K r hp → ∀ t : State, t.heap = H → s.WarmedH t.vm → ip_Q D dA ad hp0 K s.heap.size (vs.map (ip_cv ad)).toArray s (.returned (r.map (ip_cv ad))) t :=
    fun r hp H locs hP hD hS hk t ht hW => ⟨⟨r, hp, rfl, hk, by rw [ht]; exact hP, hD⟩, hS.F ht⟩
  have hcs' : ∀ g ∈ cs, ip_CS p l e rm s m (vs.map (ip_cv ad)).toArray below meth c 0 0 (MQ below (ip_Q D dA ad hp0 K s.heap.size) (vs.map (ip_cv ad)).toArray s 0 0 (va_A (ip_cw ad dA hp0) s.heap.size)) cc nL D ad dA (va_A (ip_cw ad dA hp0) s.heap.size) g :=
    fun g hg => hcs g hg p e s m _ below meth c 0 0 _ cc nL D ad dA _ hx hb hml hown hts hK hN hA (Nat.zero_le _) (Nat.zero_le _)
  -- from any place of the table on, if the heads of lesser measure are sound
  have run : ∀ (b : Option Nat), (∀ k, ip_lt k b → ∀ pc, ip_W p l e rm s m (vs.map (ip_cv ad)).toArray below meth c 0 0 (MQ below (ip_Q D dA ad hp0 K s.heap.size) (vs.map (ip_cv ad)).toArray s 0 0 (va_A (ip_cw ad dA hp0) s.heap.size)) nL D ad dA (va_A (ip_cw ad dA hp0) s.heap.size) pc (I pc k)) →
      ∀ (n : Nat) (fr : Bool) (x : ip_I) (r pre : List ip_I), tb = pre ++ (x :: r) → ip_W p l e rm s m (vs.map (ip_cv ad)).toArray below meth c 0 0 (MQ below (ip_Q D dA ad hp0 K s.heap.size) (vs.map (ip_cv ad)).toArray s 0 0 (va_A (ip_cw ad dA hp0) s.heap.size)) nL D ad dA (va_A (ip_cw ad dA hp0) s.heap.size) x.1 (ip_wp fl cn cs ret tb I K n b fr (x :: r)) := by
    intro b hb' n
    induction n with
    | zero =>
      intro fr x r pre ht L st hp ls H locs hrel h
      exact h.elim
    | succ n ih =>
      intro fr x r pre ht
      obtain ⟨pc, ins, len, hd, ar, tg⟩ := x
      have hck := hchk
      rw [ht] at hck
      obtain ⟨hdg, hnr, hnext⟩ := ip_chk_s pre hck
      intro L st hp ls H locs hrel h
      simp only [ip_wp] at h
      split at h
      · obtain ⟨k, hk, h⟩ := h
        exact hb' k hk pc L st hp ls H locs hrel h
      · refine ip_x_ok hx hb hr hlocks hown hts hK hfl hcn hcs' hret hdg hnr ?_ ?_ L st hp ls H locs hrel h
        · cases r with
          | nil => exact fun L st hp ls H locs _ h => (ip_wp_nil h).elim
          | cons x' r' =>
            rw [← hnext x' r' rfl]
            exact ih false x' r' (pre ++ [(pc, ins, len, hd, ar, tg)]) (by rw [ht]; simp)
        · intro t
          rcases ip_find_s (t := t) tb with h1 | ⟨x', r', pre', h1, h2, h3⟩
          · rw [h1]
            exact fun L st hp ls H locs _ h => (ip_wp_nil h).elim
          · rw [h1, ← h2]
            exact ih false x' r' pre' h3
  have heads : ∀ (k pc : Nat), ip_W p l e rm s m (vs.map (ip_cv ad)).toArray below meth c 0 0 (MQ below (ip_Q D dA ad hp0 K s.heap.size) (vs.map (ip_cv ad)).toArray s 0 0 (va_A (ip_cw ad dA hp0) s.heap.size)) nL D ad dA (va_A (ip_cw ad dA hp0) s.heap.size) pc (I pc k) := by
    intro k
    induction k using Nat.strongRecOn with
    | _ k ih =>
      intro pc L st hp ls H locs hrel h
      have h1 := hI pc k L st hp h
      rcases ip_find_s (t := pc) tb with h2 | ⟨x, r, pre, h2, h3, h4⟩
      · rw [h2] at h1
        exact (ip_wp_nil h1).elim
      · rw [h2] at h1
        rw [← h3]
        exact run (some k) (fun k' hk' pc' => ih k' hk' pc') fuel true x r pre h4 L st hp ls H locs hrel h1
  rw [lg_entry_eq]
  cases htb' : tb with
  | nil => rw [htb'] at htb; cases htb
  | cons x r =>
    have h0 : x.1 = 0 := by rw [htb'] at htb; simpa using htb
    have := run none (fun k _ pc => heads k pc) fuel false x r [] htb' (ip_L0 nL vs) [] hp0 _ s.heap [] ⟨ip_L0_ok ad nL vs hlen, hP, hD, hS⟩ (by rw [← htb']; exact hw)
    rw [h0] at this
    exact this
section IPC
variable {p : Program} {l : Launch} {e : Env} {R : Room} {s : State} {m : MethodId} {args : Array Value} {below : List Frame} {meth : Method} {c : Code} {H : Heap} {locs : List Loc} {cells slots : Nat} {Q : State → Prop} {D : va_G} {ad dA : Nat → Nat} {A : Nat → Prop}
theorem ip_back {pc : Nat} {ls : Array Slot} {st0 rest : List Value} {hp : ip_H} {K' : ip_K} {a : Array Value} (hr : va_Run p l e R s m args below meth c H locs cells slots 0 0 (F0 m pc ls st0) rest (ip_Q D dA ad hp K' H.size a) (va_A (ip_cw ad dA hp) H.size)) (hS : va_S A s.heap H locs) (hF : ∀ q, va_A (ip_cw ad dA hp) H.size q → A q)
    (kk : ∀ (r : Option Value) (hp' : ip_H) (H' : Heap) (locs' : List Loc), K' r hp' → va_P D vwCl (ip_cw ad dA hp') H' → va_D A (ip_cw ad dA hp') → va_S A s.heap H' locs' → W p l e R s m args below meth c H' locs' cells slots Q (F0 m (pc + 3) ls ((r.map (ip_cv ad)).toList ++ rest))) : W p l e R s m args below meth c H locs cells slots Q (F0 m pc ls st0) := by
  intro T hT X
  obtain ⟨v, st₀, t, T', L, h0, X', hL, e1, e2, ⟨⟨r, hp', hv, hk, hP', hD'⟩, hz, hkeep⟩, st⟩ := hr T hT X
  injection hv with hv
  subst hv
  rw [h0] at hz hkeep
  obtain ⟨t2, a1, b1⟩ := kk r hp' T'.heap (locs ++ L) hk (by rw [e1]; exact hP') (hD'.weaken (fun k q _ h => hF q.1 h))
    ⟨Nat.le_trans hS.1 (by rw [e1]; exact hz), fun q h1 h2 => by rw [e1, hkeep q (Nat.lt_of_lt_of_le h1 hS.1) (fun z => h2 (hF q z))]; exact hS.2.1 q h1 h2, fun q hq => by
      rcases List.mem_append.mp hq with h | h
      · exact hS.2.2 q h
      · exact hF _ (hL q h)⟩ T' rfl X'
  exact ⟨t2, st t2 a1, b1⟩
theorem ip_blind {D : va_G} {dA ad : Nat → Nat} {hp : ip_H} {sz : Nat} {av : List Value} : FrameBlind (va_Pc av (ip_B D dA ad hp sz)) := fun a U g mk q =>
  ⟨q.1, q.2.1, q.2.2.1, va_K.moved (u := U) (U := U.calling g mk a) (Vm.Alike.refl U.vm) q.2.2.2.1, q.2.2.2.2.1, ip_N.same (u := U) rfl q.2.2.2.2.2⟩
theorem ip_toList (ad : Nat → Nat) (r : Option Value) (rest : List Value) : (r.toList ++ rest).map (ip_cv ad) = (r.map (ip_cv ad)).toList ++ rest.map (ip_cv ad) := by cases r <;> rfl
theorem ip_catSum (ad : Nat → Nat) (rest : List Value) : ((rest.map (ip_cv ad)).map fun v => v.category).sum = (rest.map fun v => v.category).sum := by
  rw [List.map_map]; congr 1; exact List.map_congr_left (fun v _ => ip_cv_cat ad v)
theorem ip_freeA {hp : ip_H} (hD : va_D A (ip_cw ad dA hp)) (hA : ∀ q, s.heap.size ≤ q → A q) (hS : va_S A s.heap H locs) : ∀ q, va_A (ip_cw ad dA hp) H.size q → A q := by
  intro q h
  rcases h with ⟨k, x, h⟩ | h
  · exact hD.2 k (q, x) h
  · exact hA q (Nat.le_trans hS.1 h)
end IPC
/-- what a call's words must be -/
def ip_wV (own : String) (idx : Nat) (y : MethodName) (cc : ByteArray) (nL : Nat) (ret : Option FieldType) : List Cond := [.methodLink own idx y, .instanceMethod y, .selects y.cls y y, .initialized y.cls, .code y cc nL ret]
def ip_wS (own : String) (idx : Nat) (y : MethodName) (cc : ByteArray) (nL : Nat) (ret : Option FieldType) : List Cond := [.methodLink own idx y, .static y, .initialized y.cls, .code y cc nL ret]
def ip_wN (y : MethodName) (cc : ByteArray) (nL : Nat) (ret : Option FieldType) : List Cond := [.static y, .initialized y.cls, .code y cc nL ret]
def ip_nm (y : MethodName) (n : Nat) : Prop := y.cls ≠ "java/lang/invoke/MethodHandle" ∧ y.cls ≠ "java/lang/invoke/VarHandle" ∧ (parseMethodDescriptor y.desc).map (fun d => d.parameters.length) = some n
def ip_rR (rm R : Room) (nL : Nat) : Prop := rm.cells = 0 ∧ rm.slots = 0 ∧ rm.frames + 1 ≤ R.frames ∧ 8 + (nL + 11) + rm.locals ≤ R.locals
theorem ip_good {w : Cond} (h : w ∈ ip_ws) : w ∈ ip_ws ∧ ((w.onTables && w.keeps) = true ∨ ∃ ty, w = .arrayClass ty) := ip_ws_good w h
theorem ip_goodC {y : MethodName} {cc : ByteArray} {nL : Nat} {ret : Option FieldType} (h : Cond.code y cc nL ret ∈ ip_ws) : GoodIn ip_ws (.code y cc nL ret :: ip_ws) := fun w hw => (List.mem_cons.mp hw).elim (fun q => by rw [q]; exact ip_good h) (fun q => ip_good q)
set_option maxHeartbeats 4000000 in
theorem ip_gsV {l : Launch} {R rm : Room} {own : String} {idx n ci : Nat} {y : MethodName} {bytes : ByteArray} {nL' : Nat} {ret : Option FieldType} {C : ip_C} (hM : ip_Met l y bytes nL' ret rm C) (hw : ∀ w ∈ ip_wV own idx y bytes nL' ret, w ∈ ip_ws) (hci : (vwCl[ci]?).map (fun q => q.1) = some y.cls) (hn : ip_nm y n) (hR : ip_rR rm R nL') : ip_GS l R own (idx, n + 1, ci + 1, C) := by
  intro p e s m args below meth c cells slots Q cc nL D ad dA A hx hb hml hown hts hK hN hA hc1 hc2 pc L As rest hp ls H locs K' hrel hlen hcat hcase hC kk
  obtain ⟨hL, hP, hD, hS⟩ := id hrel
  simp only at hlen hcase hC
  rcases hcase with ⟨h0, -⟩ | ⟨q, as, cj, fs, hk, rfl, ho, hdg⟩
  · cases h0
  · have hk : ci = cj := by omega
    subst hk
    obtain ⟨qc, hq, hqn⟩ := Option.map_eq_some_iff.mp hci
    have hF := ip_freeA hD hA hS
    have hcode : Cond.code y bytes nL' ret ∈ ip_ws := hw _ (by simp [ip_wV])
    have hn' : as.length = n := by simpa using hlen
    rw [show (((Value.ref q :: as).reverse ++ rest).map (ip_cv ad)) = (as.map (ip_cv ad)).reverse ++ .ref (ad q) :: rest.map (ip_cv ad) by simp [ip_cv]]
    refine ip_back (va_runV (C := y.cls) (As := as.map (ip_cv ad)) (rest := rest.map (ip_cv ad)) ⟨hx, hb, hml, hown, hts⟩ (hM D dA (.ref q :: as) hp K' hC ad H.size) (cwV n hts ?_ rfl hR.1 hR.2.1 ⟨rfl, hn.1, hn.2.1, hn.2.2⟩ ⟨hR.2.2.1, hR.2.2.2⟩) ⟨ip_blind, ?_, fun U hU hW => ⟨rfl, by rw [hU], by rw [hU]; exact hP, va_K.moved hW.alike hK, hD.weaken (fun _ _ _ _ => trivial), ip_N.warm hW hN⟩⟩ rfl (by simpa using hn') hL.size rfl (lv_room (by rw [ip_catSum]; exact hcat)) hdg ⟨hc1, hc2⟩) hS hF (fun r hp' H' locs' hk' hP' hD' hS' => ?_)
    · intro w hw'
      simp only [wsV, List.mem_append] at hw'
      rcases hw' with h | h
      · refine ip_good (hw w ?_)
        simp only [ip_wV, List.mem_cons, List.not_mem_nil, or_false] at h ⊢
        rcases h with h | h | h | h <;> simp [h]
      · exact ip_goodC hcode w h
    · have := va_recv hK hP hq (ip_cw_at ho)
      rw [hqn] at this
      exact this
    · rw [← ip_toList]
      exact kk r hp' H' locs' ⟨hL, hP', hD', hS'⟩ hk'
set_option maxHeartbeats 4000000 in
theorem ip_gsS {l : Launch} {R rm : Room} {own : String} {idx n : Nat} {y : MethodName} {bytes : ByteArray} {nL' : Nat} {ret : Option FieldType} {C : ip_C} (hM : ip_Met l y bytes nL' ret rm C) (hw : ∀ w ∈ ip_wS own idx y bytes nL' ret, w ∈ ip_ws) (hn : ip_nm y n) (hR : ip_rR rm R nL') : ip_GS l R own (idx, n, 0, C) := by
  intro p e s m args below meth c cells slots Q cc nL D ad dA A hx hb hml hown hts hK hN hA hc1 hc2 pc L As rest hp ls H locs K' hrel hlen hcat hcase hC kk
  obtain ⟨hL, hP, hD, hS⟩ := id hrel
  simp only at hlen hcase hC
  rcases hcase with ⟨-, hdg⟩ | ⟨q, as, cj, fs, hk, -⟩
  · have hF := ip_freeA hD hA hS
    have hcode : Cond.code y bytes nL' ret ∈ ip_ws := hw _ (by simp [ip_wS])
    rw [show ((As.reverse ++ rest).map (ip_cv ad)) = (As.map (ip_cv ad)).reverse ++ rest.map (ip_cv ad) by simp]
    refine ip_back (va_runS (As := As.map (ip_cv ad)) (rest := rest.map (ip_cv ad)) ⟨hx, hb, hml, hown, hts⟩ (hM D dA As hp K' hC ad H.size) (va_cwS n hts ?_ rfl hR.1 hR.2.1 ⟨hn.1, hn.2.1, hn.2.2⟩ ⟨hR.2.2.1, hR.2.2.2⟩) ⟨ip_blind, fun U hU hW => ⟨rfl, by rw [hU], by rw [hU]; exact hP, va_K.moved hW.alike hK, hD.weaken (fun _ _ _ _ => trivial), ip_N.warm hW hN⟩⟩ rfl (by simpa using hlen) hL.size rfl (lv_room (by rw [ip_catSum]; exact hcat)) hdg ⟨hc1, hc2⟩) hS hF (fun r hp' H' locs' hk' hP' hD' hS' => ?_)
    · intro w hw'
      simp only [va_wsS, List.mem_append] at hw'
      rcases hw' with h | h
      · refine ip_good (hw w ?_)
        simp only [ip_wS, List.mem_cons, List.not_mem_nil, or_false] at h ⊢
        rcases h with h | h | h <;> simp [h]
      · exact ip_goodC hcode w h
    · rw [← ip_toList]
      exact kk r hp' H' locs' ⟨hL, hP', hD', hS'⟩ hk'
  · cases hk
set_option maxHeartbeats 4000000 in
theorem ip_gsN {l : Launch} {R rm : Room} {own : String} {idx n : Nat} {y : MethodName} {bytes : ByteArray} {nL' : Nat} {ret : Option FieldType} {C : ip_C} (host : String) (hM : ip_Met l y bytes nL' ret rm C) (hl : ∀ U, ip_N U → va_Nw (.methodLinkNest own idx y host) U) (hw : ∀ w ∈ ip_wN y bytes nL' ret, w ∈ ip_ws) (hn : ip_nm y n) (hR : ip_rR rm R nL') : ip_GS l R own (idx, n, 0, C) := by
  intro p e s m args below meth c cells slots Q cc nL D ad dA A hx hb hml hown hts hK hN hA hc1 hc2 pc L As rest hp ls H locs K' hrel hlen hcat hcase hC kk
  obtain ⟨hL, hP, hD, hS⟩ := id hrel
  simp only at hlen hcase hC
  rcases hcase with ⟨-, hdg⟩ | ⟨q, as, cj, fs, hk, -⟩
  · have hF := ip_freeA hD hA hS
    have hcode : Cond.code y bytes nL' ret ∈ ip_ws := hw _ (by simp [ip_wN])
    rw [show ((As.reverse ++ rest).map (ip_cv ad)) = (As.map (ip_cv ad)).reverse ++ rest.map (ip_cv ad) by simp]
    refine ip_back (va_runSN (host := host) (As := As.map (ip_cv ad)) (rest := rest.map (ip_cv ad)) ⟨hx, hb, hml, hown, hts⟩ (hM D dA As hp K' hC ad H.size) ⟨va_cnB n hts (ip_goodC hcode) rfl hR.1 hR.2.1 (hl s hN) (hts _ (hw _ (by simp [ip_wN]))) ⟨hn.1, hn.2.1, hn.2.2⟩ ⟨hR.2.2.1, hR.2.2.2⟩, hts _ (hw _ (by simp [ip_wN])), trivial⟩ ⟨ip_blind, fun U hU hW => ⟨rfl, by rw [hU], by rw [hU]; exact hP, va_K.moved hW.alike hK, hD.weaken (fun _ _ _ _ => trivial), ip_N.warm hW hN⟩⟩ rfl (by simpa using hlen) hL.size rfl (lv_room (by rw [ip_catSum]; exact hcat)) hdg ⟨hc1, hc2⟩) hS hF (fun r hp' H' locs' hk' hP' hD' hS' => ?_)
    rw [← ip_toList]
    exact kk r hp' H' locs' ⟨hL, hP', hD', hS'⟩ hk'
  · cases hk

def ip_rm (d : Nat) : Room := { frames := d, cells := 0, slots := 0, locals := 40 * d }
/-- what is to be shown of a method: its contract is enough for its walk -/
def ip_Pf (fl : List ip_F) (cn : List (Nat × Value)) (cs : List ip_G) (rt : Option FieldType) (tb : List ip_I) (nL : Nat) (C : ip_C) : Prop := ∀ (vs : List Value) (hp : ip_H) (K : ip_K), C vs hp K → (ip_la vs).length ≤ nL ∧ ∃ I : Nat → Nat → ip_P, ip_wp fl cn cs rt tb I K 400 none false tb (ip_L0 nL vs) [] hp ∧ ∀ (pc k : Nat) (L : ip_L) (st : List Value) (hp : ip_H), I pc k L st hp → ip_wp fl cn cs rt tb I K 400 (some k) true (ip_find pc tb) L st hp
theorem ip_pf0 {fl : List ip_F} {cn : List (Nat × Value)} {cs : List ip_G} {rt : Option FieldType} {tb : List ip_I} {nL : Nat} {C : ip_C} (h : ∀ (vs : List Value) (hp : ip_H) (K : ip_K), C vs hp K → (ip_la vs).length ≤ nL ∧ ip_wp fl cn cs rt tb (fun _ _ _ _ _ => False) K 400 none false tb (ip_L0 nL vs) [] hp) : ip_Pf fl cn cs rt tb nL C :=
  fun vs hp K hc => ⟨(h vs hp K hc).1, _, (h vs hp K hc).2, fun _ _ _ _ _ q => q.elim⟩
theorem ip_fl0 {own : String} : ip_flOk own [] := fun _ h => absurd h List.not_mem_nil
theorem ip_cn0 {own : String} : ip_cnOk own [] := fun _ h => absurd h List.not_mem_nil
theorem ip_cs0 {l : Launch} {R : Room} {own : String} : ∀ g ∈ ([] : List ip_G), ip_GS l R own g := fun _ h => absurd h List.not_mem_nil
theorem ip_cs1 {l : Launch} {R : Room} {own : String} {g : ip_G} {cs : List ip_G} (h : ip_GS l R own g) (h2 : ∀ g ∈ cs, ip_GS l R own g) : ∀ x ∈ g :: cs, ip_GS l R own x := List.forall_mem_cons.mpr ⟨h, h2⟩
