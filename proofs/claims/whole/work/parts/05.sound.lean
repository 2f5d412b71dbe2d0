/-! ===== what an instruction of the abstract machine asks for is enough for the machine ===== -/
def ip_tys (dA : Nat → Nat) : List (ClassId × FieldType) := [(dA 0, .int), (dA 1, .boolean), (dA 2, .object "ThunderAsks$Sheet"), (dA 3, .object "ThunderAsks$Man")]
def ip_rel (D : va_G) (ad dA : Nat → Nat) (A : Nat → Prop) (nL : Nat) (s : State) (L : ip_L) (hp : ip_H) (ls : Array Slot) (H : Heap) (locs : List Loc) : Prop := ip_Lh ad nL ls L ∧ va_P D vwCl (ip_cw ad dA hp) H ∧ va_D A (ip_cw ad dA hp) ∧ va_S A s.heap H locs
def ip_W (p : Program) (l : Launch) (e : Env) (R : Room) (s : State) (m : MethodId) (args : Array Value) (below : List Frame) (meth : Method) (c : Code) (cells slots : Nat) (Q : State → Prop) (nL : Nat) (D : va_G) (ad dA : Nat → Nat) (A : Nat → Prop) (pc : Nat) (P : ip_P) : Prop :=
  ∀ (L : ip_L) (st : List Value) (hp : ip_H) (ls : Array Slot) (H : Heap) (locs : List Loc), ip_rel D ad dA A nL s L hp ls H locs → P L st hp → W p l e R s m args below meth c H locs cells slots Q (F0 m pc ls (st.map (ip_cv ad)))
/-- a call's entry is sound -/
def ip_CS (p : Program) (l : Launch) (e : Env) (R : Room) (s : State) (m : MethodId) (args : Array Value) (below : List Frame) (meth : Method) (c : Code) (cells slots : Nat) (Q : State → Prop) (cc : ByteArray) (nL : Nat) (D : va_G) (ad dA : Nat → Nat) (A : Nat → Prop) (g : ip_G) : Prop :=
  ∀ (pc : Nat) (L : ip_L) (As rest : List Value) (hp : ip_H) (ls : Array Slot) (H : Heap) (locs : List Loc) (K' : ip_K), ip_rel D ad dA A nL s L hp ls H locs → As.length = g.2.1 → (rest.map fun v => v.category).sum ≤ 8 →
    ((g.2.2.1 = 0 ∧ decode cc pc = .ok (.invokestatic g.1, 3)) ∨ (∃ (q : Nat) (as : List Value) (ci : Nat) (fs : List Value), g.2.2.1 = ci + 1 ∧ As = .ref q :: as ∧ hp[q]? = some (.inr (ci, fs)) ∧ decode cc pc = .ok (.invokevirtual g.1, 3))) →
    g.2.2.2 As hp K' →
    (∀ (r : Option Value) (hp' : ip_H) (H' : Heap) (locs' : List Loc), ip_rel D ad dA A nL s L hp' ls H' locs' → K' r hp' → W p l e R s m args below meth c H' locs' cells slots Q (F0 m (pc + 3) ls ((r.toList ++ rest).map (ip_cv ad)))) →
    W p l e R s m args below meth c H locs cells slots Q (F0 m pc ls ((As.reverse ++ rest).map (ip_cv ad)))
theorem ip_gf_s {fl : List ip_F} {i : Nat} {x : ip_F} (h : ip_gf fl i = some x) : x ∈ fl ∧ x.1 = i := by
  induction fl with
  | nil => cases h
  | cons f r ih =>
    simp only [ip_gf] at h
    split at h
    · cases h
      exact ⟨List.mem_cons_self, by simpa using (by assumption : (x.1 == i) = true)⟩
    · exact ⟨List.mem_cons_of_mem _ (ih h).1, (ih h).2⟩
theorem ip_gv_s {cn : List (Nat × Value)} {i : Nat} {v : Value} (h : ip_gv cn i = some v) : (i, v) ∈ cn := by
  induction cn with
  | nil => cases h
  | cons f r ih =>
    simp only [ip_gv] at h
    split at h
    · cases h
      have hi : f.1 = i := by simpa using (by assumption : (f.1 == i) = true)
      rw [← hi]
      exact List.mem_cons_self
    · exact List.mem_cons_of_mem _ (ih h)
theorem ip_gc_s {cs : List ip_G} {i : Nat} {x : ip_G} (h : ip_gc cs i = some x) : x ∈ cs ∧ x.1 = i := by
  induction cs with
  | nil => cases h
  | cons f r ih =>
    simp only [ip_gc] at h
    split at h
    · cases h
      exact ⟨List.mem_cons_self, by simpa using (by assumption : (x.1 == i) = true)⟩
    · exact ⟨List.mem_cons_of_mem _ (ih h).1, (ih h).2⟩
theorem ip_ts_s {jp : Nat → Prop} {pc : Nat} {x : Int} {d : Prop} : ∀ {os : List Int} {lo : Int}, ip_ts jp pc x d lo os →
    ((x < lo ∨ lo + os.length ≤ x) ∧ d) ∨ ∃ o, os[(x - lo).toNat]? = some o ∧ lo ≤ x ∧ x < lo + os.length ∧ jp ((pc : Int) + o).toNat
  | [], lo, h => Or.inl ⟨by simp; omega, h (by omega)⟩
  | o :: os, lo, h => by
    by_cases hx : x = lo
    · exact Or.inr ⟨o, by rw [hx]; simp, by omega, by simp; omega, h.1 hx⟩
    · rcases ip_ts_s (h.2 hx) with ⟨a, b⟩ | ⟨o', a, b, c, d'⟩
      · refine Or.inl ⟨?_, b⟩
        simp only [List.length_cons]
        rcases a with a | a
        · left; omega
        · right; omega
      · refine Or.inr ⟨o', ?_, by omega, by simp only [List.length_cons]; omega, d'⟩
        have e : (x - lo).toNat = (x - (lo + 1)).toNat + 1 := by omega
        rw [e]
        simpa using a
theorem ip_lk_s {jp : Nat → Prop} {pc : Nat} {x d : Int} : ∀ {ps : List (Int × Int)}, ip_lk jp pc x d ps → jp ((pc : Int) + Op.lookupswitch.offset ps d x).toNat
  | [], h => h
  | (a, o) :: ps, h => by
    rw [Op.lookupswitch.offset_cons]
    by_cases hx : a = x
    · rw [if_pos hx]; exact h.1 hx
    · rw [if_neg hx]; exact ip_lk_s (h.2 hx)
theorem ip_lk_in : ∀ (ps : List (Int × Int)) (d x : Int) (P : Int → Prop), P d → (∀ q ∈ ps, P q.2) → P (Op.lookupswitch.offset ps d x)
  | [], d, x, P, h, _ => h
  | (a, o) :: ps, d, x, P, h, h2 => by
    rw [Op.lookupswitch.offset_cons]
    by_cases hx : a = x
    · rw [if_pos hx]; exact h2 _ List.mem_cons_self
    · rw [if_neg hx]; exact ip_lk_in ps d x P h (fun q hq => h2 q (List.mem_cons_of_mem _ hq))
theorem ip_two {t : Nat} (h : t < 2) : t = 0 ∨ t = 1 := by omega
theorem ip_b1 {a b : Nat} (h : (a == b) = true) : a = b := by simpa using h
set_option maxHeartbeats 4000000 in
set_option maxRecDepth 100000 in
theorem ip_x_ok {p : Program} {l : Launch} {e : Env} {R : Room} {s : State} {m : MethodId} {args : Array Value} {below : List Frame} {meth : Method} {c : Code} {cells slots : Nat} {cc : ByteArray} {nL : Nat} {D : va_G} {ad dA : Nat → Nat} {A : Nat → Prop} {own : String}
    {fl : List ip_F} {cn : List (Nat × Value)} {cs : List ip_G} {rt : Option FieldType} {K : ip_K} {Qc : Array Value → State → Outcome → State → Prop}
    (hx : p.tables.exec = Jvm.exec) (hb : c.code = cc) (hr : meth.sig.returnType = rt) (hlocks : meth.locks = false) (hown : s.vm.findClass own = some m.cls) (hts : ∀ w ∈ ip_ws, w.before args s = true) (hK : va_K D vwCl (ip_tys dA) s)
    (hfl : ip_flOk own fl) (hcn : ip_cnOk own cn) (hcs : ∀ g ∈ cs, ip_CS p l e R s m args below meth c cells slots (MQ below Qc args s cells slots A) cc nL D ad dA A g)
    (hret : ∀ (r : Option Value) (hp : ip_H) (H : Heap) (locs : List Loc), va_P D vwCl (ip_cw ad dA hp) H → va_D A (ip_cw ad dA hp) → va_S A s.heap H locs → K r hp → ∀ t : State, t.heap = H → s.WarmedH t.vm → Qc args s (.returned (r.map (ip_cv ad))) t)
    {ins : Instr} {len : Nat} {ar : Int32} {tg pc : Nat} {nx : ip_P} {jp : Nat → ip_P} (hdg : decode cc pc = .ok (ins, len)) (hnr : ip_nr ins len ar tg pc = true)
    (hnx : ip_W p l e R s m args below meth c cells slots (MQ below Qc args s cells slots A) nL D ad dA A (pc + len) nx) (hjp : ∀ t, ip_W p l e R s m args below meth c cells slots (MQ below Qc args s cells slots A) nL D ad dA A t (jp t)) :
    ip_W p l e R s m args below meth c cells slots (MQ below Qc args s cells slots A) nL D ad dA A pc (ip_x fl cn cs rt K ins ar tg pc nx jp) := by
  intro L st hp ls H locs hrel h
  obtain ⟨hL, hP, hD, hS⟩ := id hrel
  have hcalls : ∀ (g : Option ip_G) (i : Nat) (virt : Bool), ip_gc cs i = g → (decode cc pc = .ok (if virt then .invokevirtual i else .invokestatic i, 3)) → len = 3 → ip_call g virt nx L st hp → W p l e R s m args below meth c H locs cells slots (MQ below Qc args s cells slots A) (F0 m pc ls (st.map (ip_cv ad))) := by
    intro g i virt hg hdg hlen h
    subst hlen
    cases g with
    | none => exact h.elim
    | some g =>
      obtain ⟨gi, n, kd, C⟩ := g
      obtain ⟨hmem, hi⟩ := ip_gc_s hg
      simp only at hi
      subst hi
      obtain ⟨hw, h⟩ := ip_when_s h
      simp only [Bool.and_eq_true] at hw
      have hn : n ≤ st.length := Nat.le_of_ble_eq_true hw.1
      have hcat := Nat.le_of_ble_eq_true hw.2
      have hst : (st.take n).reverse.reverse ++ st.drop n = st := by rw [List.reverse_reverse, List.take_append_drop]
      have hlen : (st.take n).reverse.length = n := by simp; omega
      cases virt with
      | false =>
        obtain ⟨hk, h⟩ := ip_when_s h
        have := hcs _ hmem pc L (st.take n).reverse (st.drop n) hp ls H locs _ hrel hlen hcat (Or.inl ⟨ip_b1 hk, hdg⟩) h (fun r hp' H' locs' hrel' hk' => hnx _ _ _ _ _ _ hrel' hk')
        rwa [hst] at this
      | true =>
        simp only at h
        split at h
        · rename_i q as hq
          obtain ⟨ci, fs, ho, h⟩ := ip_ob_s h
          obtain ⟨hk, h⟩ := ip_when_s h
          rw [← hq] at h
          have := hcs _ hmem pc L (st.take n).reverse (st.drop n) hp ls H locs _ hrel hlen hcat (Or.inr ⟨q, as, ci, fs, ip_b1 hk, hq, ho, hdg⟩) h (fun r hp' H' locs' hrel' hk' => hnx _ _ _ _ _ _ hrel' hk')
          rwa [hst] at this
        · exact h.elim
  obtain ⟨hLn, lv, hLv, hLm⟩ := id hL
  have hst1 : ∀ (i : Nat) (v : Value), ∀ (ls' : Array Slot), lv_has ls' nL ((i, ip_cv ad v) :: lv.filter (fun q => !(q.1 == i) && !(q.1 + 1 == i && q.2.category == 2))) → ip_rel D ad dA A nL s (ip_st1 L i v) hp ls' H locs := fun i v ls' h => ⟨ip_Lh.st1 (ls := ls) hLn hLm h, hP, hD, hS⟩
  have hst2 : ∀ (i : Nat) (v : Value), ∀ (ls' : Array Slot), lv_has ls' nL ((i, ip_cv ad v) :: lv.filter (fun q => !(q.1 == i) && (!(q.1 == i + 1) && !(q.1 + 1 == i && q.2.category == 2)))) → ip_rel D ad dA A nL s (ip_st2 L i v) hp ls' H locs := fun i v ls' h => ⟨ip_Lh.st2 (ls := ls) hLn hLm h, hP, hD, hS⟩
  cases ins with
  | iconst n =>
    simp only [ip_nr, Bool.and_eq_true, beq_iff_eq] at hnr
    obtain ⟨rfl, har⟩ := hnr
    exact lv_iconst hx hb hdg har (hnx _ _ _ _ _ _ hrel h)
  | bipush n =>
    simp only [ip_nr, Bool.and_eq_true, beq_iff_eq] at hnr
    obtain ⟨rfl, har⟩ := hnr
    exact lv_bipush hx hb hdg har (hnx _ _ _ _ _ _ hrel h)
  | sipush n =>
    simp only [ip_nr, Bool.and_eq_true, beq_iff_eq] at hnr
    obtain ⟨rfl, har⟩ := hnr
    exact lv_sipush hx hb hdg har (hnx _ _ _ _ _ _ hrel h)
  | lconst n =>
    obtain rfl := ip_b1 hnr
    exact lv_lconst hx hb hdg rfl (hnx _ _ _ _ _ _ hrel h)
  | ldc_w i =>
    obtain rfl := ip_b1 hnr
    simp only [ip_x] at h
    split at h
    · rename_i v hv
      exact lv_ldcw hx hb hown (hts _ (hcn _ (ip_gv_s hv))) hdg (hnx _ _ _ _ _ _ hrel h)
    · exact h.elim
  | ldc2_w i =>
    obtain rfl := ip_b1 hnr
    simp only [ip_x] at h
    split at h
    · rename_i v hv
      exact lv_ldc2 hx hb hown (hts _ (hcn _ (ip_gv_s hv))) hdg (hnx _ _ _ _ _ _ hrel h)
    · exact h.elim
  | aconst_null =>
    obtain rfl := ip_b1 hnr
    exact lv_null hx hb hdg (hnx _ _ _ _ _ _ hrel h)
  | iload_n k =>
    obtain rfl := ip_b1 hnr
    obtain ⟨x, hl, h⟩ := ip_ldi_s h
    exact lv_iload_n hx hb hdg rfl (hL.at hl) (hnx _ _ _ _ _ _ hrel h)
  | iload k =>
    obtain rfl := ip_b1 hnr
    obtain ⟨x, hl, h⟩ := ip_ldi_s h
    exact lv_iload hx hb hdg (hL.at hl) (hnx _ _ _ _ _ _ hrel h)
  | lload_n k =>
    obtain rfl := ip_b1 hnr
    obtain ⟨x, hl, h⟩ := ip_ldl_s h
    exact lv_lload_n hx hb hdg rfl (hL.at hl) (hnx _ _ _ _ _ _ hrel h)
  | lload k =>
    obtain rfl := ip_b1 hnr
    obtain ⟨x, hl, h⟩ := ip_ldl_s h
    exact lv_lload hx hb hdg (hL.at hl) (hnx _ _ _ _ _ _ hrel h)
  | aload_n k =>
    obtain rfl := ip_b1 hnr
    have h : ip_lda L k (fun v => nx L (v :: st) hp) := h
    obtain ⟨v, hl, h, hv⟩ := ip_lda_s h
    rcases hv with rfl | ⟨a, rfl⟩
    · exact lv_aload_nN hx hb hdg rfl (hL.at hl) (hnx _ _ _ _ _ _ hrel h)
    · exact lv_aload_n hx hb hdg rfl (hL.at hl) (hnx _ _ _ _ _ _ hrel h)
  | aload k =>
    obtain rfl := ip_b1 hnr
    have h : ip_lda L k (fun v => nx L (v :: st) hp) := h
    obtain ⟨v, hl, h, hv⟩ := ip_lda_s h
    rcases hv with rfl | ⟨a, rfl⟩
    · exact lv_aloadN hx hb hdg (hL.at hl) (hnx _ _ _ _ _ _ hrel h)
    · exact lv_aload hx hb hdg (hL.at hl) (hnx _ _ _ _ _ _ hrel h)
  | istore_n k =>
    obtain rfl := ip_b1 hnr
    obtain ⟨x, r, rfl, h⟩ := ip_i1_s h
    obtain ⟨hk, h⟩ := ip_when_s h
    exact lv_istore_n hx hb hdg rfl hLv (by rw [← hLn]; exact Nat.le_of_ble_eq_true hk) rfl (fun ls' hl' => hnx _ _ _ _ _ _ (hst1 k (.int x) ls' hl') h)
  | istore k =>
    obtain rfl := ip_b1 hnr
    obtain ⟨x, r, rfl, h⟩ := ip_i1_s h
    obtain ⟨hk, h⟩ := ip_when_s h
    exact lv_istore hx hb hdg hLv (by rw [← hLn]; exact Nat.le_of_ble_eq_true hk) rfl (fun ls' hl' => hnx _ _ _ _ _ _ (hst1 k (.int x) ls' hl') h)
  | lstore_n k =>
    obtain rfl := ip_b1 hnr
    obtain ⟨x, r, rfl, h⟩ := ip_l1_s h
    obtain ⟨hk, h⟩ := ip_when_s h
    exact lv_lstore_n hx hb hdg rfl hLv (by rw [← hLn]; exact Nat.le_of_ble_eq_true hk) rfl (fun ls' hl' => hnx _ _ _ _ _ _ (hst2 k (.long x) ls' hl') h)
  | lstore k =>
    obtain rfl := ip_b1 hnr
    obtain ⟨x, r, rfl, h⟩ := ip_l1_s h
    obtain ⟨hk, h⟩ := ip_when_s h
    exact lv_lstore hx hb hdg hLv (by rw [← hLn]; exact Nat.le_of_ble_eq_true hk) rfl (fun ls' hl' => hnx _ _ _ _ _ _ (hst2 k (.long x) ls' hl') h)
  | astore_n k =>
    obtain rfl := ip_b1 hnr
    have h : ip_a1 st (fun v r => ip_when (Nat.blt k L.length) (nx (ip_st1 L k v) r hp)) := h
    obtain ⟨v, r, rfl, h, hv⟩ := ip_a1_s h
    obtain ⟨hk, h⟩ := ip_when_s h
    rcases hv with rfl | ⟨a, rfl⟩
    · exact lv_astore_nN hx hb hdg rfl hLv (by rw [← hLn]; exact Nat.le_of_ble_eq_true hk) rfl (fun ls' hl' => hnx _ _ _ _ _ _ (hst1 k .null ls' hl') h)
    · exact lv_astore_n hx hb hdg rfl hLv (by rw [← hLn]; exact Nat.le_of_ble_eq_true hk) rfl (fun ls' hl' => hnx _ _ _ _ _ _ (hst1 k (.ref a) ls' hl') h)
  | astore k =>
    obtain rfl := ip_b1 hnr
    have h : ip_a1 st (fun v r => ip_when (Nat.blt k L.length) (nx (ip_st1 L k v) r hp)) := h
    obtain ⟨v, r, rfl, h, hv⟩ := ip_a1_s h
    obtain ⟨hk, h⟩ := ip_when_s h
    rcases hv with rfl | ⟨a, rfl⟩
    · exact lv_astoreN hx hb hdg hLv (by rw [← hLn]; exact Nat.le_of_ble_eq_true hk) rfl (fun ls' hl' => hnx _ _ _ _ _ _ (hst1 k .null ls' hl') h)
    · exact lv_astore hx hb hdg hLv (by rw [← hLn]; exact Nat.le_of_ble_eq_true hk) rfl (fun ls' hl' => hnx _ _ _ _ _ _ (hst1 k (.ref a) ls' hl') h)
  | iinc k n =>
    simp only [ip_nr, Bool.and_eq_true, beq_iff_eq] at hnr
    obtain ⟨rfl, har⟩ := hnr
    obtain ⟨x, hl, h⟩ := ip_ldi_s h
    obtain ⟨hk, h⟩ := ip_when_s h
    obtain ⟨j, hj⟩ := List.getElem?_of_mem (hLm _ _ hl)
    exact lv_iinc hx hb hdg hLv hj (by rw [har]) (by rw [← hLn]; exact Nat.le_of_ble_eq_true hk) rfl (fun ls' hl' => hnx _ _ _ _ _ _ (hst1 k (.int (x + ar)) ls' hl') h)
  | iadd => obtain rfl := ip_b1 hnr; obtain ⟨x, y, r, rfl, h⟩ := ip_i2_s h; exact lv_iadd hx hb hdg (hnx _ _ _ _ _ _ hrel h)
  | isub => obtain rfl := ip_b1 hnr; obtain ⟨x, y, r, rfl, h⟩ := ip_i2_s h; exact lv_isub hx hb hdg (hnx _ _ _ _ _ _ hrel h)
  | imul => obtain rfl := ip_b1 hnr; obtain ⟨x, y, r, rfl, h⟩ := ip_i2_s h; exact lv_imul hx hb hdg (hnx _ _ _ _ _ _ hrel h)
  | iand => obtain rfl := ip_b1 hnr; obtain ⟨x, y, r, rfl, h⟩ := ip_i2_s h; exact lv_iand hx hb hdg (hnx _ _ _ _ _ _ hrel h)
  | ior => obtain rfl := ip_b1 hnr; obtain ⟨x, y, r, rfl, h⟩ := ip_i2_s h; exact lv_ior hx hb hdg (hnx _ _ _ _ _ _ hrel h)
  | ixor => obtain rfl := ip_b1 hnr; obtain ⟨x, y, r, rfl, h⟩ := ip_i2_s h; exact lv_ixor hx hb hdg (hnx _ _ _ _ _ _ hrel h)
  | idiv => obtain rfl := ip_b1 hnr; obtain ⟨x, y, r, rfl, h0, h⟩ := ip_i2_s h; exact lv_idiv hx hb hdg h0 (hnx _ _ _ _ _ _ hrel h)
  | irem => obtain rfl := ip_b1 hnr; obtain ⟨x, y, r, rfl, h0, h⟩ := ip_i2_s h; exact lv_irem hx hb hdg h0 (hnx _ _ _ _ _ _ hrel h)
  | ishl => obtain rfl := ip_b1 hnr; obtain ⟨x, y, r, rfl, h⟩ := ip_i2_s h; exact lv_ishl hx hb hdg (hnx _ _ _ _ _ _ hrel h)
  | ishr => obtain rfl := ip_b1 hnr; obtain ⟨x, y, r, rfl, h⟩ := ip_i2_s h; exact lv_ishr hx hb hdg (hnx _ _ _ _ _ _ hrel h)
  | iushr => obtain rfl := ip_b1 hnr; obtain ⟨x, y, r, rfl, h⟩ := ip_i2_s h; exact lv_iushr hx hb hdg rfl (hnx _ _ _ _ _ _ hrel h)
  | ladd => obtain rfl := ip_b1 hnr; obtain ⟨x, y, r, rfl, h⟩ := ip_l2_s h; exact lv_ladd hx hb hdg (hnx _ _ _ _ _ _ hrel h)
  | lsub => obtain rfl := ip_b1 hnr; obtain ⟨x, y, r, rfl, h⟩ := ip_l2_s h; exact lv_lsub hx hb hdg (hnx _ _ _ _ _ _ hrel h)
  | lmul => obtain rfl := ip_b1 hnr; obtain ⟨x, y, r, rfl, h⟩ := ip_l2_s h; exact lv_lmul hx hb hdg (hnx _ _ _ _ _ _ hrel h)
  | land => obtain rfl := ip_b1 hnr; obtain ⟨x, y, r, rfl, h⟩ := ip_l2_s h; exact lv_land hx hb hdg (hnx _ _ _ _ _ _ hrel h)
  | lor => obtain rfl := ip_b1 hnr; obtain ⟨x, y, r, rfl, h⟩ := ip_l2_s h; exact lv_lor hx hb hdg (hnx _ _ _ _ _ _ hrel h)
  | ldiv => obtain rfl := ip_b1 hnr; obtain ⟨x, y, r, rfl, h0, h⟩ := ip_l2_s h; exact lv_ldiv hx hb hdg h0 (hnx _ _ _ _ _ _ hrel h)
  | lrem => obtain rfl := ip_b1 hnr; obtain ⟨x, y, r, rfl, h0, h⟩ := ip_l2_s h; exact lv_lrem hx hb hdg h0 (hnx _ _ _ _ _ _ hrel h)
  | lshl => obtain rfl := ip_b1 hnr; obtain ⟨x, y, r, rfl, h⟩ := ip_li_s h; exact lv_lshl hx hb hdg rfl (hnx _ _ _ _ _ _ hrel h)
  | lshr => obtain rfl := ip_b1 hnr; obtain ⟨x, y, r, rfl, h⟩ := ip_li_s h; exact lv_lshr hx hb hdg rfl (hnx _ _ _ _ _ _ hrel h)
  | lushr => obtain rfl := ip_b1 hnr; obtain ⟨x, y, r, rfl, h⟩ := ip_li_s h; exact lv_lushr hx hb hdg rfl (hnx _ _ _ _ _ _ hrel h)
  | lcmp => obtain rfl := ip_b1 hnr; obtain ⟨x, y, r, rfl, h⟩ := ip_l2_s h; exact W.lcmp hx hb hdg (hnx _ _ _ _ _ _ hrel h)
  | i2l => obtain rfl := ip_b1 hnr; obtain ⟨x, r, rfl, h⟩ := ip_i1_s h; exact lv_i2l hx hb hdg rfl (hnx _ _ _ _ _ _ hrel h)
  | l2i => obtain rfl := ip_b1 hnr; obtain ⟨x, r, rfl, h⟩ := ip_l1_s h; exact lv_l2i hx hb hdg rfl (hnx _ _ _ _ _ _ hrel h)
  | i2b => obtain rfl := ip_b1 hnr; obtain ⟨x, r, rfl, h⟩ := ip_i1_s h; exact lv_i2b hx hb hdg rfl (hnx _ _ _ _ _ _ hrel h)
  | i2s => obtain rfl := ip_b1 hnr; obtain ⟨x, r, rfl, h⟩ := ip_i1_s h; exact lv_i2s hx hb hdg rfl (hnx _ _ _ _ _ _ hrel h)
  | dup =>
    obtain rfl := ip_b1 hnr
    simp only [ip_x] at h
    split at h
    · rename_i v r
      obtain ⟨hk, h⟩ := ip_when_s h
      exact lv_dup hx hb hdg (by rw [ip_cv_cat]; exact Nat.eq_of_beq_eq_true hk) (hnx _ _ _ _ _ _ hrel h)
    · exact h.elim
  | dup2 =>
    obtain rfl := ip_b1 hnr
    simp only [ip_x] at h
    split at h
    · rename_i v w r
      obtain ⟨hk, h⟩ := ip_when_s h
      simp only [Bool.and_eq_true] at hk
      exact lv_dup2_11 hx hb hdg (by rw [ip_cv_cat]; exact Nat.eq_of_beq_eq_true hk.1) (by rw [ip_cv_cat]; exact Nat.eq_of_beq_eq_true hk.2) (hnx _ _ _ _ _ _ hrel h)
    · exact h.elim
  | ifCond c o =>
    simp only [ip_nr, Bool.and_eq_true, beq_iff_eq] at hnr
    obtain ⟨rfl, har⟩ := hnr
    obtain ⟨x, r, rfl, h⟩ := ip_i1_s h
    cases c with
    | eq => exact lv_if_eq hx hb hdg har (fun q => hjp _ _ _ _ _ _ _ hrel (h.1 q)) (fun q => hnx _ _ _ _ _ _ hrel (h.2 q))
    | ne => exact lv_if_ne hx hb hdg har (fun q => hjp _ _ _ _ _ _ _ hrel (h.1 q)) (fun q => hnx _ _ _ _ _ _ hrel (h.2 q))
    | lt => exact lv_if_lt hx hb hdg har (fun q => hjp _ _ _ _ _ _ _ hrel (h.1 q)) (fun q => hnx _ _ _ _ _ _ hrel (h.2 q))
    | ge => exact lv_if_ge hx hb hdg har (fun q => hjp _ _ _ _ _ _ _ hrel (h.1 q)) (fun q => hnx _ _ _ _ _ _ hrel (h.2 q))
    | gt => exact lv_if_gt hx hb hdg har (fun q => hjp _ _ _ _ _ _ _ hrel (h.1 q)) (fun q => hnx _ _ _ _ _ _ hrel (h.2 q))
    | le => exact lv_if_le hx hb hdg har (fun q => hjp _ _ _ _ _ _ _ hrel (h.1 q)) (fun q => hnx _ _ _ _ _ _ hrel (h.2 q))
  | if_icmp c o =>
    simp only [ip_nr, Bool.and_eq_true, beq_iff_eq] at hnr
    obtain ⟨rfl, har⟩ := hnr
    obtain ⟨x, y, r, rfl, h⟩ := ip_i2_s h
    cases c with
    | eq => exact lv_icmp_eq hx hb hdg har (fun q => hjp _ _ _ _ _ _ _ hrel (h.1 q)) (fun q => hnx _ _ _ _ _ _ hrel (h.2 q))
    | ne => exact lv_icmp_ne hx hb hdg har (fun q => hjp _ _ _ _ _ _ _ hrel (h.1 q)) (fun q => hnx _ _ _ _ _ _ hrel (h.2 q))
    | lt => exact lv_icmp_lt hx hb hdg har (fun q => hjp _ _ _ _ _ _ _ hrel (h.1 q)) (fun q => hnx _ _ _ _ _ _ hrel (h.2 q))
    | ge => exact lv_icmp_ge hx hb hdg har (fun q => hjp _ _ _ _ _ _ _ hrel (h.1 q)) (fun q => hnx _ _ _ _ _ _ hrel (h.2 q))
    | gt => exact lv_icmp_gt hx hb hdg har (fun q => hjp _ _ _ _ _ _ _ hrel (h.1 q)) (fun q => hnx _ _ _ _ _ _ hrel (h.2 q))
    | le => exact lv_icmp_le hx hb hdg har (fun q => hjp _ _ _ _ _ _ _ hrel (h.1 q)) (fun q => hnx _ _ _ _ _ _ hrel (h.2 q))
  | ifnull o =>
    simp only [ip_nr, Bool.and_eq_true, beq_iff_eq] at hnr
    obtain ⟨rfl, har⟩ := hnr
    simp only [ip_x, ip_nu] at h
    split at h
    · exact lv_ifnull hx hb hdg (hnx _ _ _ _ _ _ hrel h)
    · exact lv_ifnullN hx hb hdg har (hjp _ _ _ _ _ _ _ hrel h)
    · exact h.elim
  | ifnonnull o =>
    simp only [ip_nr, Bool.and_eq_true, beq_iff_eq] at hnr
    obtain ⟨rfl, har⟩ := hnr
    simp only [ip_x, ip_nu] at h
    split at h
    · exact lv_ifnonnull hx hb hdg har (hjp _ _ _ _ _ _ _ hrel h)
    · exact lv_ifnonnullN hx hb hdg (hnx _ _ _ _ _ _ hrel h)
    · exact h.elim
  | goto o =>
    simp only [ip_nr, Bool.and_eq_true, beq_iff_eq] at hnr
    obtain ⟨rfl, har⟩ := hnr
    exact lv_goto hx hb hdg har (hjp _ _ _ _ _ _ _ hrel h)
  | tableswitch d lo hi os =>
    simp only [ip_nr, Bool.and_eq_true, decide_eq_true_eq, List.all_eq_true] at hnr
    obtain ⟨⟨hd, ho⟩, hh⟩ := hnr
    obtain ⟨x, r, rfl, h⟩ := ip_i1_s h
    rcases ip_ts_s h with ⟨a, b⟩ | ⟨o', a, b, c', d'⟩
    · exact lv_tableOut hx hb hdg (by omega) (by rw [Int.toNat_of_nonneg hd]) (hjp _ _ _ _ _ _ _ hrel b)
    · exact lv_tableIn hx hb hdg (by omega) (by omega) (by rw [← Array.getElem?_toList]; exact a) (by rw [Int.toNat_of_nonneg (ho _ (List.mem_of_getElem? a))]) (hjp _ _ _ _ _ _ _ hrel d')
  | lookupswitch d ps =>
    simp only [ip_nr, Bool.and_eq_true, decide_eq_true_eq] at hnr
    obtain ⟨⟨hd, ho⟩, hh⟩ := hnr
    have ho' : ∀ q ∈ ps.toList, 0 ≤ (pc : Int) + q.2 := fun q hq => by simpa using List.all_eq_true.mp ho q hq
    obtain ⟨x, r, rfl, h⟩ := ip_i1_s h
    exact lv_lookup hx hb hdg hh rfl (by rw [Int.toNat_of_nonneg (ip_lk_in ps.toList d x.toInt (fun z => 0 ≤ (pc : Int) + z) hd ho')]) (hjp _ _ _ _ _ _ _ hrel (ip_lk_s h))
  | getfield i =>
    obtain rfl := ip_b1 hnr
    simp only [ip_x] at h
    split at h
    · rename_i i' ci k ty mu hf
      obtain ⟨hmem, hi⟩ := ip_gf_s hf
      simp only at hi
      subst hi
      obtain ⟨hw, hc⟩ := hfl _ hmem
      obtain ⟨a, r, rfl, h⟩ := ip_r1_s h
      obtain ⟨cj, fs, ho, h⟩ := ip_ob_s h
      obtain ⟨hk, h7⟩ := ip_when_s h
      clear h
      obtain rfl := Nat.eq_of_beq_eq_true hk
      have h := h7
      split at h
      · rename_i v hv
        simp only [ip_fw, ip_fc] at hw hc
        split at hw
        · rename_i q hq
          rw [hq] at hc
          simp only [Bool.and_eq_true] at hc
          obtain ⟨hin, ty0, hty, hnm⟩ := ip_cls hq
          exact va_get hx hb hts hin hown hK hP a (ip_cw_at ho) hq k (Nat.le_of_ble_eq_true hc.1.1) (hts _ hw) (fun _ h9 => h9) (show (fs.map (ip_cv ad))[k]? = some (ip_cv ad v) by rw [List.getElem?_map, hv]; rfl) hdg (hnx _ _ _ _ _ _ hrel h)
        · rename_i hq
          rw [hq] at hc
          cases hc
      · exact h.elim
    · exact h.elim
  | putfield i =>
    obtain rfl := ip_b1 hnr
    simp only [ip_x] at h
    split at h
    · rename_i i' ci k ty hf
      obtain ⟨hmem, hi⟩ := ip_gf_s hf
      simp only at hi
      subst hi
      obtain ⟨hw, hc⟩ := hfl _ hmem
      obtain ⟨v, a, r, rfl, h⟩ := ip_vr_s h
      obtain ⟨cj, fs, ho, h⟩ := ip_ob_s h
      obtain ⟨hk, h7⟩ := ip_when_s h
      clear h
      simp only [Bool.and_eq_true] at hk
      obtain rfl := Nat.eq_of_beq_eq_true hk.1
      have h := h7
      have hkl : k < fs.length := Nat.le_of_ble_eq_true hk.2
      have hv : (narrow ty (ip_cv ad v) = ip_cv ad v ∧ fits ty (ip_cv ad v) = true) ∧ nx L r (hp.set a (.inr (ci, fs.set k v))) := by
        unfold ip_ok at h
        split at h
        · split at h
          · exact ⟨⟨rfl, rfl⟩, h⟩
          · exact h.elim
        · split at h
          · obtain ⟨h0, h⟩ := h
            refine ⟨?_, h⟩
            rcases h0 with rfl | rfl <;> exact ⟨rfl, rfl⟩
          · exact h.elim
        · exact h.elim
      obtain ⟨⟨hn1, hn2⟩, h⟩ := hv
      simp only [ip_fw, ip_fc] at hw hc
      split at hw
      · rename_i q hq
        rw [hq] at hc
        simp only [Bool.and_eq_true, decide_eq_true_eq, Bool.not_true, Bool.false_or, Bool.not_eq_true'] at hc
        obtain ⟨hin, ty0, hty, hnm⟩ := ip_cls hq
        refine va_put hx hb hts hin ty0 hty hnm hown hK hP hD hS a (ip_cw_at ho) hq k (Nat.le_of_ble_eq_true hc.1.1) (hts _ hw) (fun _ h9 => h9) hc.2 hc.1.2 hn1 hn2 (by simpa using hkl) hdg (fun H1 locs1 hP1 hD1 hS1 => hnx _ _ _ _ _ _ ⟨hL, ?_, ?_, hS1⟩ h)
        · rw [ip_cw_set]; simpa only [ip_ce, List.map_set] using hP1
        · rw [ip_cw_set]; simpa only [ip_ce, List.map_set] using hD1
      · rename_i hq
        rw [hq] at hc
        cases hc
    · exact h.elim
  | iaload =>
    obtain rfl := ip_b1 hnr
    obtain ⟨a, i, r, rfl, h⟩ := ip_ri_s h
    obtain ⟨t, n, f, ho, h⟩ := ip_ar_s h
    obtain ⟨hk, hi, h7⟩ := ip_when_s h
    clear h
    obtain rfl := Nat.eq_of_beq_eq_true hk
    have h := h7
    exact va_iald hx hb hK hP a 0 (ip_cw_at ho) rfl hi hdg (hnx _ _ _ _ _ _ hrel h)
  | baload =>
    obtain rfl := ip_b1 hnr
    obtain ⟨a, i, r, rfl, h⟩ := ip_ri_s h
    obtain ⟨t, n, f, ho, h⟩ := ip_ar_s h
    obtain ⟨hk, hi, h7⟩ := ip_when_s h
    clear h
    obtain rfl := Nat.eq_of_beq_eq_true hk
    have h := h7
    exact va_zald hx hb hK hP a 1 (ip_cw_at ho) rfl hi hdg (hnx _ _ _ _ _ _ hrel h)
  | iastore =>
    obtain rfl := ip_b1 hnr
    obtain ⟨a, i, x, r, rfl, h⟩ := ip_rii_s h
    obtain ⟨t, n, f, ho, h⟩ := ip_ar_s h
    obtain ⟨hk, hi, h7⟩ := ip_when_s h
    clear h
    obtain rfl := Nat.eq_of_beq_eq_true hk
    have h := h7
    refine va_iast hx hb hK hP hD hS a 0 (ip_cw_at ho) rfl hi hdg (fun H1 locs1 hP1 hD1 hS1 => hnx _ _ _ _ _ _ ⟨hL, ?_, ?_, hS1⟩ h)
    · rw [ip_cw_set]; exact hP1
    · rw [ip_cw_set]; exact hD1
  | bastore =>
    obtain rfl := ip_b1 hnr
    obtain ⟨a, i, x, r, rfl, h⟩ := ip_rii_s h
    obtain ⟨t, n, f, ho, h⟩ := ip_ar_s h
    obtain ⟨hk, hi, h7⟩ := ip_when_s h
    clear h
    obtain rfl := Nat.eq_of_beq_eq_true hk
    have h := h7
    refine va_zast hx hb hK hP hD hS a 1 (ip_cw_at ho) rfl hi hdg (fun H1 locs1 hP1 hD1 hS1 => hnx _ _ _ _ _ _ ⟨hL, ?_, ?_, hS1⟩ h)
    · rw [ip_cw_set]; exact hP1
    · rw [ip_cw_set]; exact hD1
  | aaload =>
    obtain rfl := ip_b1 hnr
    obtain ⟨a, i, r, rfl, h⟩ := ip_ri_s h
    obtain ⟨t, n, f, ho, h⟩ := ip_rr_s h
    obtain ⟨hk, hi, h⟩ := ip_when_s h
    have h2 := hnx _ _ _ _ _ _ hrel h
    have hv : ip_cv ad (va_rf (f i.toNatClampNeg)) = va_rf ((f i.toNatClampNeg).map ad) := by cases f i.toNatClampNeg <;> rfl
    rw [List.map_cons, hv] at h2
    simp only [Bool.or_eq_true] at hk
    rcases hk with hk | hk <;> obtain rfl := Nat.eq_of_beq_eq_true hk
    · exact va_aldq hx hb hK hP a 2 (ip_cw_at ho) rfl hi hdg h2
    · exact va_aldq hx hb hK hP a 3 (ip_cw_at ho) rfl hi hdg h2
  | arraylength =>
    obtain rfl := ip_b1 hnr
    obtain ⟨a, r, rfl, h⟩ := ip_r1_s h
    obtain ⟨t, n, f, ho, h⟩ := ip_ar_s h
    obtain ⟨hk, h7⟩ := ip_when_s h
    clear h
    have hk : t < 2 := Nat.le_of_ble_eq_true hk
    have h := h7
    rcases ip_two hk with rfl | rfl
    · exact va_alen hx hb hK hP a 0 (ip_cw_at ho) rfl rfl hdg (hnx _ _ _ _ _ _ hrel h)
    · exact va_alen hx hb hK hP a 1 (ip_cw_at ho) rfl rfl hdg (hnx _ _ _ _ _ _ hrel h)
  | invokestatic i =>
    exact hcalls _ i false rfl (by rw [← ip_b1 hnr]; exact hdg) (ip_b1 hnr) h
  | invokevirtual i =>
    exact hcalls _ i true rfl (by rw [← ip_b1 hnr]; exact hdg) (ip_b1 hnr) h
  | ireturn =>
    obtain rfl := ip_b1 hnr
    simp only [ip_x] at h
    split at h
    · split at h
      · rename_i v
        exact W.iret hx hb hr (fun t ht hW => hret (some (.int v)) hp H locs hP hD hS h t ht hW) hS.2.2 hdg
      · exact h.elim
    · split at h
      · rename_i v
        exact W.zret hx hb hr h.1 (fun t ht hW => hret (some (.int v)) hp H locs hP hD hS h.2 t ht hW) hS.2.2 hdg
      · exact h.elim
    · exact h.elim
  | lreturn =>
    obtain rfl := ip_b1 hnr
    simp only [ip_x] at h
    split at h
    · split at h
      · rename_i v
        exact W.lret hx hb hr (fun t ht hW => hret (some (.long v)) hp H locs hP hD hS h t ht hW) hS.2.2 hdg
      · exact h.elim
    · exact h.elim
  | areturn =>
    obtain rfl := ip_b1 hnr
    simp only [ip_x] at h
    split at h
    · rename_i cn'
      split at h
      · rename_i a
        exact W.aret (v := .ref (ad a)) hx hb hr (Or.inl ⟨_, rfl⟩) (Or.inr ⟨_, rfl⟩) (fun t ht hW => hret (some (.ref a)) hp H locs hP hD hS h t ht hW) hS.2.2 hdg
      · exact W.aret (v := .null) hx hb hr (Or.inl ⟨_, rfl⟩) (Or.inl rfl) (fun t ht hW => hret (some .null) hp H locs hP hD hS h t ht hW) hS.2.2 hdg
      · exact h.elim
    · exact h.elim
  | return_ =>
    obtain rfl := ip_b1 hnr
    simp only [ip_x] at h
    split at h
    · split at h
      · exact W.vret hx hb hr (fun t ht hW => hret none hp H locs hP hD hS h t ht hW) hS.2.2 hdg
      · exact h.elim
    · exact h.elim
  | _ => exact h.elim
