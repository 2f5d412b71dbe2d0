/-! ===== constructors: what they are called with, what comes of them ===== -/
theorem ip_w1 {w : Cond} (i : Nat) (h : [w] = [i].filterMap (fun i => lw_tbl[i]?)) (hg : [w].all goodWord = true) : w ∈ ip_ws := ip_in [i] h hg w List.mem_cons_self
def ic_N (U : State) : Prop := va_Nw (.methodLinkNest RX0 17 yX2_init "ThunderAsks") U ∧ va_Nw (.methodLinkNest RX7 26 yX4_init "ThunderAsks") U ∧ va_Nw (.methodLinkNest RX7 33 yX6_init "ThunderAsks") U ∧ va_Nw (.methodLinkNest RX7 40 yX3_init "ThunderAsks") U ∧ va_Nw (.methodLinkNest RX7 45 yX5_init "ThunderAsks") U ∧ va_AO "ThunderAsks$Man" U ∧ va_AO "ThunderAsks$Sheet" U
theorem ic_N.warm {s U : State} (hW : s.WarmedH U.vm) (h : ic_N s) : ic_N U := ⟨va_Nw.warmM hW h.1, va_Nw.warmM hW h.2.1, va_Nw.warmM hW h.2.2.1, va_Nw.warmM hW h.2.2.2.1, va_Nw.warmM hW h.2.2.2.2.1, va_AO.moved hW.alike h.2.2.2.2.2.1, va_AO.moved hW.alike h.2.2.2.2.2.2⟩
theorem ic_N.same {u U : State} (he : u.vm = U.vm) (hv : u.vm.Alike U.vm) (h : ic_N u) : ic_N U := ⟨va_Nw.same rfl he h.1, va_Nw.same rfl he h.2.1, va_Nw.same rfl he h.2.2.1, va_Nw.same rfl he h.2.2.2.1, va_Nw.same rfl he h.2.2.2.2.1, va_AO.moved hv h.2.2.2.2.2.1, va_AO.moved hv h.2.2.2.2.2.2⟩
/-- a constructor's contract: nn cells come, of ms slots in all; then the world is Wd -/
def ic_C (l : Launch) (y : MethodName) (cc : ByteArray) (nL : Nat) (rm : Room) (ci : Nat) (fs0 : List Value) (Wd : (Nat → Nat) → Nat → List Nat → va_W) (nn mc ms : Nat) : Prop := ∀ (D : va_G) (dA : Nat → Nat) (h0 sz : Nat), Met l y (.code y cc nL none :: ip_ws) rm (va_Pc [.ref h0] (fun U => U.heap.size = sz ∧ va_P D vwCl [(h0, .inr (ci, fs0))] U.heap ∧ va_K D vwCl (ip_tys dA) U ∧ va_D (fun _ => True) [(h0, .inr (ci, fs0))] ∧ ic_N U)) (va_Qv (fun u : List Nat => u.length = nn) (fun u t => va_P D vwCl (Wd dA h0 u) t.heap ∧ va_D (va_A [(h0, .inr (ci, fs0))] sz) (Wd dA h0 u)) (va_A [(h0, .inr (ci, fs0))] sz)) mc ms (va_A [(h0, .inr (ci, fs0))] sz)
section ICS
variable {p : Program} {l : Launch} {e : Env} {R : Room} {s : State} {m : MethodId} {args : Array Value} {below : List Frame} {meth : Method} {c : Code} {H H0 : Heap} {locs : List Loc} {cells slots : Nat} {Q : State → Prop} {D : va_G} {dA : Nat → Nat} {A : Nat → Prop} {ls : Array Slot} {pc : Nat} {ws ws0 : va_W} {rest : List Value} {cc : ByteArray}
theorem ic_newI (hx : p.tables.exec = Jvm.exec) (hb : c.code = cc) (harr : (Cond.arrayClass .int).before args s = true) (hK : va_K D vwCl (ip_tys dA) s) (hP : va_P D vwCl ws H) (hD : va_D A ws) (hS : va_S A H0 H locs) (hA : ∀ q, H0.size ≤ q → A q) {n : Int32} (N' : Nat) (hn : ¬ n < 0) (hN : n.toNatClampNeg = N') (hbytes : N' * 4 ≤ 536870912) (hcells : cells + 1 ≤ R.cells) (hslots : slots + N' ≤ R.slots) (hdg : decode cc pc = .ok (.newarray .int, 2))
    (kk : ∀ (q : Nat) (H1 : Heap), va_P D vwCl (ws ++ [(q, .inl (dA 0, N', .inl (fun _ => 0)))]) H1 → va_D A (ws ++ [(q, .inl (dA 0, N', .inl (fun _ => 0)))]) → va_S A H0 H1 locs → W p l e R s m args below meth c H1 locs (cells + 1) (slots + N') Q (F0 m (pc + 2) ls (.ref q :: rest))) : W p l e R s m args below meth c H locs cells slots Q (F0 m pc ls (.int n :: rest)) := by
  refine va_newa (atype := .int) (ty := .int) (a0 := (N', .inl (fun _ => 0))) hx hb harr rfl hK hP hD hS hA (fun cA => rfl) hn hN hbytes hcells hslots hdg (fun q cA H1 hK1 hP1 hD1 hS1 => ?_)
  have h1 : va_RA s cA .int := (hK1.2 4 (cA, .int) rfl).2
  have h2 : va_RA s (dA 0) .int := (hK.2 0 (dA 0, .int) rfl).2
  have e1 : cA = dA 0 := Option.some.inj (h1.symm.trans h2)
  subst e1
  exact kk q H1 hP1 hD1 hS1
theorem ic_newZ (hx : p.tables.exec = Jvm.exec) (hb : c.code = cc) (harr : (Cond.arrayClass .boolean).before args s = true) (hK : va_K D vwCl (ip_tys dA) s) (hP : va_P D vwCl ws H) (hD : va_D A ws) (hS : va_S A H0 H locs) (hA : ∀ q, H0.size ≤ q → A q) {n : Int32} (N' : Nat) (hn : ¬ n < 0) (hN : n.toNatClampNeg = N') (hbytes : N' * 1 ≤ 536870912) (hcells : cells + 1 ≤ R.cells) (hslots : slots + N' ≤ R.slots) (hdg : decode cc pc = .ok (.newarray .boolean, 2))
    (kk : ∀ (q : Nat) (H1 : Heap), va_P D vwCl (ws ++ [(q, .inl (dA 1, N', .inl (fun _ => 0)))]) H1 → va_D A (ws ++ [(q, .inl (dA 1, N', .inl (fun _ => 0)))]) → va_S A H0 H1 locs → W p l e R s m args below meth c H1 locs (cells + 1) (slots + N') Q (F0 m (pc + 2) ls (.ref q :: rest))) : W p l e R s m args below meth c H locs cells slots Q (F0 m pc ls (.int n :: rest)) := by
  refine va_newa (atype := .boolean) (ty := .boolean) (a0 := (N', .inl (fun _ => 0))) hx hb harr rfl hK hP hD hS hA (fun cA => rfl) hn hN hbytes hcells hslots hdg (fun q cA H1 hK1 hP1 hD1 hS1 => ?_)
  have h1 : va_RA s cA .boolean := (hK1.2 4 (cA, .boolean) rfl).2
  have h2 : va_RA s (dA 1) .boolean := (hK.2 1 (dA 1, .boolean) rfl).2
  have e1 : cA = dA 1 := Option.some.inj (h1.symm.trans h2)
  subst e1
  exact kk q H1 hP1 hD1 hS1
theorem ic_newR (t : Nat) (C : String) (ht : (ip_tys dA)[t]? = some (dA t, .object C)) (hx : p.tables.exec = Jvm.exec) (hb : c.code = cc) {own : String} {index : Nat} (hown : s.vm.findClass own = some m.cls) (hcl : (Cond.classLink own index C).before args s = true) (hover : va_AO C s) (hK : va_K D vwCl (ip_tys dA) s) (hP : va_P D vwCl ws H) (hD : va_D A ws) (hS : va_S A H0 H locs) (hA : ∀ q, H0.size ≤ q → A q) {n : Int32} (N' : Nat) (hn : ¬ n < 0) (hN : n.toNatClampNeg = N') (hbytes : N' * 4 ≤ 536870912) (hcells : cells + 1 ≤ R.cells) (hslots : slots + N' ≤ R.slots) (hdg : decode cc pc = .ok (.anewarray index, 3))
    (kk : ∀ (q : Nat) (H1 : Heap), va_P D vwCl (ws ++ [(q, .inl (dA t, N', .inr (.inr (.inr (.inr (fun _ => none))))))]) H1 → va_D A (ws ++ [(q, .inl (dA t, N', .inr (.inr (.inr (.inr (fun _ => none))))))]) → va_S A H0 H1 locs → W p l e R s m args below meth c H1 locs (cells + 1) (slots + N') Q (F0 m (pc + 3) ls (.ref q :: rest))) : W p l e R s m args below meth c H locs cells slots Q (F0 m pc ls (.int n :: rest)) := by
  refine va_newq hx hb hown hcl hover hK hP hD hS hA hn hN hbytes hcells hslots hdg (fun q cA H1 hK1 hP1 hD1 hS1 => ?_)
  obtain ⟨_, _, -, -, -, h1⟩ := (hK1.2 4 (cA, .object C) rfl).2
  obtain ⟨_, _, -, -, -, h2⟩ := (hK.2 t (dA t, .object C) ht).2
  have e1 : cA = dA t := Option.some.inj (h1.symm.trans h2)
  subst e1
  exact kk q H1 hP1 hD1 hS1
/-- behind a constructor's call -/
theorem ic_ret {ci nn mc ms b : Nat} {fs0 : List Value} {Wd : (Nat → Nat) → Nat → List Nat → va_W} {a : Array Value} (hr : va_Run p l e R s m args below meth c H locs cells slots mc ms (F0 m pc ls (.ref b :: rest)) rest (va_Qv (fun u : List Nat => u.length = nn) (fun u t => va_P D vwCl (Wd dA b u) t.heap ∧ va_D (va_A [(b, .inr (ci, fs0))] H.size) (Wd dA b u)) (va_A [(b, .inr (ci, fs0))] H.size) a) (va_A [(b, .inr (ci, fs0))] H.size)) (hP : va_P D vwCl (ws0 ++ [(b, .inr (ci, fs0))]) H) (hD : va_D A (ws0 ++ [(b, .inr (ci, fs0))])) (hS : va_S A s.heap H locs) (hA : ∀ q, s.heap.size ≤ q → A q)
    (kk : ∀ (u : List Nat) (H' : Heap) (locs' : List Loc), u.length = nn → va_P D vwCl (ws0 ++ Wd dA b u) H' → va_D A (ws0 ++ Wd dA b u) → va_S A s.heap H' locs' → W p l e R s m args below meth c H' locs' (cells + mc) (slots + ms) Q (F0 m (pc + 3) ls rest)) : W p l e R s m args below meth c H locs cells slots Q (F0 m pc ls (.ref b :: rest)) := by
  have lft : ∀ (k : Nat) (q : Nat × va_E), ws0[k]? = some q → (ws0 ++ [(b, .inr (ci, fs0))])[k]? = some q := fun k q hq => by
    rw [List.getElem?_append_left (List.getElem?_eq_some_iff.mp hq).1]; exact hq
  have hlast : (ws0 ++ [(b, (.inr (ci, fs0) : va_E))])[ws0.length]? = some (b, .inr (ci, fs0)) := by simp
  have one : ∀ (k q : Nat) (x : va_E), [(b, (.inr (ci, fs0) : va_E))][k]? = some (q, x) → q = b := fun k q x h => by
    cases k with
    | zero => cases h; rfl
    | succ k => cases h
  have hF : ∀ q, va_A [(b, .inr (ci, fs0))] H.size q → A q := fun q h => by
    rcases h with ⟨k, x, h⟩ | h
    · rw [one k q x h]; exact hD.2 _ _ hlast
    · exact hA q (Nat.le_trans hS.1 h)
  have hne : ∀ (k : Nat) (q : Nat × va_E), ws0[k]? = some q → q.1 ≠ b := fun k q hq z => by
    have h1 := hD.1 k ws0.length q _ (lft k q hq) hlast z
    have h2 := (List.getElem?_eq_some_iff.mp hq).1
    omega
  have hlt : ∀ (k : Nat) (q : Nat × va_E), ws0[k]? = some q → q.1 < H.size := fun k q hq => (hP k q (lft k q hq)).lt
  refine va_callv hr hS (fun q _ h => hF q h) hF (fun u t H1 locs1 ht hvm hu hB hz hk hS1 => ?_)
  obtain ⟨hB1, hB2⟩ := hB
  rw [ht] at hB1
  have hP0 : va_P D vwCl ws0 H := fun k q hq => hP k q (lft k q hq)
  have hP1 : va_P D vwCl ws0 H1 := hP0.kept (fun k q hq => hk q.1 (hlt k q hq) (fun z => by
    rcases z with ⟨j, x, hj⟩ | z
    · exact hne k q hq (one j _ x hj)
    · exact absurd (hlt k q hq) (Nat.not_lt.mpr z)))
  refine kk u H1 locs1 hu (hP1.app hB1) (va_D.app ⟨fun i j p q h1 h2 => hD.1 i j p q (lft i p h1) (lft j q h2), fun k q hq => hD.2 k q (lft k q hq)⟩ (hB2.weaken (fun _ q _ h => hF q.1 h)) (fun i j p q h1 h2 z => ?_)) hS1
  rcases hB2.2 j q h2 with ⟨k, x, hk'⟩ | hz2
  · exact hne i p h1 (z.trans (one k _ x hk'))
  · have := hlt i p h1
    rw [z] at this
    exact absurd this (Nat.not_lt.mpr hz2)
/-- the cells of the receiver alone -/
theorem ic_pre {ci b : Nat} {fs0 : List Value} (hP : va_P D vwCl (ws0 ++ [(b, .inr (ci, fs0))]) H) (hD : va_D A (ws0 ++ [(b, .inr (ci, fs0))])) : va_P D vwCl [(b, .inr (ci, fs0))] H ∧ va_D (fun _ => True) [(b, (.inr (ci, fs0) : va_E))] := by
  refine ⟨fun k q hq => ?_, fun i j p q h1 h2 _ => ?_, fun _ _ _ => trivial⟩
  · cases k with
    | zero => cases hq; exact hP ws0.length _ (by simp)
    | succ k => cases hq
  · have := (List.getElem?_eq_some_iff.mp h1).1
    have := (List.getElem?_eq_some_iff.mp h2).1
    simp only [List.length_cons, List.length_nil] at *
    omega
theorem ic_blind {D : va_G} {dA : Nat → Nat} {b ci sz : Nat} {fs0 : List Value} : FrameBlind (va_Pc [.ref b] (fun U => U.heap.size = sz ∧ va_P D vwCl [(b, .inr (ci, fs0))] U.heap ∧ va_K D vwCl (ip_tys dA) U ∧ va_D (fun _ => True) [(b, .inr (ci, fs0))] ∧ ic_N U)) := fun a U g mk q =>
  ⟨q.1, q.2.1, q.2.2.1, va_K.moved (u := U) (U := U.calling g mk a) (Vm.Alike.refl U.vm) q.2.2.2.1, q.2.2.2.2.1, ic_N.same (u := U) rfl (Vm.Alike.refl U.vm) q.2.2.2.2.2⟩
/-- a call of a nest mate's private constructor -/
theorem ic_callN {y : MethodName} {bytes : ByteArray} {maxL idx ci nn mc ms nL b : Nat} {rm : Room} {fs0 : List Value} {Wd : (Nat → Nat) → Nat → List Nat → va_W} {own : String} (host : String) (hM : ic_C l y bytes maxL rm ci fs0 Wd nn mc ms) (hl : va_Nw (.methodLinkNest own idx y host) s) (hw : ∀ w ∈ [Cond.code y bytes maxL none, Cond.initialized y.cls, Cond.instanceMethod y], w ∈ ip_ws) (hn : y.cls ≠ "java/lang/invoke/MethodHandle" ∧ y.cls ≠ "java/lang/invoke/VarHandle" ∧ (parseMethodDescriptor y.desc).map (fun d => d.parameters.length) = some 0) (hy : y.name = "<init>") (hR : rm.cells = mc ∧ rm.slots = ms ∧ rm.frames + 1 ≤ R.frames ∧ 8 + (maxL + 11) + rm.locals ≤ R.locals)
    (hx : p.tables.exec = Jvm.exec) (hb : c.code = cc) (hml : c.maxLocals = nL) (hown : s.vm.findClass own = some m.cls) (hts : ∀ w ∈ ip_ws, w.before args s = true) (hK : va_K D vwCl (ip_tys dA) s) (hN : ic_N s) (hA : ∀ q, s.heap.size ≤ q → A q) (hf : cells + mc ≤ R.cells ∧ slots + ms ≤ R.slots) (hls : ls.size = nL) (hcat : (rest.map fun v => v.category).sum ≤ 8) (hdg : decode cc pc = .ok (.invokespecial idx, 3)) (hP : va_P D vwCl (ws0 ++ [(b, .inr (ci, fs0))]) H) (hD : va_D A (ws0 ++ [(b, .inr (ci, fs0))])) (hS : va_S A s.heap H locs)
    (kk : ∀ (u : List Nat) (H' : Heap) (locs' : List Loc), u.length = nn → va_P D vwCl (ws0 ++ Wd dA b u) H' → va_D A (ws0 ++ Wd dA b u) → va_S A s.heap H' locs' → W p l e R s m args below meth c H' locs' (cells + mc) (slots + ms) Q (F0 m (pc + 3) ls rest)) : W p l e R s m args below meth c H locs cells slots Q (F0 m pc ls (.ref b :: rest)) := by
  obtain ⟨hPc, hDc⟩ := ic_pre hP hD
  have hcode : Cond.code y bytes maxL none ∈ ip_ws := hw _ (by simp)
  exact ic_ret (va_runIN (host := host) (As := []) (rest := rest) ⟨hx, hb, hml, hown, hts⟩ (hM D dA b H.size) ⟨va_cnB 0 hts (ip_goodC hcode) rfl hR.1 hR.2.1 hl (hts _ (hw _ (by simp))) hn hR.2.2, hy, hts _ (hw _ (by simp))⟩ ⟨ic_blind, fun U hU hW => ⟨rfl, by rw [hU], by rw [hU]; exact hPc, va_K.moved hW.alike hK, hDc, ic_N.warm hW hN⟩⟩ rfl rfl hls rfl (lv_room hcat) hdg hf) hP hD hS hA kk
/-- a call of another constructor -/
theorem ic_callP {y : MethodName} {bytes : ByteArray} {maxL idx ci nn mc ms nL b : Nat} {rm : Room} {fs0 : List Value} {Wd : (Nat → Nat) → Nat → List Nat → va_W} {own : String} (hM : ic_C l y bytes maxL rm ci fs0 Wd nn mc ms) (hw : ∀ w ∈ [Cond.code y bytes maxL none, Cond.initialized y.cls, Cond.instanceMethod y, Cond.methodLink own idx y], w ∈ ip_ws) (hn : y.cls ≠ "java/lang/invoke/MethodHandle" ∧ y.cls ≠ "java/lang/invoke/VarHandle" ∧ (parseMethodDescriptor y.desc).map (fun d => d.parameters.length) = some 0) (hy : y.name = "<init>") (hR : rm.cells = mc ∧ rm.slots = ms ∧ rm.frames + 1 ≤ R.frames ∧ 8 + (maxL + 11) + rm.locals ≤ R.locals)
    (hx : p.tables.exec = Jvm.exec) (hb : c.code = cc) (hml : c.maxLocals = nL) (hown : s.vm.findClass own = some m.cls) (hts : ∀ w ∈ ip_ws, w.before args s = true) (hK : va_K D vwCl (ip_tys dA) s) (hN : ic_N s) (hA : ∀ q, s.heap.size ≤ q → A q) (hf : cells + mc ≤ R.cells ∧ slots + ms ≤ R.slots) (hls : ls.size = nL) (hcat : (rest.map fun v => v.category).sum ≤ 8) (hdg : decode cc pc = .ok (.invokespecial idx, 3)) (hP : va_P D vwCl (ws0 ++ [(b, .inr (ci, fs0))]) H) (hD : va_D A (ws0 ++ [(b, .inr (ci, fs0))])) (hS : va_S A s.heap H locs)
    (kk : ∀ (u : List Nat) (H' : Heap) (locs' : List Loc), u.length = nn → va_P D vwCl (ws0 ++ Wd dA b u) H' → va_D A (ws0 ++ Wd dA b u) → va_S A s.heap H' locs' → W p l e R s m args below meth c H' locs' (cells + mc) (slots + ms) Q (F0 m (pc + 3) ls rest)) : W p l e R s m args below meth c H locs cells slots Q (F0 m pc ls (.ref b :: rest)) := by
  obtain ⟨hPc, hDc⟩ := ic_pre hP hD
  have hcode : Cond.code y bytes maxL none ∈ ip_ws := hw _ (by simp)
  exact ic_ret (va_runI (As := []) (rest := rest) ⟨hx, hb, hml, hown, hts⟩ (hM D dA b H.size) (cwI 0 hts (ip_goodC hcode) rfl hR.1 hR.2.1 (hts _ (hw _ (by simp))) (hts _ (hw _ (by simp))) (hts _ (hw _ (by simp))) hy hn hR.2.2) ⟨ic_blind, fun U hU hW => ⟨rfl, by rw [hU], by rw [hU]; exact hPc, va_K.moved hW.alike hK, hDc, ic_N.warm hW hN⟩⟩ rfl rfl hls rfl (lv_room hcat) hdg hf) hP hD hS hA kk
end ICS
/-- a constructor's contract out of its walk -/
theorem ic_mk {l : Launch} {y : MethodName} {cc : ByteArray} {nL : Nat} {rm : Room} {ci : Nat} {fs0 : List Value} {Wd : (Nat → Nat) → Nat → List Nat → va_W} {nn mc ms : Nat} (hpl : plainName y.cls = true) (hn1 : 1 ≤ nL) (hy : y.name = "<init>")
    (walk : ∀ (p : Program) (e : Env) (s : State) (m : MethodId) (below : List Frame) (meth : Method) (c : Code) (D : va_G) (dA : Nat → Nat) (A : Nat → Prop) (h0 : Nat) (ls : Array Slot) (Q : State → Prop), p.tables.exec = Jvm.exec → c.code = cc → c.maxLocals = nL → s.vm.findClass y.cls = some m.cls → meth.name = "<init>" → (∀ w ∈ ip_ws, w.before #[Value.ref h0] s = true) → va_K D vwCl (ip_tys dA) s → ic_N s → (∀ q, s.heap.size ≤ q → A q) → va_P D vwCl [(h0, .inr (ci, fs0))] s.heap → va_D A [(h0, .inr (ci, fs0))] → lv_has ls nL [(0, .ref h0)] →
      (∀ (u : List Nat) (H : Heap) (locs : List Loc) (ls' : Array Slot) (pc : Nat), u.length = nn → va_P D vwCl (Wd dA h0 u) H → va_D A (Wd dA h0 u) → va_S A s.heap H locs → decode cc pc = .ok (.return_, 1) → W p l e rm s m #[Value.ref h0] below meth c H locs mc ms Q (F0 m pc ls' [])) → W p l e rm s m #[Value.ref h0] below meth c s.heap [] 0 0 Q (F0 m 0 ls [])) : ic_C l y cc nL rm ci fs0 Wd nn mc ms := by
  intro D dA h0 sz
  refine Met.ofW (cc := cc) (maxL := nL) (ret := none) hpl rfl ?_
  intro p e s m args below meth c s₁ B hml hv
  obtain ⟨rfl, hsz, hP, hK, hD0, hN⟩ := hv
  have hx := B.exec
  have hb := B.bytes
  have hr := B.returns
  have hts0 := atoms_spec (ws := .code y cc nL none :: ip_ws) B.pre
  have hts : ∀ w ∈ ip_ws, w.before #[Value.ref h0] s = true := fun w h => hts0 w (List.mem_cons_of_mem _ h)
  have hown : s.vm.findClass y.cls = some m.cls := findClass_of_methodNamed B.named
  have hlocks := B.notSynchronized
  have hin : meth.name = "<init>" := by rw [← hy]; exact (name_of_methodNamed B.named B.method).1
  subst hsz
  have hD := hD0.self (sz := s.heap.size)
  have hA : ∀ q : Nat, s.heap.size ≤ q → va_A [(h0, .inr (ci, fs0))] s.heap.size q := fun q h => Or.inr h
  have hl := lv_entry ([.ref h0]) (n := nL) (by show 1 ≤ nL; exact hn1)
  rw [lg_entry_eq]
  generalize (lg_sl ([.ref h0]) ++ List.replicate (nL - (lg_sl ([.ref h0])).length) Slot.unset).toArray = ls at hl ⊢
  have hl : lv_has ls nL [(0, .ref h0)] := hl
  refine walk p e s m below meth c D dA (va_A [(h0, .inr (ci, fs0))] s.heap.size) h0 ls _ hx hb hml hown hin hts hK hN hA hP hD hl (fun u H locs ls' pc hu hP' hD' hS' hdg => ?_)
  exact W.vret hx hb hr (fun t ht hW => ⟨⟨u, rfl, hu, by rw [ht]; exact hP', hD'⟩, hS'.F ht⟩) hS'.2.2 hdg
