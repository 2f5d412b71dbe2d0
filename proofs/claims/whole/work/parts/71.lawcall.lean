/-! ===== the law's calls: two worlds side by side ===== -/
section LWC
variable {p : Program} {l : Launch} {e : Env} {R : Room} {s : State} {m : MethodId} {args : Array Value} {below : List Frame} {meth : Method} {c : Code} {H : Heap} {locs : List Loc} {cells slots : Nat} {Q : State → Prop} {D : va_G} {ad dA : Nat → Nat} {A : Nat → Prop}
theorem lw_back {pc : Nat} {ls : Array Slot} {st0 rest : List Value} {hp : ip_H} {K' : ip_K} {a : Array Value} (hr : va_Run p l e R s m args below meth c H locs cells slots 0 0 (F0 m pc ls st0) rest (ip_Q D dA ad hp K' H.size a) (va_A (ip_cw ad dA hp) H.size)) (hS : va_S A s.heap H locs) (hF : ∀ q, va_A (ip_cw ad dA hp) H.size q → A q)
    (kk : ∀ (r : Option Value) (hp' : ip_H) (H' : Heap) (locs' : List Loc), K' r hp' → va_P D vwCl (ip_cw ad dA hp') H' → va_D A (ip_cw ad dA hp') → va_S A s.heap H' locs' → H.size ≤ H'.size → (∀ q : Nat, q < H.size → ¬ va_A (ip_cw ad dA hp) H.size q → H'[q]? = H[q]?) → W p l e R s m args below meth c H' locs' cells slots Q (F0 m (pc + 3) ls ((r.map (ip_cv ad)).toList ++ rest))) : W p l e R s m args below meth c H locs cells slots Q (F0 m pc ls st0) := by
  intro T hT X
  obtain ⟨v, st₀, t, T', L, h0, X', hL, e1, e2, ⟨⟨r, hp', hv, hk, hP', hD'⟩, hz, hkeep⟩, st⟩ := hr T hT X
  injection hv with hv
  subst hv
  rw [h0] at hz hkeep
  obtain ⟨t2, a1, b1⟩ := kk r hp' T'.heap (locs ++ L) hk (by rw [e1]; exact hP') (hD'.weaken (fun k q _ h => hF q.1 h))
    ⟨Nat.le_trans hS.1 (by rw [e1]; exact hz), fun q h1 h2 => by rw [e1, hkeep q (Nat.lt_of_lt_of_le h1 hS.1) (fun z => h2 (hF q z))]; exact hS.2.1 q h1 h2, fun q hq => by
      rcases List.mem_append.mp hq with h | h
      · exact hS.2.2 q h
      · exact hF _ (hL q h)⟩ (by rw [e1]; exact hz) (fun q h1 h2 => by rw [e1]; exact hkeep q h1 h2) T' rfl X'
  exact ⟨t2, st t2 a1, b1⟩
/-- a virtual call from the law: any world, its receiver the first cell -/
theorem lw_call {rm : Room} {own : String} {idx n ci : Nat} {y : MethodName} {bytes cc : ByteArray} {nL nL' : Nat} {ret : Option FieldType} {C : ip_C} (hM : ip_Met l y bytes nL' ret rm C) (hw : ∀ w ∈ ip_wV own idx y bytes nL' ret, w ∈ ip_ws) (hci : (vwCl[ci]?).map (fun q => q.1) = some y.cls) (hn : ip_nm y n) (hR : ip_rR rm R nL')
    (hx : p.tables.exec = Jvm.exec) (hb : c.code = cc) (hml : c.maxLocals = nL) (hown : s.vm.findClass own = some m.cls) (hts : ∀ w ∈ ip_ws, w.before args s = true) (hK : va_K D vwCl (ip_tys dA) s) (hN : ip_N s) (hA : ∀ q, s.heap.size ≤ q → A q) (hc1 : cells ≤ R.cells) (hc2 : slots ≤ R.slots)
    {pc : Nat} {ls : Array Slot} {hp : ip_H} {as rest : List Value} {K' : ip_K} {fs : List Value} (hls : ls.size = nL) (hP : va_P D vwCl (ip_cw ad dA hp) H) (hD : va_D A (ip_cw ad dA hp)) (hS : va_S A s.heap H locs) (hlen : as.length = n) (hcat : (rest.map fun v => v.category).sum ≤ 8) (ho : hp[0]? = some (.inr (ci, fs))) (hdg : decode cc pc = .ok (.invokevirtual idx, 3)) (hC : C (.ref 0 :: as) hp K')
    (kk : ∀ (r : Option Value) (hp' : ip_H) (H' : Heap) (locs' : List Loc), K' r hp' → va_P D vwCl (ip_cw ad dA hp') H' → va_D A (ip_cw ad dA hp') → va_S A s.heap H' locs' → H.size ≤ H'.size → (∀ q : Nat, q < H.size → ¬ va_A (ip_cw ad dA hp) H.size q → H'[q]? = H[q]?) → W p l e R s m args below meth c H' locs' cells slots Q (F0 m (pc + 3) ls ((r.map (ip_cv ad)).toList ++ rest))) :
    W p l e R s m args below meth c H locs cells slots Q (F0 m pc ls ((as.map (ip_cv ad)).reverse ++ .ref (ad 0) :: rest)) := by
  obtain ⟨qc, hq, hqn⟩ := Option.map_eq_some_iff.mp hci
  have hF := ip_freeA hD hA hS
  have hcode : Cond.code y bytes nL' ret ∈ ip_ws := hw _ (by simp [ip_wV])
  refine lw_back (va_runV (C := y.cls) (As := as.map (ip_cv ad)) (rest := rest) ⟨hx, hb, hml, hown, hts⟩ (hM D dA (.ref 0 :: as) hp K' hC ad H.size) (cwV n hts ?_ rfl hR.1 hR.2.1 ⟨rfl, hn.1, hn.2.1, hn.2.2⟩ ⟨hR.2.2.1, hR.2.2.2⟩) ⟨ip_blind, ?_, fun U hU hW => ⟨rfl, by rw [hU], by rw [hU]; exact hP, va_K.moved hW.alike hK, hD.weaken (fun _ _ _ _ => trivial), ip_N.warm hW hN⟩⟩ rfl (by simpa using hlen) hls rfl (lv_room hcat) hdg ⟨hc1, hc2⟩) hS hF kk
  · intro w hw'
    simp only [wsV, List.mem_append] at hw'
    rcases hw' with h | h
    · refine ip_good (hw w ?_)
      simp only [ip_wV, List.mem_cons, List.not_mem_nil, or_false] at h ⊢
      rcases h with h | h | h | h <;> simp [h]
    · exact ip_goodC hcode w h
  · have := va_recv hK hP hq (ip_cw_at ho)
    rw [hqn] at this
    exact this
end LWC
/-- cells of another world are not touched -/
theorem lw_other {D : va_G} {ad ad2 dA : Nat → Nat} {hp hp2 : ip_H} {H H' : Heap} (hX : ∀ i j, i < hp.length → j < hp2.length → ad i ≠ ad2 j) (hP2 : va_P D vwCl (ip_cw ad2 dA hp2) H) (hk : ∀ q : Nat, q < H.size → ¬ va_A (ip_cw ad dA hp) H.size q → H'[q]? = H[q]?) : va_P D vwCl (ip_cw ad2 dA hp2) H' := by
  have at_ : ∀ {ad dA : Nat → Nat} {hp : ip_H} {k : Nat} {q : Nat × va_E}, (ip_cw ad dA hp)[k]? = some q → k < hp.length ∧ q.1 = ad k := fun {ad dA hp k q} h => by
    simp only [ip_cw, List.getElem?_mapIdx] at h
    obtain ⟨x, hx, rfl⟩ := Option.map_eq_some_iff.mp h
    exact ⟨(List.getElem?_eq_some_iff.mp hx).1, rfl⟩
  refine hP2.kept (fun k q hq => ?_)
  obtain ⟨h1, h2⟩ := at_ hq
  have hlt := (hP2 k q hq).lt
  refine hk _ hlt (fun z => ?_)
  rcases z with ⟨i, x, hi⟩ | z
  · obtain ⟨h3, h4⟩ := at_ hi
    exact hX i k h3 h1 (by rw [← h2]; exact h4.symm)
  · exact absurd hlt (Nat.not_lt.mpr z)
