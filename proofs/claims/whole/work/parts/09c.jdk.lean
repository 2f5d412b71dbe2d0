/-! ===== Math.max, Math.min, System.arraycopy ===== -/
def C_J9_max : ip_C := fun vs hp K => ∃ a b : Int32, vs = [.int a, .int b] ∧ ∀ r : Int32, r.toInt = max a.toInt b.toInt → K (some (.int r)) hp
def C_J9_min : ip_C := fun vs hp K => ∃ a b : Int32, vs = [.int a, .int b] ∧ ∀ r : Int32, r.toInt = min a.toInt b.toInt → K (some (.int r)) hp
def C_arraycopy : ip_C := fun vs hp K => ∃ (a0 a n0 n1 : Nat) (sp dp n : Int32) (f g : Nat → Int32), vs = [.ref a0, .int sp, .ref a, .int dp, .int n] ∧ hp[a0]? = some (.inl (0, n0, .inl f)) ∧ hp[a]? = some (.inl (0, n1, .inl g)) ∧ 0 ≤ sp.toInt ∧ 0 ≤ dp.toInt ∧ 0 ≤ n.toInt ∧ sp.toInt + n.toInt ≤ n0 ∧ dp.toInt + n.toInt ≤ n1 ∧
  K none (hp.set a (.inl (0, n1, .inl (va_cpy f g sp.toNatClampNeg dp.toNatClampNeg n.toNatClampNeg))))
def ip_wMax (own : String) (idx : Nat) : List Cond := [.methodLink own idx Lib.Math.max.name, .static Lib.Math.max.name, .initialized "java/lang/Math", .code Lib.Math.max.name Lib.Math.max.code 2 (some .int)]
def ip_wMin (own : String) (idx : Nat) : List Cond := [.methodLink own idx Lib.Math.min.name, .static Lib.Math.min.name, .initialized "java/lang/Math", .code Lib.Math.min.name Lib.Math.min.code 2 (some .int)]
def ip_wCopy (own : String) (idx : Nat) : List Cond := [.methodLink own idx arraycopyName, .native arraycopyName, .static arraycopyName, .initialized "java/lang/System"]
theorem ip_gsMax {l : Launch} {R : Room} {own : String} {idx : Nat} (hw : ∀ w ∈ ip_wMax own idx, w ∈ ip_ws) (hR : 1 ≤ R.frames ∧ 21 ≤ R.locals) : ip_GS l R own (idx, 2, 0, C_J9_max) := by
  intro p e s m args below meth c cells slots Q cc nL D ad dA A hx hb hml hown hts hK hN hA hc1 hc2 pc L As rest hp ls H locs K' hrel hlen hcat hcase hC kk
  obtain ⟨hL, hP, hD, hS⟩ := id hrel
  simp only at hlen hcase hC
  rcases hcase with ⟨-, hdg⟩ | ⟨q, as, cj, fs, hk, -⟩
  · obtain ⟨a, b, rfl, hK'⟩ := hC
    have hcat' := ip_catSum ad rest
    refine va_mmax (x := a) (y := b) (rest := rest.map (ip_cv ad)) hx hb (by rw [hml, hL.size]) hown (hts _ (hw _ (by simp [ip_wMax]))) (hts _ (hw _ (by simp [ip_wMax]))) (hts _ (hw _ (by simp [ip_wMax]))) (hts _ (hw _ (by simp [ip_wMax]))) hR.1 (by omega) hc1 hc2 hdg ?_
    refine kk (some (.int (if a < b then b else a))) hp H locs hrel (hK' _ ?_)
    split
    · rename_i h; rw [fa_lt] at h; omega
    · rename_i h; rw [fa_lt] at h; omega
  · cases hk
theorem ip_gsMin {l : Launch} {R : Room} {own : String} {idx : Nat} (hw : ∀ w ∈ ip_wMin own idx, w ∈ ip_ws) (hR : 1 ≤ R.frames ∧ 21 ≤ R.locals) : ip_GS l R own (idx, 2, 0, C_J9_min) := by
  intro p e s m args below meth c cells slots Q cc nL D ad dA A hx hb hml hown hts hK hN hA hc1 hc2 pc L As rest hp ls H locs K' hrel hlen hcat hcase hC kk
  obtain ⟨hL, hP, hD, hS⟩ := id hrel
  simp only at hlen hcase hC
  rcases hcase with ⟨-, hdg⟩ | ⟨q, as, cj, fs, hk, -⟩
  · obtain ⟨a, b, rfl, hK'⟩ := hC
    have hcat' := ip_catSum ad rest
    refine va_mmin (x := a) (y := b) (rest := rest.map (ip_cv ad)) hx hb (by rw [hml, hL.size]) hown (hts _ (hw _ (by simp [ip_wMin]))) (hts _ (hw _ (by simp [ip_wMin]))) (hts _ (hw _ (by simp [ip_wMin]))) (hts _ (hw _ (by simp [ip_wMin]))) hR.1 (by omega) hc1 hc2 hdg ?_
    refine kk (some (.int (if b < a then b else a))) hp H locs hrel (hK' _ ?_)
    split
    · rename_i h; rw [fa_lt] at h; omega
    · rename_i h; rw [fa_lt] at h; omega
  · cases hk
theorem ti_cl {x : Int32} (h : 0 ≤ x.toInt) : (x.toNatClampNeg : Int) = x.toInt := by
  rw [Int32.toNatClampNeg]; omega
theorem ip_gsCopy {l : Launch} {R : Room} {own : String} {idx : Nat} (hw : ∀ w ∈ ip_wCopy own idx, w ∈ ip_ws) (hR : 1 ≤ R.frames ∧ 8 + (nativeFrameWords "java/lang/System" "arraycopy" 5 + 11) ≤ R.locals) : ip_GS l R own (idx, 5, 0, C_arraycopy) := by
  intro p e s m args below meth c cells slots Q cc nL D ad dA A hx hb hml hown hts hK hN hA hc1 hc2 pc L As rest hp ls H locs K' hrel hlen hcat hcase hC kk
  obtain ⟨hL, hP, hD, hS⟩ := id hrel
  simp only at hlen hcase hC
  rcases hcase with ⟨-, hdg⟩ | ⟨q, as, cj, fs, hk, -⟩
  · obtain ⟨a0, a, n0, n1, sp, dp, n, f, g, rfl, ho0, ho1, h1, h2, h3, h4, h5, hK'⟩ := hC
    have hcat' := ip_catSum ad rest
    have c1 := ti_cl h1
    have c2 := ti_cl h2
    have c3 := ti_cl h3
    refine va_copyi (ty := .int) (rest := rest.map (ip_cv ad)) hx hb (by rw [hml, hL.size]) hown (hts _ (hw _ (by simp [ip_wCopy]))) (hts _ (hw _ (by simp [ip_wCopy]))) (hts _ (hw _ (by simp [ip_wCopy]))) (hts _ (hw _ (by simp [ip_wCopy]))) hK hP hD hS a0 a 0 0 (ip_cw_at ho0) (ip_cw_at ho1) rfl rfl rfl (by rw [fa_lt]; show ¬ _ < (0 : Int); omega) (by rw [fa_lt]; show ¬ _ < (0 : Int); omega) (by rw [fa_lt]; show ¬ _ < (0 : Int); omega) (by omega) (by omega) (fun _ _ => rfl) hR.1 (by have := hR.2; omega) hdg (fun H1 locs1 hP1 hD1 hS1 => ?_)
    refine kk none _ H1 locs1 ⟨hL, ?_, ?_, hS1⟩ hK'
    · rw [ip_cw_set]; exact hP1
    · rw [ip_cw_set]; exact hD1
  · cases hk
