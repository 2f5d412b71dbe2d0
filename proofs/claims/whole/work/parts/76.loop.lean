/-! ===== the law's loop ===== -/
theorem and31 (x : Int32) : ∃ j : Nat, j < 32 ∧ x &&& 31 = nI j := by
  obtain ⟨n, -, rfl⟩ := wb_of32 x
  exact ⟨n % 32, Nat.mod_lt _ (by decide), fa_mask n 5⟩
set_option maxRecDepth 100000 in
set_option maxHeartbeats 4000000 in
theorem hsw_ok : decode code 33 = .ok (.tableswitch 1288 0 31 #[143, 196, 229, 252, 285, 318, 351, 384, 407, 470, 533, 596, 629, 693, 716, 775, 798, 821, 844, 867, 900, 944, 987, 1010, 1053, 1097, 1160, 1183, 1206, 1239, 1252, 1265], 143) := by decide +kernel
set_option maxRecDepth 100000 in
set_option maxHeartbeats 4000000 in
theorem law_loop {p : Program} {l : Launch} {e : Env} {s : State} {m : MethodId} {below : List Frame} {meth : Method} {c : Code} {cells slots : Nat} {D : va_G} {dA adC adM : Nat → Nat} {b L : Nat} {xs : Nat → Int32} (hL : L ≤ 3072) (C0 : lw_At p s m meth c b L xs) (hK : va_K D vwCl (ip_tys dA) s) (hN : ip_N s) (hc : cells ≤ 600000 ∧ slots ≤ 7302250) (hXX : ∀ i j, i < 28 → j < 17 → adC i ≠ adM j) :
    ∀ (n i : Nat), i ≤ L → L + 1 ≤ i + n → ∀ (H : Heap) (locs : List Loc) (ls : Array Slot), lw_St s D dA adC adM H locs → lv_has ls 4 [(0, .ref b), (1, .ref (adC 0)), (2, .ref (adM 0)), (3, .int (nI i))] → W p l e room_1 s m #[Value.ref b] below meth c H locs cells slots (lw_Z below #[Value.ref b] s) (F0 m 18 ls []) := by
  obtain ⟨hx, hb, hr, hml, hown, hts0, hX, hbl, hlocks, hgv⟩ := C0
  have hts : ∀ w ∈ ip_ws, w.before #[Value.ref b] s = true := fun w h => hts0 w (ip_ws_tbl w h)
  intro n
  induction n with
  | zero =>
    intro i h1 h2
    exact absurd h2 (by omega)
  | succ n ih =>
    intro i hi hin H locs ls hst hl
    have hS := hst
    obtain ⟨-, -, -, -, -, -, -, -, -, -, -, hS⟩ := hS
    refine lv_iload_n hx hb (k := 3) (by decide +kernel) rfl (lv_at hl 3 rfl) ?_
    refine lv_aload_n hx hb (k := 0) (by decide +kernel) rfl (lv_at hl 0 rfl) ?_
    refine va_slen hx hb hX hbl (Nat.not_le.mpr hbl) hS (by decide +kernel) ?_
    refine lv_bipush (n := 6) (v := 6) hx hb (by decide +kernel) (by decide) ?_
    refine lv_isub hx hb (by decide +kernel) ?_
    have eL : (Int32.ofNat L - 6).toInt = (L : Int) - 6 := pk_sub_toInt (a := L) (b := 6) (by omega) (by omega)
    refine lv_icmp_gt (tgt := 1327) (off := 1303) hx hb (by decide +kernel) (by decide) (fun h => ?_) (fun h => ?_)
    · refine lv_iconst (n := 1) (v := 1) hx hb (by decide +kernel) (by decide) ?_
      refine va_forget (fun q hq => hS.2.2 q hq) ?_
      refine W.widen (k := 600000) (n := 7302250) hc.1 hc.2 ?_
      exact lw_ret hx hb hr hlocks (by decide +kernel)
    · have hi6 : i + 6 ≤ L := by
        rw [fa_lt, eL, ti_n (by omega)] at h
        omega
      refine lv_aload_n hx hb (k := 0) (by decide +kernel) rfl (lv_at hl 0 rfl) ?_
      refine lv_iload_n hx hb (k := 3) (by decide +kernel) rfl (lv_at hl 3 rfl) ?_
      refine va_sld hx hb hX hbl (Nat.not_le.mpr hbl) hS (pk_in i L (by omega)) (by decide +kernel) ?_
      refine lv_bipush (n := 31) (v := 31) hx hb (by decide +kernel) (by decide) ?_
      refine lv_iand hx hb (by decide +kernel) ?_
      obtain ⟨j, hj, ej⟩ := and31 (xs (nI i).toNatClampNeg)
      rw [ej]
      have hnx : ∀ (H' : Heap) (locs' : List Loc), lw_St s D dA adC adM H' locs' → W p l e room_1 s m #[Value.ref b] below meth c H' locs' cells slots (lw_Z below #[Value.ref b] s) (F0 m 1321 ls []) := fun H' locs' hst' => by
        refine lv_iinc (i := 3) (n := 6) (v := nI (i + 6)) (lv' := [(3, .int (nI (i + 6))), (0, .ref b), (1, .ref (adC 0)), (2, .ref (adM 0))]) hx hb (by decide +kernel) hl (k := 3) rfl (nI_add i 6) (by decide) rfl (fun ls' hl' => ?_)
        refine lv_goto (tgt := 18) (off := -1306) hx hb (by decide +kernel) (by decide) ?_
        exact ih (i + 6) hi6 (by omega) H' locs' ls' hst' (lv_sub hl' [1, 2, 3, 0] rfl)
      have hsw := hsw_ok
      have hi5 : i + 5 < L := by omega
      rcases (show j = 0 ∨ j = 1 ∨ j = 2 ∨ j = 3 ∨ j = 4 ∨ j = 5 ∨ j = 6 ∨ j = 7 ∨ j = 8 ∨ j = 9 ∨ j = 10 ∨ j = 11 ∨ j = 12 ∨ j = 13 ∨ j = 14 ∨ j = 15 ∨ j = 16 ∨ j = 17 ∨ j = 18 ∨ j = 19 ∨ j = 20 ∨ j = 21 ∨ j = 22 ∨ j = 23 ∨ j = 24 ∨ j = 25 ∨ j = 26 ∨ j = 27 ∨ j = 28 ∨ j = 29 ∨ j = 30 ∨ j = 31 by omega) with rfl | rfl | rfl | rfl | rfl | rfl | rfl | rfl | rfl | rfl | rfl | rfl | rfl | rfl | rfl | rfl | rfl | rfl | rfl | rfl | rfl | rfl | rfl | rfl | rfl | rfl | rfl | rfl | rfl | rfl | rfl | rfl
      · exact lv_tableIn (off := 143) (tgt := 176) hx hb hsw (by decide) (by decide) rfl (by decide) (cs_county hx hb hml hown hts hK hN hX hbl hc hXX hl (by omega) hL hst hnx)
      · exact lv_tableIn (off := 196) (tgt := 229) hx hb hsw (by decide) (by decide) rfl (by decide) (cs_ofMan hx hb hml hown hts hK hN hX hbl hc hXX hl (by omega) hL hst hnx)
      · exact lv_tableIn (off := 229) (tgt := 262) hx hb hsw (by decide) (by decide) rfl (by decide) (cs_truth hx hb hml hown hts hK hN hX hbl hc hXX hl (by omega) hL hst hnx)
      · exact lv_tableIn (off := 252) (tgt := 285) hx hb hsw (by decide) (by decide) rfl (by decide) (cs_stand hx hb hml hown hts hK hN hX hbl hc hXX hl (by omega) hL hst hnx)
      · exact lv_tableIn (off := 285) (tgt := 318) hx hb hsw (by decide) (by decide) rfl (by decide) (cs_learn hx hb hml hown hts hK hN hX hbl hc hXX hl (by omega) hL hst hnx)
      · exact lv_tableIn (off := 318) (tgt := 351) hx hb hsw (by decide) (by decide) rfl (by decide) (cs_answer hx hb hml hown hts hK hN hX hbl hc hXX hl (by omega) hL hst hnx)
      · exact lv_tableIn (off := 351) (tgt := 384) hx hb hsw (by decide) (by decide) rfl (by decide) (cs_strikes hx hb hml hown hts hK hN hX hbl hc hXX hl (by omega) hL hst hnx)
      · exact lv_tableIn (off := 384) (tgt := 417) hx hb hsw (by decide) (by decide) rfl (by decide) (cs_dangers hx hb hml hown hts hK hN hX hbl hc hXX hl (by omega) hL hst hnx)
      · exact lv_tableIn (off := 407) (tgt := 440) hx hb hsw (by decide) (by decide) rfl (by decide) (cs_storm hx hb hml hown hts hK hN hX hbl hc hXX hl (by omega) hL hst hnx)
      · exact lv_tableIn (off := 470) (tgt := 503) hx hb hsw (by decide) (by decide) rfl (by decide) (cs_place hx hb hml hown hts hK hN hX hbl hc hXX hl (by omega) hL hst hnx)
      · exact lv_tableIn (off := 533) (tgt := 566) hx hb hsw (by decide) (by decide) rfl (by decide) (cs_teach hx hb hml hown hts hK hN hX hbl hc hXX hl (by omega) hL hst hnx)
      · exact lv_tableIn (off := 596) (tgt := 629) hx hb hsw (by decide) (by decide) rfl (by decide) (cs_worst hx hb hml hown hts hK hN hX hbl hc hXX hl (by omega) hL hst hnx)
      · exact lv_tableIn (off := 629) (tgt := 662) hx hb hsw (by decide) (by decide) rfl (by decide) (cs_fair hx hb hml hown hts hK hN hX hbl hc hXX hl (by omega) hL hst hnx)
      · exact lv_tableIn (off := 693) (tgt := 726) hx hb hsw (by decide) (by decide) rfl (by decide) (cs_worth hx hb hml hown hts hK hN hX hbl hc hXX hl (by omega) hL hst hnx)
      · exact lv_tableIn (off := 716) (tgt := 749) hx hb hsw (by decide) (by decide) rfl (by decide) (cs_reading hx hb hml hown hts hK hN hX hbl hc hXX hl (by omega) hL hst hnx)
      · exact lv_tableIn (off := 775) (tgt := 808) hx hb hsw (by decide) (by decide) rfl (by decide) (cs_back hx hb hml hown hts hK hN hX hbl hc hXX hl (by omega) hL hst hnx)
      · exact lv_tableIn (off := 798) (tgt := 831) hx hb hsw (by decide) (by decide) rfl (by decide) (cs_truths hx hb hml hown hts hK hN hX hbl hc hXX hl (by omega) hL hst hnx)
      · exact lv_tableIn (off := 821) (tgt := 854) hx hb hsw (by decide) (by decide) rfl (by decide) (cs_stood hx hb hml hown hts hK hN hX hbl hc hXX hl (by omega) hL hst hnx)
      · exact lv_tableIn (off := 844) (tgt := 877) hx hb hsw (by decide) (by decide) rfl (by decide) (cs_kinds hx hb hml hown hts hK hN hX hbl hc hXX hl (by omega) hL hst hnx)
      · exact lv_tableIn (off := 867) (tgt := 900) hx hb hsw (by decide) (by decide) rfl (by decide) (cs_knew hx hb hml hown hts hK hN hX hbl hc hXX hl (by omega) hL hst hnx)
      · exact lv_tableIn (off := 900) (tgt := 933) hx hb hsw (by decide) (by decide) rfl (by decide) (cs_odds hx hb hml hown hts hK hN hX hbl hc hXX hl (by omega) hL hst hnx)
      · exact lv_tableIn (off := 944) (tgt := 977) hx hb hsw (by decide) (by decide) rfl (by decide) (cs_sheet hx hb hml hown hts hK hN hX hbl hc hXX hl (by omega) hL hst hnx)
      · exact lv_tableIn (off := 987) (tgt := 1020) hx hb hsw (by decide) (by decide) rfl (by decide) (cs_lose hx hb hml hown hts hK hN hX hbl hc hXX hl (by omega) hL hst hnx)
      · exact lv_tableIn (off := 1010) (tgt := 1043) hx hb hsw (by decide) (by decide) rfl (by decide) (cs_put hx hb hml hown hts hK hN hX hbl hc hXX hl (by omega) hL hst hnx)
      · exact lv_tableIn (off := 1053) (tgt := 1086) hx hb hsw (by decide) (by decide) rfl (by decide) (cs_cell hx hb hml hown hts hK hN hX hbl hc hXX hl (by omega) hL hst hnx)
      · exact lv_tableIn (off := 1097) (tgt := 1130) hx hb hsw (by decide) (by decide) rfl (by decide) (cs_copy hx hb hml hown hts hK hN hX hbl hc hXX hl (by omega) hL hst hnx)
      · exact lv_tableIn (off := 1160) (tgt := 1193) hx hb hsw (by decide) (by decide) rfl (by decide) (cs_tell hx hb hml hown hts hK hN hX hbl hc hXX hl (by omega) hL hst hnx)
      · exact lv_tableIn (off := 1183) (tgt := 1216) hx hb hsw (by decide) (by decide) rfl (by decide) (cs_hail hx hb hml hown hts hK hN hX hbl hc hXX hl (by omega) hL hst hnx)
      · exact lv_tableIn (off := 1206) (tgt := 1239) hx hb hsw (by decide) (by decide) rfl (by decide) (cs_as hx hb hml hown hts hK hN hX hbl hc hXX hl (by omega) hL hst hnx)
      · exact lv_tableIn (off := 1239) (tgt := 1272) hx hb hsw (by decide) (by decide) rfl (by decide) (cs_trace hx hb hml hown hts hK hN hX hbl hc hXX hl (by omega) hL hst hnx)
      · exact lv_tableIn (off := 1252) (tgt := 1285) hx hb hsw (by decide) (by decide) rfl (by decide) (cs_fault hx hb hml hown hts hK hN hX hbl hc hXX hl (by omega) hL hst hnx)
      · exact lv_tableIn (off := 1265) (tgt := 1298) hx hb hsw (by decide) (by decide) rfl (by decide) (cs_many hx hb hml hown hts hK hN hX hbl hc hXX hl (by omega) hL hst hnx)
