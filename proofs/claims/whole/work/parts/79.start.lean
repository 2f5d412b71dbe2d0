/-! ===== the law from its entry on ===== -/
theorem arrV_eq {cI : ClassId} {N : Nat} {f g : Nat → Value} (h : ∀ i, i < N → f i = g i) : arrV cI N f = arrV cI N g := by
  have e : (fun j : Fin N => f j.val) = fun j : Fin N => g j.val := funext fun j => h j.val j.isLt
  unfold arrV
  rw [e]
theorem cell_rf {cA : ClassId} {f g : Nat → Option Nat} (h : ∀ i, i < 4 → f i = g i) : vp_cell cA (4, .inr (.inr (.inr (.inr f)))) = vp_cell cA (4, .inr (.inr (.inr (.inr g)))) := by
  show arrV cA 4 (fun j => va_rf (f j)) = arrV cA 4 (fun j => va_rf (g j))
  exact arrV_eq (fun i hi => by rw [h i hi])
def S_0 : Nat → Nat := fun _ => 0
def G_0 : Nat → Nat → Int32 := fun _ _ => 0
def R_0 : Nat → Int32 := fun _ => 0
def N_0 : Nat → Nat → Int32 := fun r => if r = 1 then upd (upd (upd (upd (fun _ => 0) 0 (-9)) 1 (-9)) 2 (-9)) 3 (-9) else fun _ => 0
theorem wf_0 : wfC S_0 G_0 := ⟨⟨by decide, by decide, by decide, fun _ _ => ⟨Nat.zero_le _, by show 0 < 6; decide, by show 0 < 64; decide⟩⟩, fun _ _ => ⟨Nat.zero_le _, Nat.zero_le _, Nat.zero_le _⟩, ⟨Nat.zero_le _, fun r h => absurd h (Nat.not_lt_zero r)⟩, Nat.zero_le _, ⟨fun _ => rfl, fun _ => rfl⟩, by decide⟩
theorem rel_0 : relA 0 S_0 G_0 R_0 N_0 := by
  refine ⟨rfl, rfl, ⟨rfl, rfl, rfl, rfl, fun _ _ => ⟨rfl, rfl, rfl⟩⟩, ⟨rfl, rfl, rfl, rfl⟩, fun k hk => ⟨fun _ => ?_, fun z => absurd z (by show ¬ (0 = 1); decide)⟩⟩
  rcases four hk with rfl | rfl | rfl | rfl <;> rfl
def adC_of (q0 : Nat) (u : List Nat) : Nat → Nat := fun k => ([q0, u.getD 0 0, u.getD 19 0, u.getD 20 0, u.getD 21 0, u.getD 22 0, u.getD 23 0, u.getD 24 0, u.getD 25 0, u.getD 26 0, u.getD 1 0, u.getD 2 0, u.getD 3 0, u.getD 4 0, u.getD 5 0, u.getD 6 0, u.getD 7 0, u.getD 8 0, u.getD 9 0, u.getD 10 0, u.getD 11 0, u.getD 12 0, u.getD 13 0, u.getD 14 0, u.getD 15 0, u.getD 16 0, u.getD 17 0, u.getD 18 0] : List Nat).getD k 0
def adM_of (qm : Nat) (v : List Nat) : Nat → Nat := fun k => ([qm, v.getD 0 0, v.getD 1 0, v.getD 2 0, v.getD 3 0, v.getD 4 0, v.getD 5 0, v.getD 6 0, v.getD 7 0, v.getD 8 0, v.getD 9 0, v.getD 10 0, v.getD 11 0, v.getD 12 0, v.getD 13 0, v.getD 14 0, v.getD 15 0] : List Nat).getD k 0
def pi_C : Nat → Nat := fun k => ([0, 1, 20, 21, 22, 23, 24, 25, 26, 27, 2, 3, 4, 5, 6, 7, 8, 9, 10, 11, 12, 13, 14, 15, 16, 17, 18, 19] : List Nat).getD k 0
theorem pi_inj : ∀ i, i < 28 → ∀ j, j < 28 → pi_C i = pi_C j → i = j := by decide +kernel
theorem pi_lt : ∀ i, i < 28 → pi_C i < 28 := by decide +kernel
theorem cw_k {ad dA : Nat → Nat} {hp : ip_H} {k : Nat} {q : Nat × va_E} (h : (ip_cw ad dA hp)[k]? = some q) : k < hp.length ∧ q.1 = ad k := by
  simp only [ip_cw, List.getElem?_mapIdx] at h
  obtain ⟨x, hx, rfl⟩ := Option.map_eq_some_iff.mp h
  exact ⟨(List.getElem?_eq_some_iff.mp hx).1, rfl⟩
set_option maxHeartbeats 8000000 in
theorem pcC {D : va_G} {dA : Nat → Nat} {q0 qm : Nat} {u v : List Nat} {H : Heap} (hP : va_P D vwCl (Wd_X7 dA q0 u ++ Wd_X8 dA qm v) H) : ∀ (k : Nat) (q : Nat × va_E), (ip_cw (adC_of q0 u) dA (hpC 0 S_0 G_0))[k]? = some q → va_at D vwCl q H := by
  intro k q hk
  have hk28 : k < 28 := (cw_k hk).1
  rcases (show k = 0 ∨ k = 1 ∨ k = 2 ∨ k = 3 ∨ k = 4 ∨ k = 5 ∨ k = 6 ∨ k = 7 ∨ k = 8 ∨ k = 9 ∨ k = 10 ∨ k = 11 ∨ k = 12 ∨ k = 13 ∨ k = 14 ∨ k = 15 ∨ k = 16 ∨ k = 17 ∨ k = 18 ∨ k = 19 ∨ k = 20 ∨ k = 21 ∨ k = 22 ∨ k = 23 ∨ k = 24 ∨ k = 25 ∨ k = 26 ∨ k = 27 by omega) with rfl | rfl | rfl | rfl | rfl | rfl | rfl | rfl | rfl | rfl | rfl | rfl | rfl | rfl | rfl | rfl | rfl | rfl | rfl | rfl | rfl | rfl | rfl | rfl | rfl | rfl | rfl | rfl
  · have h := ip_cw_at (ad := adC_of q0 u) (dA := dA) (hp := hpC 0 S_0 G_0) (q := 0) rfl
    rw [h] at hk
    obtain rfl := Option.some.inj hk
    exact hP 0 _ rfl
  · have h := ip_cw_at (ad := adC_of q0 u) (dA := dA) (hp := hpC 0 S_0 G_0) (q := 1) rfl
    rw [h] at hk
    obtain rfl := Option.some.inj hk
    have h1 := hP 1 _ rfl
    exact Eq.trans h1 (congrArg some (cell_rf (fun i hi => by rcases (show i = 0 ∨ i = 1 ∨ i = 2 ∨ i = 3 by omega) with rfl | rfl | rfl | rfl <;> rfl)))
  · have h := ip_cw_at (ad := adC_of q0 u) (dA := dA) (hp := hpC 0 S_0 G_0) (q := 2) rfl
    rw [h] at hk
    obtain rfl := Option.some.inj hk
    exact hP 20 _ rfl
  · have h := ip_cw_at (ad := adC_of q0 u) (dA := dA) (hp := hpC 0 S_0 G_0) (q := 3) rfl
    rw [h] at hk
    obtain rfl := Option.some.inj hk
    exact hP 21 _ rfl
  · have h := ip_cw_at (ad := adC_of q0 u) (dA := dA) (hp := hpC 0 S_0 G_0) (q := 4) rfl
    rw [h] at hk
    obtain rfl := Option.some.inj hk
    exact hP 22 _ rfl
  · have h := ip_cw_at (ad := adC_of q0 u) (dA := dA) (hp := hpC 0 S_0 G_0) (q := 5) rfl
    rw [h] at hk
    obtain rfl := Option.some.inj hk
    exact hP 23 _ rfl
  · have h := ip_cw_at (ad := adC_of q0 u) (dA := dA) (hp := hpC 0 S_0 G_0) (q := 6) rfl
    rw [h] at hk
    obtain rfl := Option.some.inj hk
    exact hP 24 _ rfl
  · have h := ip_cw_at (ad := adC_of q0 u) (dA := dA) (hp := hpC 0 S_0 G_0) (q := 7) rfl
    rw [h] at hk
    obtain rfl := Option.some.inj hk
    exact hP 25 _ rfl
  · have h := ip_cw_at (ad := adC_of q0 u) (dA := dA) (hp := hpC 0 S_0 G_0) (q := 8) rfl
    rw [h] at hk
    obtain rfl := Option.some.inj hk
    exact hP 26 _ rfl
  · have h := ip_cw_at (ad := adC_of q0 u) (dA := dA) (hp := hpC 0 S_0 G_0) (q := 9) rfl
    rw [h] at hk
    obtain rfl := Option.some.inj hk
    exact hP 27 _ rfl
  · have h := ip_cw_at (ad := adC_of q0 u) (dA := dA) (hp := hpC 0 S_0 G_0) (q := 10) rfl
    rw [h] at hk
    obtain rfl := Option.some.inj hk
    exact hP 2 _ rfl
  · have h := ip_cw_at (ad := adC_of q0 u) (dA := dA) (hp := hpC 0 S_0 G_0) (q := 11) rfl
    rw [h] at hk
    obtain rfl := Option.some.inj hk
    have h1 := hP 3 _ rfl
    exact Eq.trans h1 (congrArg some (cell_rf (fun i hi => by rcases (show i = 0 ∨ i = 1 ∨ i = 2 ∨ i = 3 by omega) with rfl | rfl | rfl | rfl <;> rfl)))
  · have h := ip_cw_at (ad := adC_of q0 u) (dA := dA) (hp := hpC 0 S_0 G_0) (q := 12) rfl
    rw [h] at hk
    obtain rfl := Option.some.inj hk
    exact hP 4 _ rfl
  · have h := ip_cw_at (ad := adC_of q0 u) (dA := dA) (hp := hpC 0 S_0 G_0) (q := 13) rfl
    rw [h] at hk
    obtain rfl := Option.some.inj hk
    exact hP 5 _ rfl
  · have h := ip_cw_at (ad := adC_of q0 u) (dA := dA) (hp := hpC 0 S_0 G_0) (q := 14) rfl
    rw [h] at hk
    obtain rfl := Option.some.inj hk
    exact hP 6 _ rfl
  · have h := ip_cw_at (ad := adC_of q0 u) (dA := dA) (hp := hpC 0 S_0 G_0) (q := 15) rfl
    rw [h] at hk
    obtain rfl := Option.some.inj hk
    exact hP 7 _ rfl
  · have h := ip_cw_at (ad := adC_of q0 u) (dA := dA) (hp := hpC 0 S_0 G_0) (q := 16) rfl
    rw [h] at hk
    obtain rfl := Option.some.inj hk
    exact hP 8 _ rfl
  · have h := ip_cw_at (ad := adC_of q0 u) (dA := dA) (hp := hpC 0 S_0 G_0) (q := 17) rfl
    rw [h] at hk
    obtain rfl := Option.some.inj hk
    exact hP 9 _ rfl
  · have h := ip_cw_at (ad := adC_of q0 u) (dA := dA) (hp := hpC 0 S_0 G_0) (q := 18) rfl
    rw [h] at hk
    obtain rfl := Option.some.inj hk
    exact hP 10 _ rfl
  · have h := ip_cw_at (ad := adC_of q0 u) (dA := dA) (hp := hpC 0 S_0 G_0) (q := 19) rfl
    rw [h] at hk
    obtain rfl := Option.some.inj hk
    exact hP 11 _ rfl
  · have h := ip_cw_at (ad := adC_of q0 u) (dA := dA) (hp := hpC 0 S_0 G_0) (q := 20) rfl
    rw [h] at hk
    obtain rfl := Option.some.inj hk
    exact hP 12 _ rfl
  · have h := ip_cw_at (ad := adC_of q0 u) (dA := dA) (hp := hpC 0 S_0 G_0) (q := 21) rfl
    rw [h] at hk
    obtain rfl := Option.some.inj hk
    exact hP 13 _ rfl
  · have h := ip_cw_at (ad := adC_of q0 u) (dA := dA) (hp := hpC 0 S_0 G_0) (q := 22) rfl
    rw [h] at hk
    obtain rfl := Option.some.inj hk
    exact hP 14 _ rfl
  · have h := ip_cw_at (ad := adC_of q0 u) (dA := dA) (hp := hpC 0 S_0 G_0) (q := 23) rfl
    rw [h] at hk
    obtain rfl := Option.some.inj hk
    exact hP 15 _ rfl
  · have h := ip_cw_at (ad := adC_of q0 u) (dA := dA) (hp := hpC 0 S_0 G_0) (q := 24) rfl
    rw [h] at hk
    obtain rfl := Option.some.inj hk
    exact hP 16 _ rfl
  · have h := ip_cw_at (ad := adC_of q0 u) (dA := dA) (hp := hpC 0 S_0 G_0) (q := 25) rfl
    rw [h] at hk
    obtain rfl := Option.some.inj hk
    exact hP 17 _ rfl
  · have h := ip_cw_at (ad := adC_of q0 u) (dA := dA) (hp := hpC 0 S_0 G_0) (q := 26) rfl
    rw [h] at hk
    obtain rfl := Option.some.inj hk
    exact hP 18 _ rfl
  · have h := ip_cw_at (ad := adC_of q0 u) (dA := dA) (hp := hpC 0 S_0 G_0) (q := 27) rfl
    rw [h] at hk
    obtain rfl := Option.some.inj hk
    exact hP 19 _ rfl
set_option maxHeartbeats 8000000 in
theorem pcM {D : va_G} {dA : Nat → Nat} {q0 qm : Nat} {u v : List Nat} {H : Heap} (hP : va_P D vwCl (Wd_X7 dA q0 u ++ Wd_X8 dA qm v) H) : ∀ (k : Nat) (q : Nat × va_E), (ip_cw (adM_of qm v) dA (hpM R_0 N_0))[k]? = some q → va_at D vwCl q H := by
  intro k q hk
  have hk17 : k < 17 := (cw_k hk).1
  rcases (show k = 0 ∨ k = 1 ∨ k = 2 ∨ k = 3 ∨ k = 4 ∨ k = 5 ∨ k = 6 ∨ k = 7 ∨ k = 8 ∨ k = 9 ∨ k = 10 ∨ k = 11 ∨ k = 12 ∨ k = 13 ∨ k = 14 ∨ k = 15 ∨ k = 16 by omega) with rfl | rfl | rfl | rfl | rfl | rfl | rfl | rfl | rfl | rfl | rfl | rfl | rfl | rfl | rfl | rfl | rfl
  · have h := ip_cw_at (ad := adM_of qm v) (dA := dA) (hp := hpM R_0 N_0) (q := 0) rfl
    rw [h] at hk
    obtain rfl := Option.some.inj hk
    exact hP 28 _ rfl
  · have h := ip_cw_at (ad := adM_of qm v) (dA := dA) (hp := hpM R_0 N_0) (q := 1) rfl
    rw [h] at hk
    obtain rfl := Option.some.inj hk
    exact hP 29 _ rfl
  · have h := ip_cw_at (ad := adM_of qm v) (dA := dA) (hp := hpM R_0 N_0) (q := 2) rfl
    rw [h] at hk
    obtain rfl := Option.some.inj hk
    exact hP 30 _ rfl
  · have h := ip_cw_at (ad := adM_of qm v) (dA := dA) (hp := hpM R_0 N_0) (q := 3) rfl
    rw [h] at hk
    obtain rfl := Option.some.inj hk
    exact hP 31 _ rfl
  · have h := ip_cw_at (ad := adM_of qm v) (dA := dA) (hp := hpM R_0 N_0) (q := 4) rfl
    rw [h] at hk
    obtain rfl := Option.some.inj hk
    exact hP 32 _ rfl
  · have h := ip_cw_at (ad := adM_of qm v) (dA := dA) (hp := hpM R_0 N_0) (q := 5) rfl
    rw [h] at hk
    obtain rfl := Option.some.inj hk
    exact hP 33 _ rfl
  · have h := ip_cw_at (ad := adM_of qm v) (dA := dA) (hp := hpM R_0 N_0) (q := 6) rfl
    rw [h] at hk
    obtain rfl := Option.some.inj hk
    exact hP 34 _ rfl
  · have h := ip_cw_at (ad := adM_of qm v) (dA := dA) (hp := hpM R_0 N_0) (q := 7) rfl
    rw [h] at hk
    obtain rfl := Option.some.inj hk
    exact hP 35 _ rfl
  · have h := ip_cw_at (ad := adM_of qm v) (dA := dA) (hp := hpM R_0 N_0) (q := 8) rfl
    rw [h] at hk
    obtain rfl := Option.some.inj hk
    exact hP 36 _ rfl
  · have h := ip_cw_at (ad := adM_of qm v) (dA := dA) (hp := hpM R_0 N_0) (q := 9) rfl
    rw [h] at hk
    obtain rfl := Option.some.inj hk
    exact hP 37 _ rfl
  · have h := ip_cw_at (ad := adM_of qm v) (dA := dA) (hp := hpM R_0 N_0) (q := 10) rfl
    rw [h] at hk
    obtain rfl := Option.some.inj hk
    exact hP 38 _ rfl
  · have h := ip_cw_at (ad := adM_of qm v) (dA := dA) (hp := hpM R_0 N_0) (q := 11) rfl
    rw [h] at hk
    obtain rfl := Option.some.inj hk
    exact hP 39 _ rfl
  · have h := ip_cw_at (ad := adM_of qm v) (dA := dA) (hp := hpM R_0 N_0) (q := 12) rfl
    rw [h] at hk
    obtain rfl := Option.some.inj hk
    exact hP 40 _ rfl
  · have h := ip_cw_at (ad := adM_of qm v) (dA := dA) (hp := hpM R_0 N_0) (q := 13) rfl
    rw [h] at hk
    obtain rfl := Option.some.inj hk
    exact hP 41 _ rfl
  · have h := ip_cw_at (ad := adM_of qm v) (dA := dA) (hp := hpM R_0 N_0) (q := 14) rfl
    rw [h] at hk
    obtain rfl := Option.some.inj hk
    exact hP 42 _ rfl
  · have h := ip_cw_at (ad := adM_of qm v) (dA := dA) (hp := hpM R_0 N_0) (q := 15) rfl
    rw [h] at hk
    obtain rfl := Option.some.inj hk
    exact hP 43 _ rfl
  · have h := ip_cw_at (ad := adM_of qm v) (dA := dA) (hp := hpM R_0 N_0) (q := 16) rfl
    rw [h] at hk
    obtain rfl := Option.some.inj hk
    exact hP 44 _ rfl
theorem atC (dA : Nat → Nat) (q0 qm : Nat) (u v : List Nat) : ∀ k, k < 28 → ∃ x, (Wd_X7 dA q0 u ++ Wd_X8 dA qm v)[pi_C k]? = some (adC_of q0 u k, x)
  | 0, _ => ⟨_, rfl⟩
  | 1, _ => ⟨_, rfl⟩
  | 2, _ => ⟨_, rfl⟩
  | 3, _ => ⟨_, rfl⟩
  | 4, _ => ⟨_, rfl⟩
  | 5, _ => ⟨_, rfl⟩
  | 6, _ => ⟨_, rfl⟩
  | 7, _ => ⟨_, rfl⟩
  | 8, _ => ⟨_, rfl⟩
  | 9, _ => ⟨_, rfl⟩
  | 10, _ => ⟨_, rfl⟩
  | 11, _ => ⟨_, rfl⟩
  | 12, _ => ⟨_, rfl⟩
  | 13, _ => ⟨_, rfl⟩
  | 14, _ => ⟨_, rfl⟩
  | 15, _ => ⟨_, rfl⟩
  | 16, _ => ⟨_, rfl⟩
  | 17, _ => ⟨_, rfl⟩
  | 18, _ => ⟨_, rfl⟩
  | 19, _ => ⟨_, rfl⟩
  | 20, _ => ⟨_, rfl⟩
  | 21, _ => ⟨_, rfl⟩
  | 22, _ => ⟨_, rfl⟩
  | 23, _ => ⟨_, rfl⟩
  | 24, _ => ⟨_, rfl⟩
  | 25, _ => ⟨_, rfl⟩
  | 26, _ => ⟨_, rfl⟩
  | 27, _ => ⟨_, rfl⟩
  | k + 28, h => absurd h (by omega)
theorem atM (dA : Nat → Nat) (q0 qm : Nat) (u v : List Nat) : ∀ k, k < 17 → ∃ x, (Wd_X7 dA q0 u ++ Wd_X8 dA qm v)[28 + k]? = some (adM_of qm v k, x)
  | 0, _ => ⟨_, rfl⟩
  | 1, _ => ⟨_, rfl⟩
  | 2, _ => ⟨_, rfl⟩
  | 3, _ => ⟨_, rfl⟩
  | 4, _ => ⟨_, rfl⟩
  | 5, _ => ⟨_, rfl⟩
  | 6, _ => ⟨_, rfl⟩
  | 7, _ => ⟨_, rfl⟩
  | 8, _ => ⟨_, rfl⟩
  | 9, _ => ⟨_, rfl⟩
  | 10, _ => ⟨_, rfl⟩
  | 11, _ => ⟨_, rfl⟩
  | 12, _ => ⟨_, rfl⟩
  | 13, _ => ⟨_, rfl⟩
  | 14, _ => ⟨_, rfl⟩
  | 15, _ => ⟨_, rfl⟩
  | 16, _ => ⟨_, rfl⟩
  | k + 17, h => absurd h (by omega)
theorem perm_D {A : Nat → Prop} {ws : va_W} {ad dA : Nat → Nat} {hp : ip_H} (pi : Nat → Nat) (hinj : ∀ i, i < hp.length → ∀ j, j < hp.length → pi i = pi j → i = j) (hat : ∀ k, k < hp.length → ∃ x, ws[pi k]? = some (ad k, x)) (hD : va_D A ws) : va_D A (ip_cw ad dA hp) := by
  refine ⟨fun i j p q h1 h2 e => ?_, fun k q hq => ?_⟩
  · obtain ⟨l1, e1⟩ := cw_k h1
    obtain ⟨l2, e2⟩ := cw_k h2
    obtain ⟨x1, g1⟩ := hat i l1
    obtain ⟨x2, g2⟩ := hat j l2
    exact hinj i l1 j l2 (hD.1 _ _ _ _ g1 g2 (by show ad i = ad j; rw [← e1, ← e2]; exact e))
  · obtain ⟨l1, e1⟩ := cw_k hq
    obtain ⟨x1, g1⟩ := hat k l1
    rw [e1]
    exact hD.2 _ _ g1
set_option maxRecDepth 100000 in
set_option maxHeartbeats 8000000 in
theorem whole_start {p : Program} {e : Env} {s : State} {m : MethodId} {below : List Frame} {meth : Method} {c : Code} (l : Launch) {b L : Nat} {xs : Nat → Int32} (hL : L ≤ 3072) (C0 : lw_At p s m meth c b L xs) : W p l e room_1 s m #[Value.ref b] below meth c s.heap [] 0 0 (lw_Z below #[Value.ref b] s) (entryFrame m ([Value.ref b] : List Value).toArray 4) := by
  obtain ⟨hx, hb, hr, hml, hown, hts0, hX, hbl, hlocks, hgv⟩ := id C0
  have hts : ∀ w ∈ ip_ws, w.before #[Value.ref b] s = true := fun w h => hts0 w (ip_ws_tbl w h)
  have hown : s.vm.findClass RL = some m.cls := hown
  have hA : ∀ q : Nat, s.heap.size ≤ q → (fun q : Nat => s.heap.size ≤ q) q := fun _ h => h
  obtain ⟨c0, i0, k0⟩ := u_known (C := RX0) (T := TX0) (N := 4) (n := 4) hts ip_inX0 (hts (.instantiable RX0 4) (ip_w1 57 (by decide +kernel) (by decide +kernel)))
  obtain ⟨c1, i1, k1⟩ := u_known (C := RX2) (T := TX2) (N := 3) (n := 3) hts ip_inX2 (hts (.instantiable RX2 3) (ip_w1 64 (by decide +kernel) (by decide +kernel)))
  obtain ⟨c2, i2, k2⟩ := u_known (C := RX3) (T := TX3) (N := 7) (n := 7) hts ip_inX3 (hts (.instantiable RX3 7) (ip_w1 155 (by decide +kernel) (by decide +kernel)))
  obtain ⟨c3, i3, k3⟩ := u_known (C := RX4) (T := TX4) (N := 4) (n := 4) hts ip_inX4 (hts (.instantiable RX4 4) (ip_w1 113 (by decide +kernel) (by decide +kernel)))
  obtain ⟨c4, i4, k4⟩ := u_known (C := RX5) (T := TX5) (N := 4) (n := 4) hts ip_inX5 (hts (.instantiable RX5 4) (ip_w1 183 (by decide +kernel) (by decide +kernel)))
  obtain ⟨c5, i5, k5⟩ := u_known (C := RX6) (T := TX6) (N := 3) (n := 3) hts ip_inX6 (hts (.instantiable RX6 3) (ip_w1 135 (by decide +kernel) (by decide +kernel)))
  obtain ⟨c6, i6, k6⟩ := u_known (C := RX7) (T := TX7) (N := 7) (n := 7) hts ip_inX7 (hts (.instantiable RX7 7) (ip_w1 47 (by decide +kernel) (by decide +kernel)))
  obtain ⟨c7, i7, k7⟩ := u_known (C := RX8) (T := TX8) (N := 28) (n := 28) hts ip_inX8 (hts (.instantiable RX8 28) (ip_w1 619 (by decide +kernel) (by decide +kernel)))
  obtain ⟨D, hKc⟩ : ∃ D : va_G, ∀ (k : Nat) (q : vw_C), vwCl[k]? = some q → u_Kn s q.1 q.2.1 q.2.2 (D.1 k) (D.2 k) := by
    refine ⟨(fun k => [c0, c1, c2, c3, c4, c5, c6, c7].getD k c0, fun k => [i0, i1, i2, i3, i4, i5, i6, i7].getD k i0), ?_⟩
    intro k q hq
    match k, hq with
    | 0, hq => cases hq; exact k0
    | 1, hq => cases hq; exact k1
    | 2, hq => cases hq; exact k2
    | 3, hq => cases hq; exact k3
    | 4, hq => cases hq; exact k4
    | 5, hq => cases hq; exact k5
    | 6, hq => cases hq; exact k6
    | 7, hq => cases hq; exact k7
    | k + 8, hq => simp [vwCl] at hq
  obtain ⟨a0, kA0, m0, f0, g0, j0⟩ := Cond.arrayClass_spec (hts (.arrayClass .int) (ip_w1 132 (by decide +kernel) (by decide +kernel)))
  obtain ⟨a1, kA1, m1, f1, g1, j1⟩ := Cond.arrayClass_spec (hts (.arrayClass .boolean) (ip_w1 133 (by decide +kernel) (by decide +kernel)))
  have o2 : va_AO "ThunderAsks$Sheet" s := va_AO.of (hts0 _ (List.mem_of_getElem? (i := 55) (by decide +kernel)))
  have o3 : va_AO "ThunderAsks$Man" s := va_AO.of (hts0 _ (List.mem_of_getElem? (i := 63) (by decide +kernel)))
  obtain ⟨m2, a2, kA2, x2, -, g2, j2, f2⟩ := Cond.arrayOver_spec o2
  obtain ⟨m3, a3, kA3, x3, -, g3, j3, f3⟩ := Cond.arrayOver_spec o3
  obtain ⟨dA, hdA⟩ : ∃ dA : Nat → Nat, dA 0 = a0 ∧ dA 1 = a1 ∧ dA 2 = a2 ∧ dA 3 = a3 := ⟨fun t => [a0, a1, a2, a3].getD t 0, rfl, rfl, rfl, rfl⟩
  have hK : va_K D vwCl (ip_tys dA) s := by
    refine ⟨hKc, fun k q hq => ?_⟩
    obtain ⟨d0, d1, d2, d3⟩ := hdA
    match k, hq with
    | 0, hq => cases hq; rw [d0]; exact ⟨fun n z => ⟨fun k h => (by cases h), kA0, g0, m0, j0⟩, f0⟩
    | 1, hq => cases hq; rw [d1]; exact ⟨fun n z => ⟨fun k h => (by cases h), kA1, g1, m1, j1⟩, f1⟩
    | 2, hq => cases hq; rw [d2]; exact ⟨fun n z => ⟨fun k h => (by cases h), kA2, g2, m2, j2⟩, kA2, m2, g2, j2, x2, f2⟩
    | 3, hq => cases hq; rw [d3]; exact ⟨fun n z => ⟨fun k h => (by cases h), kA3, g3, m3, j3⟩, kA3, m3, g3, j3, x3, f3⟩
    | k + 4, hq => simp [ip_tys] at hq
  have hNi : ip_N s := ⟨va_Nw.of rfl (hts0 _ (List.mem_of_getElem? (i := 349) (by decide +kernel))), va_Nw.of rfl (hts0 _ (List.mem_of_getElem? (i := 404) (by decide +kernel)))⟩
  have hNc : ic_N s := ⟨va_Nw.of rfl (hts0 _ (List.mem_of_getElem? (i := 65) (by decide +kernel))), va_Nw.of rfl (hts0 _ (List.mem_of_getElem? (i := 114) (by decide +kernel))), va_Nw.of rfl (hts0 _ (List.mem_of_getElem? (i := 136) (by decide +kernel))), va_Nw.of rfl (hts0 _ (List.mem_of_getElem? (i := 156) (by decide +kernel))), va_Nw.of rfl (hts0 _ (List.mem_of_getElem? (i := 184) (by decide +kernel))), o3, o2⟩
  have hS : va_S (fun q : Nat => s.heap.size ≤ q) s.heap s.heap [] := va_S.rf
  have hP : va_P D vwCl [] s.heap := fun k q h => by simp at h
  have hD : va_D (fun q : Nat => s.heap.size ≤ q) [] := ⟨fun i j p q h => by simp at h, fun k q h => by simp at h⟩
  have hl := lv_entry ([.ref b]) (n := 4) (Nat.le_of_ble_eq_true rfl)
  rw [lg_entry_eq]
  generalize (lg_sl ([.ref b]) ++ List.replicate (4 - (lg_sl ([.ref b])).length) Slot.unset).toArray = ls at hl ⊢
  have hl : lv_has ls 4 [(0, .ref b)] := hl
  refine va_new (ci := 6) (fs := [.null, .null, .null, .null, .null, .int 0, .int 0]) (C := RX7) (T := TX7) (N := 7) hx hb hts ip_inX7 tyX7 tyX7_ok hown (hts (.classLink RL 7 RX7) (ip_w1 46 (by decide +kernel) (by decide +kernel))) (hts (.instantiable RX7 7) (ip_w1 47 (by decide +kernel) (by decide +kernel))) (hts (.initialized RX7) (ip_w1 32 (by decide +kernel) (by decide +kernel))) hK hP hD hS hA rfl (fun j hj => by rcases (show j = 0 ∨ j = 1 ∨ j = 2 ∨ j = 3 ∨ j = 4 ∨ j = 5 ∨ j = 6 by omega) with rfl | rfl | rfl | rfl | rfl | rfl | rfl <;> rfl) (Nat.le_of_ble_eq_true rfl) (Nat.le_of_ble_eq_true rfl) (by decide +kernel) (fun q0 H hP hD hS => ?_)
  refine lv_dup hx hb (by decide +kernel) rfl ?_
  refine ic_callP (own := RL) (idx := 9) (ct_X7 l) (ip_in [50, 32, 49, 48] (by decide +kernel) (by decide +kernel)) ⟨by decide +kernel, by decide +kernel, by decide +kernel⟩ rfl ⟨rfl, rfl, Nat.le_of_ble_eq_true rfl, Nat.le_of_ble_eq_true rfl⟩ hx hb hml hown hts hK hNc hA ⟨Nat.le_of_ble_eq_true rfl, Nat.le_of_ble_eq_true rfl⟩ hl.1 (Nat.le_of_ble_eq_true rfl) (by decide +kernel) hP hD hS (fun u H locs _ hP hD hS => ?_)
  refine lv_astore_n (k := 1) (lv' := [(1, .ref q0), (0, .ref b)]) hx hb (by decide +kernel) rfl hl (by decide) rfl (fun ls hl => ?_)
  have hP : va_P D vwCl (Wd_X7 dA q0 u) H := hP
  have hD : va_D (fun q : Nat => s.heap.size ≤ q) (Wd_X7 dA q0 u) := hD
  refine va_new (ci := 7) (fs := [.int 0, .int 0, .null, .null, .null, .int 0, .int 0, .int 0, .null, .null, .null, .int 0, .int 0, .int 0, .int 0, .int 0, .null, .int 0, .null, .null, .null, .null, .null, .null, .int 0, .null, .null, .null]) (C := RX8) (T := TX8) (N := 28) hx hb hts ip_inX8 tyX8 tyX8_ok hown (hts (.classLink RL 10 RX8) (ip_w1 618 (by decide +kernel) (by decide +kernel))) (hts (.instantiable RX8 28) (ip_w1 619 (by decide +kernel) (by decide +kernel))) (hts (.initialized RX8) (ip_w1 39 (by decide +kernel) (by decide +kernel))) hK hP hD hS hA rfl (fun j hj => by rcases (show j = 0 ∨ j = 1 ∨ j = 2 ∨ j = 3 ∨ j = 4 ∨ j = 5 ∨ j = 6 ∨ j = 7 ∨ j = 8 ∨ j = 9 ∨ j = 10 ∨ j = 11 ∨ j = 12 ∨ j = 13 ∨ j = 14 ∨ j = 15 ∨ j = 16 ∨ j = 17 ∨ j = 18 ∨ j = 19 ∨ j = 20 ∨ j = 21 ∨ j = 22 ∨ j = 23 ∨ j = 24 ∨ j = 25 ∨ j = 26 ∨ j = 27 by omega) with rfl | rfl | rfl | rfl | rfl | rfl | rfl | rfl | rfl | rfl | rfl | rfl | rfl | rfl | rfl | rfl | rfl | rfl | rfl | rfl | rfl | rfl | rfl | rfl | rfl | rfl | rfl | rfl <;> rfl) (Nat.le_of_ble_eq_true rfl) (Nat.le_of_ble_eq_true rfl) (by decide +kernel) (fun qm H hP hD hS => ?_)
  refine lv_dup hx hb (by decide +kernel) rfl ?_
  refine ic_callP (own := RL) (idx := 12) (ct_X8 l) (ip_in [622, 39, 621, 620] (by decide +kernel) (by decide +kernel)) ⟨by decide +kernel, by decide +kernel, by decide +kernel⟩ rfl ⟨rfl, rfl, Nat.le_of_ble_eq_true rfl, Nat.le_of_ble_eq_true rfl⟩ hx hb hml hown hts hK hNc hA ⟨Nat.le_of_ble_eq_true rfl, Nat.le_of_ble_eq_true rfl⟩ hl.1 (Nat.le_of_ble_eq_true rfl) (by decide +kernel) hP hD hS (fun v H locs _ hP hD hS => ?_)
  refine lv_astore_n (k := 2) (lv' := [(2, .ref qm), (1, .ref q0), (0, .ref b)]) hx hb (by decide +kernel) rfl hl (by decide) rfl (fun ls hl => ?_)
  refine lv_iconst (n := 0) (v := 0) hx hb (by decide +kernel) (by decide) ?_
  refine lv_istore_n (k := 3) (lv' := [(3, .int 0), (2, .ref qm), (1, .ref q0), (0, .ref b)]) hx hb (by decide +kernel) rfl hl (by decide) rfl (fun ls hl => ?_)
  have hXX : ∀ i j, i < 28 → j < 17 → adC_of q0 u i ≠ adM_of qm v j := fun i j hi hj z => by
    obtain ⟨x1, h1⟩ := atC dA q0 qm u v i hi
    obtain ⟨x2, h2⟩ := atM dA q0 qm u v j hj
    have h3 := hD.1 _ _ _ _ h1 h2 z
    have h4 := pi_lt i hi
    omega
  have hst : lw_St s D dA (adC_of q0 u) (adM_of qm v) H locs := ⟨0, S_0, G_0, R_0, N_0, wf_0, rel_0, pcC hP, pcM hP, perm_D (hp := hpC 0 S_0 G_0) pi_C pi_inj (atC dA q0 qm u v) hD, perm_D (hp := hpM R_0 N_0) (fun k => 28 + k) (fun i _ j _ h => by omega) (atM dA q0 qm u v) hD, hS⟩
  exact law_loop hL C0 hK hNi ⟨Nat.le_of_ble_eq_true rfl, Nat.le_of_ble_eq_true rfl⟩ hXX (L + 1) 0 (Nat.zero_le _) (by omega) H locs ls hst (lv_sub hl [3, 2, 1, 0] rfl)
