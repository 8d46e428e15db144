/-! ===== the law's stations: its loops ===== -/
section STATIONS
variable {M : ps_M} {h a b : Nat} {gv : Nat → Int32}
theorem l_66a (hx : DI M 1 h a b gv) {s hh : Nat} (hs : s < a) (hhh : hh ≤ 15) {r : Int32 → Int32 → Int32 → Int32 → Int32 → Int32 → Int32 → Int32 → Int32 → Int32 → ps_M → Int32 × ps_M} {o : Int32 → Int32 → Int32 → Int32 → Int32 → Int32 → Int32 → Int32 → Int32 → Int32 → ps_M → Prop} {x3 x4 x5 x6 x7 x8 x9 x10 : Int32} : ∀ (k t n : Nat) (x12 x13 : Int32), t + k = 15 → k < n → fv_L_stations_66 r n (nI hh) x3 x4 x5 x6 x7 x8 x9 x10 (nI s) x12 x13 (nI t) M = fv_L_stations_66 r 1 (nI hh) x3 x4 x5 x6 x7 x8 x9 x10 (nI s) (pq_sm (fun t => if t < hh then M (1 + 1 + 1 + 2 * s + 1) t else 0) k t x12) (pq_sm (fun t => M (1 + 1 + 1 + 2 * s + 1) t) k t x13) (nI 15) M ∧ (ok_L_stations_66 r o 1 (nI hh) x3 x4 x5 x6 x7 x8 x9 x10 (nI s) (pq_sm (fun t => if t < hh then M (1 + 1 + 1 + 2 * s + 1) t else 0) k t x12) (pq_sm (fun t => M (1 + 1 + 1 + 2 * s + 1) t) k t x13) (nI 15) M → ok_L_stations_66 r o n (nI hh) x3 x4 x5 x6 x7 x8 x9 x10 (nI s) x12 x13 (nI t) M) := by
  have H1 := hx.1.1.2.1
  have ha := hx.1.2.2.1
  intro k
  induction k with
  | zero =>
    intro t n x12 x13 h1 h2
    cases n with
    | zero => omega
    | succ n =>
      have c15 : ((15 : Int32) ≤ nI 15) = True := pq_leT (b := 15) (c := 15) (by omega) (by omega) (by omega)
      rw [show t = 15 by omega]
      refine ⟨?_, ?_⟩
      · rw [fv_L_stations_66_s, fv_L_stations_66_s]
        simp only [c15, if_true]
        rfl
      · rw [ok_L_stations_66_s, ok_L_stations_66_s]
        simp only [c15, if_true, true_implies, not_true_eq_false, false_implies, and_true]
        exact id
  | succ k ih =>
    intro t n x12 x13 h1 h2
    cases n with
    | zero => omega
    | succ n =>
      have c15 : ((15 : Int32) ≤ nI t) = False := pq_leF (b := 15) (c := t) (by omega) (by omega)
      obtain ⟨e1, o1⟩ := v_ar H1 ha hs (t := t) (by omega)
      by_cases q : t < hh
      · have cq : (nI hh ≤ nI t) = False := pq_leF q (by omega)
        obtain ⟨i1, i2⟩ := ih (t + 1) n (x12 + M (1 + 1 + 1 + 2 * s + 1) t) (x13 + M (1 + 1 + 1 + 2 * s + 1) t) (by omega) (by omega)
        have e2 : pq_sm (fun t => if t < hh then M (1 + 1 + 1 + 2 * s + 1) t else 0) (k + 1) t x12 = pq_sm (fun t => if t < hh then M (1 + 1 + 1 + 2 * s + 1) t else 0) k (t + 1) (x12 + M (1 + 1 + 1 + 2 * s + 1) t) := by
          show pq_sm _ k (t + 1) (x12 + (if t < hh then M (1 + 1 + 1 + 2 * s + 1) t else 0)) = _
          rw [if_pos q]
        rw [e2]
        refine ⟨?_, fun hk => ?_⟩
        · rw [fv_L_stations_66_s]
          simp only [c15, cq, e1, fv_L_stations_93, pq_nIadd1, if_false]
          exact i1
        · have := i2 hk
          rw [ok_L_stations_66_s]
          simp only [c15, cq, e1, o1, ok_L_stations_93, pq_nIadd1, if_false, false_implies, not_false_eq_true, true_implies, true_and]
          exact this
      · have cq : (nI hh ≤ nI t) = True := pq_leT q (by omega) (by omega)
        obtain ⟨i1, i2⟩ := ih (t + 1) n (x12 + 0) (x13 + M (1 + 1 + 1 + 2 * s + 1) t) (by omega) (by omega)
        have e2 : pq_sm (fun t => if t < hh then M (1 + 1 + 1 + 2 * s + 1) t else 0) (k + 1) t x12 = pq_sm (fun t => if t < hh then M (1 + 1 + 1 + 2 * s + 1) t else 0) k (t + 1) (x12 + 0) := by
          show pq_sm _ k (t + 1) (x12 + (if t < hh then M (1 + 1 + 1 + 2 * s + 1) t else 0)) = _
          rw [if_neg q]
        rw [e2]
        refine ⟨?_, fun hk => ?_⟩
        · rw [fv_L_stations_66_s]
          simp only [c15, cq, e1, fv_L_stations_93, pq_nIadd1, if_true, if_false]
          exact i1
        · have := i2 hk
          rw [ok_L_stations_66_s]
          simp only [c15, cq, e1, o1, ok_L_stations_93, pq_nIadd1, if_true, if_false, false_implies, not_true_eq_false, not_false_eq_true, true_implies, true_and, and_true]
          exact this
theorem l_66 (hx : DI M 1 h a b gv) (hg : ∀ s, s < a → gv s = M 197 s) {s : Nat} (hs : s < a) {r : Int32 → Int32 → Int32 → Int32 → Int32 → Int32 → Int32 → Int32 → Int32 → Int32 → ps_M → Int32 × ps_M} {o : Int32 → Int32 → Int32 → Int32 → Int32 → Int32 → Int32 → Int32 → Int32 → Int32 → ps_M → Prop} {x3 x4 x5 x6 x7 x8 x9 x10 : Int32} : fv_L_stations_66 r ps_FU (nI (min h 15)) x3 x4 x5 x6 x7 x8 x9 x10 (nI s) 0 0 0 M = r (nI (min h 15)) (x3 + M (1 + 1 + 1 + 2 * s) 1) (x4 + M (1 + 1 + 1 + 2 * s) 3) (x5 + M (1 + 1 + 1 + 2 * s) 5) (x6 + M (1 + 1 + 1 + 2 * s) 6) (x7 + M (1 + 1 + 1 + 2 * s) 10) (x8 + M (1 + 1 + 1 + 2 * s) 4) (x9 + sR1 M s) (x10 + sW1 M s) (nI (s + 1)) M ∧ (o (nI (min h 15)) (x3 + M (1 + 1 + 1 + 2 * s) 1) (x4 + M (1 + 1 + 1 + 2 * s) 3) (x5 + M (1 + 1 + 1 + 2 * s) 5) (x6 + M (1 + 1 + 1 + 2 * s) 6) (x7 + M (1 + 1 + 1 + 2 * s) 10) (x8 + M (1 + 1 + 1 + 2 * s) 4) (x9 + sR1 M s) (x10 + sW1 M s) (nI (s + 1)) M → ok_L_stations_66 r o ps_FU (nI (min h 15)) x3 x4 x5 x6 x7 x8 x9 x10 (nI s) 0 0 0 M) := by
  have H1 := hx.1.1.2.1
  have ha := hx.1.2.2.1
  obtain ⟨i1, i2⟩ := l_66a hx hs (hh := min h 15) (by omega) (r := r) (o := o) (x3 := x3) (x4 := x4) (x5 := x5) (x6 := x6) (x7 := x7) (x8 := x8) (x9 := x9) (x10 := x10) 15 0 ps_FU 0 0 (by omega) (pq_fu (by omega))
  obtain ⟨g1, ⟨g2, g3, g4⟩, g5⟩ := p_S hx hs
  have bq := p_q hx hs
  -- who came
  have hcame : M (1 + 1 + 1 + 2 * s) 1 = pq_sm (fun t => if t < min h 15 then M (1 + 1 + 1 + 2 * s + 1) t else 0) 15 0 0 - M (1 + 1 + 1 + 2 * s) 3 := by
    have e := sm_toInt (δ := fun t => if t < min h 15 then M (1 + 1 + 1 + 2 * s + 1) t else 0) (B := 500) (by omega) 15 0 0 (fun t _ ht => by
      by_cases q : t < min h 15
      · rw [if_pos q]; exact g1 t (by omega)
      · rw [if_neg q, Int32.toInt_zero]; omega) (by rw [Int32.toInt_zero]; omega) (by rw [Int32.toInt_zero]; omega)
    have e2 := cam_sI (g := M (1 + 1 + 1 + 2 * s + 1)) (min h 15) 15
    rw [show min 15 (min h 15) = min h 15 by omega] at e2
    rw [Int32.toInt_zero, e2, Int.zero_add] at e
    rw [pq_eq, pq_sub (by omega) (by omega), e]
    omega
  have hsum : fv_X4_allArrivals (1 + 1 + 1 + 2 * s) M = pq_sm (fun t => M (1 + 1 + 1 + 2 * s + 1) t) 15 0 0 := (cl_arrivals _ M).1
  have c15 : ((15 : Int32) ≤ nI 15) = True := pq_leT (b := 15) (c := 15) (by omega) (by omega) (by omega)
  have sb := served_bd (w := h) (e := 0) (q := 1) hx (fun c hc f k => k.1 hc) (nI s)
  have os := (cl_served hx.1.1.2.2 hx.1.2.2.2 (nI s)).2
  have key : ∀ due : Int32, fv_X2_hoursForQueueOf 1 (nI s) M = due → _ := fun due hd => l_181 hx hg hs (r := r) (o := o) (x2 := nI (min h 15)) (x3 := x3) (x4 := x4) (x5 := x5) (x6 := x6) (x7 := x7) (x8 := x8) (x9 := x9) (x10 := x10) (due := due) hcame hsum hd
  have hdue : fv_X2_hoursForQueueOf 1 (nI s) M = (if M (1 + 1 + 1 + 2 * s) 1 = 0 then 0 else if 0 < fv_X2_servedAnHourAt 1 (nI s) M then (M (1 + 1 + 1 + 2 * s) 1 + fv_X2_servedAnHourAt 1 (nI s) M - 1) / fv_X2_servedAnHourAt 1 (nI s) M else -5) := by
    unfold fv_X2_hoursForQueueOf
    rw [pq_nI (show s < 4000 by omega)]
  have hp6 : fv_X5_papers (nI s) 6 M = (if fv_X4_isCounted (1 + 1 + 1 + 2 * s) M = 0 then -5 else M (1 + 1 + 1 + 2 * s) 11) := v_pa6 H1 ha hs
  have a0 := v_st0 H1 ha hs
  have a5 := v_st5 H1 ha hs
  have a7 := v_pa5 H1 ha hs
  have b0 := o_st0 H1 ha hs
  have b5 := o_st5 H1 ha hs os
  have b7 := o_pa5 H1 ha hs
  have b6 := o_pa6 H1 ha hs
  have i1 : fv_L_stations_66 r ps_FU (nI (min h 15)) x3 x4 x5 x6 x7 x8 x9 x10 (nI s) 0 0 0 M = _ := i1
  have i2 : _ → ok_L_stations_66 r o ps_FU (nI (min h 15)) x3 x4 x5 x6 x7 x8 x9 x10 (nI s) 0 0 0 M := i2
  generalize pq_sm (fun t => if t < min h 15 then M (1 + 1 + 1 + 2 * s + 1) t else 0) 15 0 0 = came at *
  generalize pq_sm (fun t => M (1 + 1 + 1 + 2 * s + 1) t) 15 0 0 = sum at *
  generalize fv_X2_servedAnHourAt 1 (nI s) M = w at *
  by_cases q1 : M (1 + 1 + 1 + 2 * s) 1 = 0
  · rw [if_pos q1] at hdue
    obtain ⟨k1, k2⟩ := key _ hdue
    refine ⟨?_, fun hk => i2 ?_⟩
    · rw [i1, fv_L_stations_66_s]
      simp only [c15, a0, a7, hp6, if_true]
      rw [if_pos q1]
      exact k1
    · have := k2 hk
      rw [ok_L_stations_66_s]
      simp only [c15, a0, a5, a7, hp6, b0, b5, b6, b7, if_true, true_implies, not_true_eq_false, false_implies, and_true, true_and]
      exact ⟨fun _ => this, fun z => absurd q1 z⟩
  · rw [if_neg q1] at hdue
    by_cases q2 : w = 0
    · rw [if_neg (by rw [q2]; decide)] at hdue
      obtain ⟨k1, k2⟩ := key _ hdue
      refine ⟨?_, fun hk => i2 ?_⟩
      · rw [i1, fv_L_stations_66_s]
        simp only [c15, a0, a5, a7, hp6, if_true]
        rw [if_neg q1, if_pos q2]
        exact k1
      · have := k2 hk
        rw [ok_L_stations_66_s]
        simp only [c15, a0, a5, a7, hp6, b0, b5, b6, b7, if_true, true_implies, not_true_eq_false, false_implies, and_true, true_and]
        exact ⟨fun z => absurd z q1, fun _ => ⟨fun _ => this, fun z => absurd q2 z⟩⟩
    · have hw : 0 < w := by
        rw [pq_lt, Int32.toInt_zero]
        have : w.toInt ≠ 0 := fun z => q2 (by rw [pq_eq, z, Int32.toInt_zero])
        omega
      rw [if_pos hw] at hdue
      obtain ⟨k1, k2⟩ := key _ hdue
      refine ⟨?_, fun hk => i2 ?_⟩
      · rw [i1, fv_L_stations_66_s]
        simp only [c15, a0, a5, a7, hp6, if_true]
        rw [if_neg q1, if_neg q2]
        exact k1
      · have := k2 hk
        rw [ok_L_stations_66_s]
        simp only [c15, a0, a5, a7, hp6, b0, b5, b6, b7, if_true, true_implies, not_true_eq_false, false_implies, and_true, true_and]
        exact ⟨fun z => absurd z q1, fun _ => ⟨fun z => absurd z q2, fun _ => ⟨q2, this⟩⟩⟩
theorem l_47 (hx : DI M 1 h a b gv) (hg : ∀ s, s < a → gv s = M 197 s) : ∀ (k s n : Nat) (x3 x4 x5 x6 x7 x8 x9 x10 : Int32), s + k = a → k < n → fv_L_stations_47 n (nI (min h 15)) x3 x4 x5 x6 x7 x8 x9 x10 (nI s) M = fv_L_stations_506 ps_FU (pq_sm (fun s => M (1 + 1 + 1 + 2 * s) 1) k s x3) (pq_sm (fun s => M (1 + 1 + 1 + 2 * s) 3) k s x4) (pq_sm (fun s => M (1 + 1 + 1 + 2 * s) 5) k s x5) (pq_sm (fun s => M (1 + 1 + 1 + 2 * s) 6) k s x6) (pq_sm (fun s => M (1 + 1 + 1 + 2 * s) 10) k s x7) (pq_sm (fun s => M (1 + 1 + 1 + 2 * s) 4) k s x8) (pq_sm (sR1 M) k s x9) (pq_sm (sW1 M) k s x10) (-1) 10000000 0 M ∧ (ok_L_stations_506 ps_FU (pq_sm (fun s => M (1 + 1 + 1 + 2 * s) 1) k s x3) (pq_sm (fun s => M (1 + 1 + 1 + 2 * s) 3) k s x4) (pq_sm (fun s => M (1 + 1 + 1 + 2 * s) 5) k s x5) (pq_sm (fun s => M (1 + 1 + 1 + 2 * s) 6) k s x6) (pq_sm (fun s => M (1 + 1 + 1 + 2 * s) 10) k s x7) (pq_sm (fun s => M (1 + 1 + 1 + 2 * s) 4) k s x8) (pq_sm (sR1 M) k s x9) (pq_sm (sW1 M) k s x10) (-1) 10000000 0 M → ok_L_stations_47 n (nI (min h 15)) x3 x4 x5 x6 x7 x8 x9 x10 (nI s) M) := by
  have H1 := hx.1.1.2.1
  have ha := hx.1.2.2.1
  intro k
  induction k with
  | zero =>
    intro s n x3 x4 x5 x6 x7 x8 x9 x10 h1 h2
    cases n with
    | zero => omega
    | succ n =>
      rw [fv_L_stations_47_s, ok_L_stations_47_s, show s = a by omega]
      simp only [v_count1, o_count1, H1, pq_leT (show ¬ a < a by omega) (by omega) (by omega), if_true, true_implies, not_true_eq_false, false_implies, and_true, true_and]
      exact ⟨rfl, id⟩
  | succ k ih =>
    intro s n x3 x4 x5 x6 x7 x8 x9 x10 h1 h2
    cases n with
    | zero => omega
    | succ n =>
      obtain ⟨i1, i2⟩ := l_66 hx hg (s := s) (by omega) (r := fun a2 a3 a4 a5 a6 a7 a8 a9 a10 a11 M => fv_L_stations_47 n a2 a3 a4 a5 a6 a7 a8 a9 a10 a11 M) (o := fun a2 a3 a4 a5 a6 a7 a8 a9 a10 a11 M => ok_L_stations_47 n a2 a3 a4 a5 a6 a7 a8 a9 a10 a11 M) (x3 := x3) (x4 := x4) (x5 := x5) (x6 := x6) (x7 := x7) (x8 := x8) (x9 := x9) (x10 := x10)
      obtain ⟨j1, j2⟩ := ih (s + 1) n (x3 + M (1 + 1 + 1 + 2 * s) 1) (x4 + M (1 + 1 + 1 + 2 * s) 3) (x5 + M (1 + 1 + 1 + 2 * s) 5) (x6 + M (1 + 1 + 1 + 2 * s) 6) (x7 + M (1 + 1 + 1 + 2 * s) 10) (x8 + M (1 + 1 + 1 + 2 * s) 4) (x9 + sR1 M s) (x10 + sW1 M s) (by omega) (by omega)
      rw [fv_L_stations_47_s, ok_L_stations_47_s]
      simp only [v_count1, o_count1, H1, pq_leF (show s < a by omega) (by omega), if_false, false_implies, not_false_eq_true, true_implies, true_and]
      exact ⟨i1.trans j1, fun hk => i2 (j2 hk)⟩
/-- the totals, whatever the total station holds -/
theorem tt {Z : ps_M} (hE : EQ Z 1 M 1) (hM : HD M 1 h a b) : (∀ j, (j = 1 ∨ j = 3 ∨ j = 4 ∨ j = 5 ∨ j = 6 ∨ j = 10) → fv_X5_total Z 82 j = pq_sm (fun s => M (1 + 1 + 1 + 2 * s) j) a 0 0) ∧ EQ (fv_X5_total Z) 1 M 1 ∧ ok_X5_total Z ∧ (∀ i, i ≠ 82 → fv_X5_total Z i = Z i) := by
  have hZ := HD_EQ hE.symm hM
  obtain ⟨t1, t2, t3⟩ := t_total hZ.1.2.1 hM.2.2.1
  refine ⟨fun j hj => ?_, (EQ_frame (fun k k1 k2 => t1 k (by omega))).trans hE, t3, t1⟩
  rw [t2 j hj]
  exact pq_sm_congr _ _ _ (fun s _ hs => by have ha := hM.2.2.1; exact (hE.2.1 s (by omega)).1 j (by omega) (by omega))
theorem l_506 (hx : DI M 1 h a b gv) {x3 x4 x5 x6 x7 x8 x9 x10 : Int32} : ∀ (k j n : Nat) (x11 x12 : Int32), j + k = a → k < n → ((j = 0 ∧ x12 = 10000000) ∨ ∃ s, s < a ∧ rk a (fun _ => true) (QL M) s + 1 = j ∧ x11 = nI s ∧ x12 = M (1 + 1 + 1 + 2 * s) 1) → ∃ x11' x12', fv_L_stations_506 n x3 x4 x5 x6 x7 x8 x9 x10 x11 x12 (nI j) M = fv_L_stations_506 1 x3 x4 x5 x6 x7 x8 x9 x10 x11' x12' (nI a) M ∧ (ok_L_stations_506 1 x3 x4 x5 x6 x7 x8 x9 x10 x11' x12' (nI a) M → ok_L_stations_506 n x3 x4 x5 x6 x7 x8 x9 x10 x11 x12 (nI j) M) := by
  have H1 := hx.1.1.2.1
  have ha := hx.1.2.2.1
  intro k
  induction k with
  | zero =>
    intro j n x11 x12 h1 h2 h3
    cases n with
    | zero => omega
    | succ n =>
      refine ⟨x11, x12, ?_, ?_⟩
      · rw [fv_L_stations_506_s, fv_L_stations_506_s, show j = a by omega]
        simp only [v_count1, H1, pq_leT (show ¬ a < a by omega) (by omega) (by omega), if_true]
      · rw [ok_L_stations_506_s, ok_L_stations_506_s, show j = a by omega]
        simp only [v_count1, H1, pq_leT (show ¬ a < a by omega) (by omega) (by omega), true_implies, not_true_eq_false, false_implies, and_true]
        exact id
  | succ k ih =>
    intro j n x11 x12 h1 h2 h3
    cases n with
    | zero => omega
    | succ n =>
      have hna : nP a (fun _ => true) = a := (sN_const 1 a 0).trans (Nat.mul_one a)
      obtain ⟨s, hs, -, hr⟩ := rk_sur (OR_QL M a) (P := fun _ => true) (k := j) (by omega)
      obtain ⟨o1, e1, -⟩ := p_busyAt hx (x := j) (by omega)
      have e1 := e1 s hs hr
      have e2 := v_st0 H1 ha hs
      have o2 := o_st0 H1 ha hs
      have bq := p_q hx hs
      obtain ⟨y11, y12, i1, i2⟩ := ih (j + 1) n (nI s) (M (1 + 1 + 1 + 2 * s) 1) (by omega) (by omega) (Or.inr ⟨s, hs, by omega, rfl, rfl⟩)
      have c1 : (nI s < 0) = False := eq_false (nI_pos (by omega))
      -- in their order
      have c2 : (x12 < M (1 + 1 + 1 + 2 * s) 1) = False := by
        apply eq_false
        rcases h3 with ⟨-, q⟩ | ⟨p, p1, p2, p3, p4⟩
        · rw [q, pq_lt]
          show ¬ (10000000 : Int) < _
          omega
        · rw [p4, pq_lt]
          have := of_decide_eq_true (rk_rev (OR_QL M a) (P := fun _ => true) p1 hs rfl rfl (by omega))
          omega
      refine ⟨y11, y12, ?_, fun hk => ?_⟩
      · rw [fv_L_stations_506_s]
        simp only [v_count1, H1, pq_leF (show j < a by omega) (by omega), e1, e2, c1, c2, fv_L_stations_562, pq_nIadd1, if_false]
        by_cases q : M (1 + 1 + 1 + 2 * s) 1 = x12
        · have c3 : (x11 ≤ nI s) = True := by
            apply eq_true
            rcases h3 with ⟨-, z⟩ | ⟨p, p1, p2, p3, p4⟩
            · rw [z] at q
              rw [q] at bq
              exact absurd bq.2.1 (by decide)
            · rw [p3, nI_leI (by omega) (by omega)]
              have := of_decide_eq_true (rk_rev (OR_QL M a) (P := fun _ => true) p1 hs rfl rfl (by omega))
              rw [p4] at q
              rw [q] at this
              omega
          rw [if_pos q, if_pos (of_eq_true c3)]
          exact i1
        · rw [if_neg q]
          exact i1
      · have := i2 hk
        rw [ok_L_stations_506_s]
        simp only [v_count1, o_count1, H1, pq_leF (show j < a by omega) (by omega), e1, e2, o1, o2, c1, c2, ok_L_stations_562, pq_nIadd1, this, if_false, false_implies, not_false_eq_true, true_implies, true_and, and_true, implies_true, and_self]
theorem x_stations (hx : DI M 1 h a b (M 197)) : ok_L_stations M ∧ (fv_L_stations M).1 = 1 ∧ (∀ i, i ≠ 82 → (fv_L_stations M).2 i = M i) := by
  have H0 := hx.1.1.1
  have H1 := hx.1.1.2.1
  have ha := hx.1.2.2.1
  have hh := hx.1.2.1
  have hM := hx.1
  -- the totals, one after the other
  obtain ⟨a1, a2, a3, a4⟩ := tt (EQ.rfl (M := M) (d := 1)) hM
  generalize hA : fv_X5_total M = A at a1 a2 a4
  obtain ⟨b1, b2, b3, b4⟩ := tt a2 hM
  generalize hB : fv_X5_total A = B at b1 b2 b4
  obtain ⟨c1, c2, c3, c4⟩ := tt b2 hM
  generalize hC : fv_X5_total B = C at c1 c2 c4
  obtain ⟨d1, d2, d3, d4⟩ := tt c2 hM
  generalize hD : fv_X5_total C = D at d1 d2 d4
  obtain ⟨e1, e2, e3, e4⟩ := tt d2 hM
  generalize hF : fv_X5_total D = F at e1 e2 e4
  obtain ⟨f1, f2, f3, f4⟩ := tt e2 hM
  generalize hG : fv_X5_total F = G at f1 f2 f4
  have hFh := HD_EQ e2.symm hM
  have g1 : fv_X2_stationsCounted 1 1 F = pq_sm (sR1 M) a 0 0 := (e_counted e2 hFh 1).trans (cl_counted H1 ha 1).1
  have g0 : fv_X2_stationsCounted 1 0 F = pq_sm (sW1 M) a 0 0 := (e_counted e2 hFh 0).trans (cl_counted H1 ha 0).1
  have k1 : ok_X5_count 10 F := o_count10 (cl_counted hFh.1.2.1 ha 1).2
  have k0 : ok_X5_count 11 F := o_count11 (cl_counted hFh.1.2.1 ha 0).2
  have m5 : ok_X5_count 5 M := o_count5 a3
  have m6 : ok_X5_count 6 A := o_count6 b3
  have m7 : ok_X5_count 7 B := o_count7 c3
  have m8 : ok_X5_count 8 C := o_count8 d3
  have m9 : ok_X5_count 9 D := o_count9 e3
  have m12 : ok_X5_count 12 F := o_count12 f3
  obtain ⟨i1, i2⟩ := l_47 hx (fun _ _ => rfl) a 0 ps_FU 0 0 0 0 0 0 0 0 (by omega) (pq_fu (by omega))
  obtain ⟨y11, y12, j1, j2⟩ := l_506 hx (x3 := pq_sm (fun s => M (1 + 1 + 1 + 2 * s) 1) a 0 0) (x4 := pq_sm (fun s => M (1 + 1 + 1 + 2 * s) 3) a 0 0) (x5 := pq_sm (fun s => M (1 + 1 + 1 + 2 * s) 5) a 0 0) (x6 := pq_sm (fun s => M (1 + 1 + 1 + 2 * s) 6) a 0 0) (x7 := pq_sm (fun s => M (1 + 1 + 1 + 2 * s) 10) a 0 0) (x8 := pq_sm (fun s => M (1 + 1 + 1 + 2 * s) 4) a 0 0) (x9 := pq_sm (sR1 M) a 0 0) (x10 := pq_sm (sW1 M) a 0 0) a 0 ps_FU (-1) 10000000 (by omega) (pq_fu (by omega)) (Or.inl ⟨rfl, rfl⟩)
  have last : fv_L_stations_506 1 (pq_sm (fun s => M (1 + 1 + 1 + 2 * s) 1) a 0 0) (pq_sm (fun s => M (1 + 1 + 1 + 2 * s) 3) a 0 0) (pq_sm (fun s => M (1 + 1 + 1 + 2 * s) 5) a 0 0) (pq_sm (fun s => M (1 + 1 + 1 + 2 * s) 6) a 0 0) (pq_sm (fun s => M (1 + 1 + 1 + 2 * s) 10) a 0 0) (pq_sm (fun s => M (1 + 1 + 1 + 2 * s) 4) a 0 0) (pq_sm (sR1 M) a 0 0) (pq_sm (sW1 M) a 0 0) y11 y12 (nI a) M = (1, G) := by
    rw [fv_L_stations_506_s]
    simp only [v_count1, H1, pq_leT (show ¬ a < a by omega) (by omega) (by omega), v_count5, v_count6, v_count7, v_count8, hA, hB, hC, hD, a1 1 (by omega), b1 3 (by omega), c1 5 (by omega), d1 6 (by omega), if_true]
    unfold fv_L_stations_618
    simp only [v_count9, v_count10, v_count11, v_count12, hF, hG, e1 10 (by omega), g1, g0, f1 4 (by omega), if_true]
  have olast : ok_L_stations_506 1 (pq_sm (fun s => M (1 + 1 + 1 + 2 * s) 1) a 0 0) (pq_sm (fun s => M (1 + 1 + 1 + 2 * s) 3) a 0 0) (pq_sm (fun s => M (1 + 1 + 1 + 2 * s) 5) a 0 0) (pq_sm (fun s => M (1 + 1 + 1 + 2 * s) 6) a 0 0) (pq_sm (fun s => M (1 + 1 + 1 + 2 * s) 10) a 0 0) (pq_sm (fun s => M (1 + 1 + 1 + 2 * s) 4) a 0 0) (pq_sm (sR1 M) a 0 0) (pq_sm (sW1 M) a 0 0) y11 y12 (nI a) M := by
    rw [ok_L_stations_506_s]
    simp only [v_count1, o_count1, H1, pq_leT (show ¬ a < a by omega) (by omega) (by omega), v_count5, v_count6, v_count7, v_count8, m5, hA, m6, hB, m7, hC, m8, hD, a1 1 (by omega), b1 3 (by omega), c1 5 (by omega), d1 6 (by omega), if_true, true_implies, not_true_eq_false, false_implies, and_true, true_and]
    unfold ok_L_stations_618
    simp only [v_count9, v_count10, v_count11, v_count12, m9, k1, k0, m12, hF, hG, e1 10 (by omega), g1, g0, f1 4 (by omega), if_true, true_implies, not_true_eq_false, false_implies, and_true, true_and]
  have b20 : fv_L_stations_20 (nI (min h 15)) M = (1, G) := (i1.trans j1).trans last
  have o20 : ok_L_stations_20 (nI (min h 15)) M := i2 (j2 olast)
  have fr : ∀ i, i ≠ 82 → G i = M i := fun i hi => by rw [f4 i hi, e4 i hi, d4 i hi, c4 i hi, b4 i hi, a4 i hi]
  have e : fv_L_stations M = (1, G) ∧ ok_L_stations M := by
    unfold fv_L_stations ok_L_stations
    simp only [v_count0, o_count0, H0, true_and]
    by_cases q : 15 ≤ h
    · have cq : ((15 : Int32) ≤ nI h) = True := pq_leT (b := 15) (by omega) (by omega) (by omega)
      rw [show min h 15 = 15 by omega] at b20 o20
      simp only [cq, if_true, true_implies, not_true_eq_false, false_implies, and_true]
      exact ⟨b20, o20⟩
    · have cq : ((15 : Int32) ≤ nI h) = False := pq_leF (b := 15) (by omega) (by omega)
      rw [show min h 15 = h by omega] at b20 o20
      simp only [cq, if_false, false_implies, not_false_eq_true, true_implies, true_and]
      exact ⟨b20, o20⟩
  exact ⟨e.2, by rw [e.1], fun i hi => by rw [e.1]; exact fr i hi⟩
end STATIONS
