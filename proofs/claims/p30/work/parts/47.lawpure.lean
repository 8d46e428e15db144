/-! ===== the law, from the first memories ===== -/
section LAW
variable {L : Nat} {xs : Nat → Int32}
theorem kN (m k : Nat) (h : m + k < 4000) : ¬ (nI m + nI k) < 0 := by rw [nI_add]; exact nI_pos (by omega)
/-- the end of the law: the snapshot comes back, the act is undone -/
theorem l_last {M : ps_M} {n h a b : Nat} {H : Nat → ps_M} {S : ps_M} {gv0 : Nat → Int32} (hS : ST M n H True S) (hx : DI M 1 h a b (M 197)) (h0 : 0 < a) (hs0 : DI S 1 0 a b gv0) (x5 : Int64) (hm : (fv_L_mark M).1 = x5) : ok_X5_restore M ∧ (fv_X5_restore M).1 = 0 ∧ (fv_X5_count 0 (fv_X5_restore M).2).1 = 0 ∧ (fv_L_law_384 L xs (nI b) x5 0 (fv_X5_restore M).2).1 = 1 ∧ ok_L_law_384 L xs (nI b) x5 0 (fv_X5_restore M).2 := by
  obtain ⟨r1, r2, r3, r4, r5⟩ := st_restore hS
  generalize (fv_X5_restore M).2 = M5 at r3 r4 r5
  have x5' := DI_EQ r4 hs0
  have ha := x5'.1.2.2.1
  have e0 : S 1 0 = 0 := hs0.1.1.1
  have c0 : M5 1 0 = 0 := x5'.1.1.1
  obtain ⟨t1, t2, t3⟩ := t_total x5'.1.1.2.1 ha
  have ts : fv_X5_total M5 82 3 = 0 := by
    rw [t2 3 (by omega)]
    have key : ∀ (k c : Nat), c + k ≤ a → pq_sm (fun s => M5 (1 + 1 + 1 + 2 * s) 3) k c 0 = 0 := by
      intro k
      induction k with
      | zero => intro c _; rfl
      | succ k ih =>
        intro c hc
        obtain ⟨g1, ⟨g2, g3, g4⟩, -⟩ := p_S x5' (s := c) (by omega)
        have g2 : (M5 (1 + 1 + 1 + 2 * c) 1).toInt + (M5 (1 + 1 + 1 + 2 * c) 3).toInt = 0 := g2
        have e : M5 (1 + 1 + 1 + 2 * c) 3 = 0 := by rw [pq_eq, Int32.toInt_zero]; omega
        show pq_sm _ k (c + 1) (0 + M5 (1 + 1 + 1 + 2 * c) 3) = 0
        rw [e, Int32.add_zero]
        exact ih (c + 1) (by omega)
    exact key a 0 (by omega)
  have o6 : ok_X5_count 6 M5 := o_count6 t3
  have E6 : EQ (fv_X5_total M5) 1 M5 1 := EQ_frame (fun j j1 j2 => t1 j (by omega))
  have s6 := ST_frame r3 (M' := fv_X5_total M5) (fun i i1 i2 i3 => t1 i i2)
  generalize hT : fv_X5_total M5 = M6 at ts E6 s6
  have x6 := DI_EQ E6 x5'
  obtain ⟨k1, k2⟩ := x_clerks x6
  obtain ⟨p, p1, p2, p3⟩ := h_top n H M hS.1.1
  rw [p1] at s6
  obtain ⟨u1, u2, u3, u4, u5⟩ := st_undo s6
  rw [p2] at u4
  generalize hU : (fv_X5_undo M6).2 = M7 at u3 u4 u5
  have hxM := hx.1
  obtain ⟨m1, m2, -⟩ := e_mark u4 (HD_EQ u4.symm hxM)
  have np : (nI p < 0) = False := eq_false (nI_pos (by omega))
  have c10 : ((1 : Int32) = 0) = False := by decide
  refine ⟨r1, r2.trans e0, by rw [v_count0]; exact c0, ?_, ?_⟩
  · simp only [fv_L_law_384, v_count6, ts, hT, v_count2, x6.1.1.2.2, k2, c10, u2, np, hU, m1, hm, lg_self, if_true, if_false]
  · have o2 := o_count2 M6
    simp only [ok_L_law_384, v_count6, o6, ts, hT, v_count2, o2, x6.1.1.2.2, k1, k2, c10, u1, u2, np, hU, m1, m2, hm, lg_self, if_true, if_false, true_implies, false_implies, not_true_eq_false, not_false_eq_true, true_and, and_true, implies_true]
set_option maxHeartbeats 4000000 in
/-- the law's checks behind its 26 steps -/
theorem l_tail (hL : L ≤ 260) {M : ps_M} {n h a b : Nat} {H : Nat → ps_M} {S : ps_M} {gv0 : Nat → Int32} (hS : ST M n H True S) (hx : DI M 1 h a b (M 197)) (h0 : 0 < a) (hs0 : DI S 1 0 a b gv0) (m : Nat) : (fv_L_law_194 L xs (m + 1) (nI b) (nI 26) M).1 = 1 ∧ ok_L_law_194 L xs (m + 1) (nI b) (nI 26) M := by
  have c26 : ((26 : Int32) ≤ nI 26) = True := pq_leT (b := 26) (c := 26) (by omega) (by omega) (by omega)
  have c10 : ((1 : Int32) = 0) = False := by decide
  -- stations
  obtain ⟨a1, a2, a3⟩ := x_stations hx
  generalize hM1 : (fv_L_stations M).2 = M1 at a3
  have E1 : EQ M1 1 M 1 := EQ_frame (fun j j1 j2 => a3 j (by omega))
  have x1 := DI_EQ E1 hx
  have s1 := ST_frame hS (M' := M1) (fun i i1 i2 i3 => a3 i i2)
  have q1 : M1 197 = M 197 := a3 197 (by omega)
  -- clerks
  obtain ⟨b1, b2⟩ := x_clerks x1
  -- what is lacking
  obtain ⟨d1, d2, ⟨n2, H2, d3⟩, d4, d5⟩ := l_lacks s1 x1 h0 (pl_ce L xs 60)
  generalize hM2 : (fv_L_lacks (pl_ce L xs 60) M1).2 = M2 at d3 d4 d5
  -- fails
  obtain ⟨p, -, hn, -⟩ := d3.1.2
  obtain ⟨f1, f2, f3⟩ := x_fails d4 (n := n2) (by obtain ⟨-, w, -, w2, -⟩ := d3.1; exact w2)
  generalize hM3 : (fv_L_fails M2).2 = M3 at f3
  have E3 : EQ M3 1 M2 1 := EQ_frame (fun j j1 j2 => f3 j (by omega))
  have x3 := DI_EQ E3 d4
  have s3 := ST_frame d3 (M' := M3) (fun i i1 i2 i3 => f3 i i2)
  have q3 : M3 197 = M2 197 := f3 197 (by omega)
  -- the mark
  obtain ⟨m1, m2, m3⟩ := e_mark (EQ.rfl (M := M3) (d := 1)) x3.1
  generalize hM4 : (fv_L_mark M3).2 = M4 at m3
  have E4 : EQ M4 1 M3 1 := EQ_frame (fun j j1 j2 => m3 j (by omega))
  have x4 := DI_EQ E4 x3
  have s4 := ST_frame s3 (M' := M4) (fun i i1 i2 i3 => m3 i i2)
  have e4 := (e_mark E4 x4.1).1
  have q4 : M4 197 = M 197 := by rw [m3 197 (by omega), q3, d5, q1]
  obtain ⟨g1, g2, g3, g4, g5⟩ := l_last (L := L) (xs := xs) s4 (by rw [q4]; exact x4) h0 hs0 _ e4
  have h60 : ¬ (60 : Int32) < 0 := by decide
  have oc0 := o_count0 (fv_X5_restore M4).2
  refine ⟨?_, ?_⟩
  · rw [fv_L_law_194_s]
    simp only [c26, a2, c10, hM1, b2, d2, hM2, f2, hM3, hM4, g2, if_true, if_false]
    rw [g3, v_count0]
    exact g4
  · rw [ok_L_law_194_s]
    simp only [c26, a1, a2, c10, hM1, b1, b2, h60, d1, d2, hM2, f1, f2, hM3, m2, hM4, g1, g2, oc0, if_true, if_false, true_implies, false_implies, not_true_eq_false, not_false_eq_true, true_and, and_true, implies_true]
    rw [g3, v_count0]
    exact g5
/-- a step of the law: hours pass, or an act -/
theorem l_steps (hL : L ≤ 260) {S : ps_M} {a b : Nat} {gv0 : Nat → Int32} (h0 : 0 < a) (hb0 : 0 < b) (hs0 : DI S 1 0 a b gv0) : ∀ (k i m : Nat) (M : ps_M) (n h : Nat) (H : Nat → ps_M), i + k = 26 → k < m → ST M n H True S → DI M 1 h a b (M 197) → (fv_L_law_194 L xs m (nI b) (nI i) M).1 = 1 ∧ ok_L_law_194 L xs m (nI b) (nI i) M := by
  intro k
  induction k with
  | zero =>
    intro i m M n h H h1 h2 hS hx
    cases m with
    | zero => omega
    | succ m =>
      rw [show i = 26 by omega]
      exact l_tail hL hS hx h0 hs0 m
  | succ k ih =>
    intro i m M n h H h1 h2 hS hx
    cases m with
    | zero => omega
    | succ m =>
      have c26 : ((26 : Int32) ≤ nI i) = False := pq_leF (b := 26) (c := i) (by omega) (by omega)
      have c10 : ((1 : Int32) = 0) = False := by decide
      have k8 : ¬ ((8 : Int32) + nI i) < 0 := kN 8 i (by omega)
      have k34 : ¬ ((34 : Int32) + nI i) < 0 := kN 34 i (by omega)
      rw [fv_L_law_194_s, ok_L_law_194_s]
      by_cases q : ((pl_ce L xs ((34 : Int32) + nI i)) >>> ((20 : Int32) &&& 31)) &&& (3 : Int32) = 0
      · obtain ⟨p1, p2, ⟨n', H', p3⟩, ⟨h', p4⟩, p5⟩ := x_passes hS hx h0 (pl_ce L xs ((8 : Int32) + nI i))
        have r := ih (i + 1) m (fv_L_passes (pl_ce L xs ((8 : Int32) + nI i)) M).2 n' h' H' (by omega) (by omega) p3 (by rw [p5]; exact p4)
        simp only [c26, k8, k34, q, p1, p2, c10, pq_nIadd1, if_true, if_false, true_implies, false_implies, not_true_eq_false, not_false_eq_true, true_and, and_true, implies_true]
        exact r
      · obtain ⟨m1, m2, m3⟩ := e_mark (EQ.rfl (M := M) (d := 1)) hx.1
        have hn : M 84 1 = nI n := by obtain ⟨-, w, -, w2, -⟩ := hS.1; exact w2
        generalize hM1 : (fv_L_mark M).2 = M1 at m3
        have E1 : EQ M1 1 M 1 := EQ_frame (fun j j1 j2 => m3 j (by omega))
        have x1 := DI_EQ E1 hx
        have s1 := ST_frame hS (M' := M1) (fun i i1 i2 i3 => m3 i i2)
        have q1 : M1 197 = M 197 := m3 197 (by omega)
        obtain ⟨a1, a2⟩ := x_act s1 (by rw [q1]; exact x1) h0 hb0 (pl_ce L xs ((8 : Int32) + nI i)) (pl_ce L xs ((34 : Int32) + nI i))
        have oc14 := o_count14 M
        simp only [c26, k8, k34, q, v_count14, oc14, m2, hM1, a1, hn, if_true, if_false, true_implies, false_implies, not_true_eq_false, not_false_eq_true, true_and, and_true, implies_true]
        generalize fv_L_act (pl_ce L xs ((8 : Int32) + nI i)) (pl_ce L xs ((34 : Int32) + nI i)) M1 = rr at a2
        obtain ⟨v, M2⟩ := rr
        rcases a2 with ⟨w1, w2⟩ | ⟨w1, w2, w3⟩
        · have w1 : v < 0 := w1
          have w2 : M2 = M1 := w2
          subst w2
          have cv : (0 ≤ v) = False := eq_false (fun z => by rw [pq_le, Int32.toInt_zero] at z; rw [pq_lt, Int32.toInt_zero] at w1; omega)
          obtain ⟨e1, e2, e3⟩ := e_mark E1 x1.1
          have oc := o_count14 (fv_L_mark M2).2
          have e84 : (fv_L_mark M2).2 84 1 = nI n := by rw [e3 84 (by omega), m3 84 (by omega)]; exact hn
          have E2 : EQ (fv_L_mark M2).2 1 M2 1 := EQ_frame (fun j j1 j2 => e3 j (by omega))
          have r := ih (i + 1) m (fv_L_mark M2).2 n h H (by omega) (by omega) (ST_frame s1 (fun i i1 i2 i3 => e3 i i2)) (by rw [e3 197 (by omega), q1]; exact DI_EQ E2 x1)
          simp only [cv, fv_L_law_278, ok_L_law_278, e1, e2, lg_self, v_count14, oc, e84, pq_nIadd1, if_true, if_false, true_implies, false_implies, not_true_eq_false, not_false_eq_true, true_and, and_true, implies_true]
          exact r
        · have w1 : ¬ v < 0 := w1
          have cv : (0 ≤ v) = True := eq_true (by rw [pq_le, Int32.toInt_zero]; rw [pq_lt, Int32.toInt_zero] at w1; omega)
          have w2 : ST M2 (h_len n) (h_push n H M1) True S := w2
          have w3 : DI M2 1 h a b (M2 197) := w3
          have hn2 : M2 84 1 = nI (h_len n) := by obtain ⟨-, w, -, w2, -⟩ := w2.1; exact w2
          have hn4 := hS.1.1
          have oc := o_count14 M2
          have r := ih (i + 1) m M2 (h_len n) h (h_push n H M1) (by omega) (by omega) w2 w3
          by_cases z : n < 4
          · have c4 : ((4 : Int32) ≤ nI n) = False := pq_leF (b := 4) z (by omega)
            have el : h_len n = n + 1 := by unfold h_len; rw [if_pos z]
            rw [el] at hn2
            simp only [cv, fv_L_law_304, ok_L_law_304, fv_L_law_318, ok_L_law_318, v_count14, oc, hn2, c4, pq_nIadd1, if_true, if_false, true_implies, false_implies, not_true_eq_false, not_false_eq_true, true_and, and_true, implies_true]
            exact r
          · have c4 : ((4 : Int32) ≤ nI n) = True := pq_leT (b := 4) z (by omega) (by omega)
            have el : h_len n = 4 := by unfold h_len; rw [if_neg z]
            rw [el] at hn2
            have hn2 : M2 84 1 = 4 := hn2
            simp only [cv, fv_L_law_304, ok_L_law_304, fv_L_law_318, ok_L_law_318, v_count14, oc, hn2, c4, pq_nIadd1, if_true, if_false, true_implies, false_implies, not_true_eq_false, not_false_eq_true, true_and, and_true, implies_true]
            exact r
/-- clerks are added, the day is kept -/
theorem l_127 (hL : L ≤ 260) {a nc : Nat} (h0 : 0 < a) (hc0 : 0 < nc) (hc : nc ≤ 7) : ∀ (k i m : Nat) (M : ps_M) (n : Nat) (H : Nat → ps_M) (S : ps_M), i + k = nc → k < m → ST M n H False S → DI M 1 0 a i (M 197) → (fv_L_law_127 L xs m (nI nc) (nI i) M).1 = 1 ∧ ok_L_law_127 L xs m (nI nc) (nI i) M := by
  intro k
  induction k with
  | zero =>
    intro i m M n H S h1 h2 hS hx
    cases m with
    | zero => omega
    | succ m =>
      have e : i = nc := by omega
      subst e
      obtain ⟨k1, k2, k3, k4, k5⟩ := st_keep hS
      have e0 : (fv_X5_keep M).1 = 0 := k2.trans hx.1.1.1
      have xk := DI_EQ k4 hx
      have r := l_steps (xs := xs) hL h0 hc0 hx 26 0 ps_FU (fv_X5_keep M).2 n 0 H (by omega) (pq_fu (by omega)) k3 (by rw [k5 197 (by omega)]; exact xk)
      have r : (fv_L_law_194 L xs ps_FU (nI i) 0 (fv_X5_keep M).2).1 = 1 ∧ ok_L_law_194 L xs ps_FU (nI i) 0 (fv_X5_keep M).2 := r
      rw [fv_L_law_127_s, ok_L_law_127_s]
      simp only [pq_leT (show ¬ i < i by omega) (by omega) (by omega), k1, e0, if_true, if_false, true_implies, false_implies, not_true_eq_false, not_false_eq_true, true_and, and_true, implies_true]
      exact r
  | succ k ih =>
    intro i m M n H S h1 h2 hS hx
    cases m with
    | zero => omega
    | succ m =>
      have k1 : ¬ ((1 : Int32) + nI i) < 0 := kN 1 i (by omega)
      obtain ⟨p, hp, ep, op⟩ := up_spec (pl_ce L xs ((1 : Int32) + nI i)) (m := 60) (by omega) (by omega)
      obtain ⟨q, hq, eq, oq⟩ := up_spec ((pl_ce L xs ((1 : Int32) + nI i)) >>> ((6 : Int32) &&& 31)) (m := 6) (by omega) (by omega)
      rw [show nI 60 = (60 : Int32) from rfl] at ep op
      rw [show nI 6 = (6 : Int32) from rfl] at eq oq
      have one : ∀ j : Nat, (1 : Int32) + nI j = nI (1 + j) := fun j => nI_add 1 j
      obtain ⟨c1, c2, c3, c4, c5⟩ := x_addClerk hS hx (p := 1 + p) (q := 1 + q) (by omega) (by omega) (by omega) (by omega) (by omega)
      have r := ih (i + 1) m _ _ _ S (by omega) (by omega) c3 (by rw [c5 197 (by omega)]; exact c4)
      rw [fv_L_law_127_s, ok_L_law_127_s]
      simp only [pq_leF (show i < nc by omega) (by omega), k1, ep, op, eq, oq, if_true, if_false, true_implies, false_implies, not_true_eq_false, not_false_eq_true, true_and, and_true, implies_true]
      rw [one, one]
      simp only [c1, c2, fv_L_law_169, ok_L_law_169, pq_nIadd1, if_true, if_false, true_implies, false_implies, not_true_eq_false, not_false_eq_true, true_and, and_true, implies_true]
      exact r
/-- stations are added -/
theorem l_101 (hL : L ≤ 260) {na nc : Nat} (h0 : 0 < na) (hna : na ≤ 4) (hc0 : 0 < nc) (hc : nc ≤ 7) : ∀ (k i m : Nat) (M : ps_M) (n : Nat) (H : Nat → ps_M) (S : ps_M), i + k = na → k < m → ST M n H False S → DI M 1 0 i 0 (M 197) → M 197 = (fun _ => 0) → (fv_L_law_101 L xs m (nI na) (nI nc) (nI i) M).1 = 1 ∧ ok_L_law_101 L xs m (nI na) (nI nc) (nI i) M := by
  intro k
  induction k with
  | zero =>
    intro i m M n H S h1 h2 hS hx hz
    cases m with
    | zero => omega
    | succ m =>
      have e : i = na := by omega
      subst e
      have r := l_127 (xs := xs) hL h0 hc0 hc nc 0 ps_FU M n H S (by omega) (pq_fu (by omega)) hS hx
      have r : (fv_L_law_127 L xs ps_FU (nI nc) 0 M).1 = 1 ∧ ok_L_law_127 L xs ps_FU (nI nc) 0 M := r
      rw [fv_L_law_101_s, ok_L_law_101_s]
      simp only [pq_leT (show ¬ i < i by omega) (by omega) (by omega), if_true, if_false, true_implies, false_implies, not_true_eq_false, not_false_eq_true, true_and, and_true, implies_true]
      exact r
  | succ k ih =>
    intro i m M n H S h1 h2 hS hx hz
    cases m with
    | zero => omega
    | succ m =>
      obtain ⟨c1, c2, c3, c4, c5⟩ := x_addStation hS hx (by omega) (by rw [hz])
      have r := ih (i + 1) m _ _ _ S (by omega) (by omega) c3 (by rw [c5 197 (by omega)]; exact c4) (by rw [c5 197 (by omega)]; exact hz)
      rw [fv_L_law_101_s, ok_L_law_101_s]
      simp only [pq_leF (show i < na by omega) (by omega), c1, c2, pq_nIadd1, if_true, if_false, true_implies, false_implies, not_true_eq_false, not_false_eq_true, true_and, and_true, implies_true]
      exact r
theorem l_law (hL : L ≤ 260) {M : ps_M} {H : Nat → ps_M} {S : ps_M} (hS : ST M 0 H False S) (hx : DI M 1 0 0 0 (M 197)) (hz : M 197 = (fun _ => 0)) : (fv_L_law L xs M).1 = 1 ∧ ok_L_law L xs M := by
  have hn : M 84 1 = 0 := by obtain ⟨-, w, -, w2, -⟩ := hS.1; exact w2
  have h3 : M 0 3 = 0 := hS.2.2 id
  have H1 := hx.1.1.2.1
  obtain ⟨u1, u2⟩ := st_undo0 hn
  obtain ⟨v1, v2⟩ := st_restore0 h3
  obtain ⟨w1, w2⟩ := z_readArrivals (x := 0) H1 (Or.inr (nI_self 0)) 0
  obtain ⟨p1, -, p3⟩ := p_freeAt hx (x := 0) (by omega)
  have p1 : ok_X5_free 0 M := p1
  have p3 : fv_X5_free 0 M = -5 := p3 (Nat.zero_le _)
  obtain ⟨q1, -, q3⟩ := p_busyAt hx (x := 0) (by omega)
  have q1 : ok_X5_busiest 0 M := q1
  have q3 : fv_X5_busiest 0 M = -5 := q3 (Nat.zero_le _)
  obtain ⟨f1, f2, f3⟩ := x_fails hx (n := 0) hn
  generalize hM1 : (fv_L_fails M).2 = M1 at f3
  have E1 : EQ M1 1 M 1 := EQ_frame (fun j j1 j2 => f3 j (by omega))
  have x1 := DI_EQ E1 hx
  have s1 := ST_frame hS (M' := M1) (fun i i1 i2 i3 => f3 i i2)
  have z1 : M1 197 = M 197 := f3 197 (by omega)
  have c10 : ((1 : Int32) = 0) = False := by decide
  have k0 : ¬ (0 : Int32) < 0 := by decide
  obtain ⟨p, hp, ep, op⟩ := up_spec (pl_ce L xs 0) (m := 4) (by omega) (by omega)
  obtain ⟨q, hq, eq, oq⟩ := up_spec ((pl_ce L xs 0) >>> ((3 : Int32) &&& 31)) (m := 7) (by omega) (by omega)
  rw [show nI 4 = (4 : Int32) from rfl] at ep op
  rw [show nI 7 = (7 : Int32) from rfl] at eq oq
  have one : ∀ j : Nat, (1 : Int32) + nI j = nI (1 + j) := fun j => nI_add 1 j
  have r := l_101 (xs := xs) hL (na := 1 + p) (nc := 1 + q) (by omega) (by omega) (by omega) (by omega) (1 + p) 0 ps_FU M1 0 H S (by omega) (pq_fu (by omega)) s1 (by rw [z1]; exact x1) (z1.trans hz)
  have r : (fv_L_law_101 L xs ps_FU (nI (1 + p)) (nI (1 + q)) 0 M1).1 = 1 ∧ ok_L_law_101 L xs ps_FU (nI (1 + p)) (nI (1 + q)) 0 M1 := r
  unfold fv_L_law ok_L_law
  simp only [u1, u2, v1, v2, w1, w2, p1, p3, q1, q3, f1, f2, c10, hM1, k0, ep, op, eq, oq, one, if_true, if_false, true_implies, false_implies, not_true_eq_false, not_false_eq_true, true_and, and_true, implies_true]
  exact r
end LAW
