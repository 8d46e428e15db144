theorem sh_or (x y s : Int32) : ((x ||| y) >>> s) &&& 1 = ((x >>> s) &&& 1) ||| ((y >>> s) &&& 1) := by
  apply Int32.toBitVec_inj.mp
  simp only [Int32.toBitVec_and, Int32.toBitVec_or, Int32.toBitVec_shiftRight, BitVec.sshiftRight_eq', BitVec.sshiftRight_or_distrib, BitVec.and_or_distrib_right]
theorem sh_one : ∀ c : Nat, c < 12 → ∀ i : Nat, i < 12 → ((1 : Int32) <<< (nI c &&& 31) >>> (nI i &&& 31)) &&& 1 = 1 → i = c := by decide +kernel
theorem sh_zero : ∀ i : Nat, i < 12 → ¬ ((0 : Int32) >>> (nI i &&& 31)) &&& 1 = 1 := by decide +kernel
theorem lhp0 (d : Nat) (M : ps_M) : fv_X2_letHoursPass d (nI 0) M = (0, M) := by
  show fv_X2_letHoursPass_4 (1023 + 1) d (nI 0) 0 (nI 0) M = (0, M)
  rw [fv_X2_letHoursPass_4_s, if_pos (nI_self 0)]
section PASSES
variable {M : ps_M} {h a b : Nat}
theorem l_188 {x3 x7 : Int32} (H2 : M 1 2 = nI b) (hb : b ≤ 12) (hR : ∀ c, c < b → (x7 >>> (nI c &&& 31)) &&& 1 = 1 → x3 = 1 → ¬ fv_X5_clerk (nI c) 5 M = 1) : ∀ (k c n : Nat), c + k = b → k < n → fv_L_passes_188 n x3 x7 (nI c) M = (1, M) ∧ ok_L_passes_188 n x3 x7 (nI c) M := by
  intro k
  induction k with
  | zero =>
    intro c n h1 h2
    cases n with
    | zero => omega
    | succ n =>
      rw [fv_L_passes_188_s, ok_L_passes_188_s, show c = b by omega]
      simp only [v_count2, o_count2, H2, pq_leT (show ¬ b < b by omega) (by omega) (by omega), if_true, true_implies, not_true_eq_false, false_implies, and_true]
  | succ k ih =>
    intro c n h1 h2
    cases n with
    | zero => omega
    | succ n =>
      obtain ⟨i1, i2⟩ := ih (c + 1) n (by omega) (by omega)
      have o := o_ck5 H2 hb (c := c) (by omega)
      rw [fv_L_passes_188_s, ok_L_passes_188_s]
      simp only [v_count2, o_count2, H2, pq_leF (show c < b by omega) (by omega), pq_nIadd1, i1, i2, o, if_false, false_implies, not_false_eq_true, true_implies, true_and, and_true, implies_true]
      by_cases q1 : (x7 >>> (nI c &&& 31)) &&& 1 = 1
      · by_cases q2 : x3 = 1
        · have q3 := hR c (by omega) q1 q2
          simp only [q1, q2, q3, if_true, if_false, false_implies, not_false_eq_true, true_implies, true_and, and_true, implies_true, not_true_eq_false]
        · simp only [q1, q2, if_true, if_false, false_implies, not_false_eq_true, true_implies, true_and, and_true, implies_true, not_true_eq_false]
      · simp only [q1, if_false, false_implies, not_false_eq_true, true_implies, true_and, and_true, implies_true]
/-- the bits that are set are those of clerks before c who rest -/
def BT (M : ps_M) (c : Nat) (x7 : Int32) : Prop := ∀ i, i < 12 → (x7 >>> (nI i &&& 31)) &&& 1 = 1 → i < c ∧ fv_X5_clerk (nI i) 5 M = 1
theorem BT_or {c : Nat} {x7 y : Int32} (h7 : BT M c x7) (hy : ∀ i, i < 12 → (y >>> (nI i &&& 31)) &&& 1 = 1 → i = c ∧ fv_X5_clerk (nI c) 5 M = 1) : BT M (c + 1) (x7 ||| y) := by
  intro i hi hb
  rw [sh_or] at hb
  rcases bit_01 (x7 >>> (nI i &&& 31)) with q | q
  · rw [q, Int32.zero_or] at hb
    obtain ⟨e1, e2⟩ := hy i hi hb
    rw [e1]; exact ⟨by omega, e2⟩
  · obtain ⟨e1, e2⟩ := h7 i hi q
    exact ⟨by omega, e2⟩
theorem l_86 {x2 x3 x4 x5 x6 : Int32} (H2 : M 1 2 = nI b) (hb : b ≤ 12) : ∀ (k c n : Nat) (x7 : Int32), c + k = b → k < n → BT M c x7 → ∃ x7', BT M b x7' ∧ fv_L_passes_86 n x2 x3 x4 x5 x6 x7 (nI c) M = fv_L_passes_86 1 x2 x3 x4 x5 x6 x7' (nI b) M ∧ (ok_L_passes_86 1 x2 x3 x4 x5 x6 x7' (nI b) M → ok_L_passes_86 n x2 x3 x4 x5 x6 x7 (nI c) M) := by
  intro k
  induction k with
  | zero =>
    intro c n x7 h1 h2 h3
    cases n with
    | zero => omega
    | succ n =>
      have hcb : c = b := by omega
      subst hcb
      refine ⟨x7, h3, ?_, ?_⟩
      · rw [fv_L_passes_86_s, fv_L_passes_86_s]
        simp only [v_count2, H2, pq_leT (show ¬ c < c by omega) (by omega) (by omega), if_true]
      · rw [ok_L_passes_86_s, ok_L_passes_86_s]
        simp only [v_count2, H2, pq_leT (show ¬ c < c by omega) (by omega) (by omega), not_true_eq_false, false_implies, and_true]
        exact id
  | succ k ih =>
    intro c n x7 h1 h2 h3
    cases n with
    | zero => omega
    | succ n =>
      have o := o_ck5 H2 hb (c := c) (by omega)
      by_cases q : fv_X5_clerk (nI c) 5 M = 1
      · obtain ⟨x7', i1, i2, i3⟩ := ih (c + 1) n (x7 ||| (1 <<< (nI c &&& 31))) (by omega) (by omega) (BT_or h3 (fun i hi hq => ⟨sh_one c (by omega) i hi hq, q⟩))
        refine ⟨x7', i1, ?_, fun hk => ?_⟩
        · rw [fv_L_passes_86_s]
          simp only [v_count2, H2, pq_leF (show c < b by omega) (by omega), q, fv_L_passes_117, pq_nIadd1, if_true, if_false]
          exact i2
        · have := i3 hk
          rw [ok_L_passes_86_s]
          simp only [v_count2, o_count2, H2, pq_leF (show c < b by omega) (by omega), q, o, ok_L_passes_117, pq_nIadd1, if_true, if_false, false_implies, not_false_eq_true, not_true_eq_false, true_implies, true_and, and_true]
          exact this
      · obtain ⟨x7', i1, i2, i3⟩ := ih (c + 1) n (x7 ||| 0) (by omega) (by omega) (BT_or h3 (fun i hi hq => absurd hq (sh_zero i hi)))
        refine ⟨x7', i1, ?_, fun hk => ?_⟩
        · rw [fv_L_passes_86_s]
          simp only [v_count2, H2, pq_leF (show c < b by omega) (by omega), q, fv_L_passes_117, pq_nIadd1, if_true, if_false]
          exact i2
        · have := i3 hk
          rw [ok_L_passes_86_s]
          simp only [v_count2, o_count2, H2, pq_leF (show c < b by omega) (by omega), q, o, ok_L_passes_117, pq_nIadd1, if_true, if_false, false_implies, not_false_eq_true, not_true_eq_false, true_implies, true_and, and_true]
          exact this
theorem t_TS (H1 : M 1 1 = nI a) (ha : a ≤ 6) : fv_X5_total M 82 3 = TS M 1 a := (t_total H1 ha).2.1 3 (by omega)
theorem TS_EQ {N : ps_M} (hE : EQ M 1 N 1) (ha : a ≤ 6) : TS M 1 a = TS N 1 a := pq_sm_congr _ _ _ (fun s _ hs => (hE.2.1 s (by omega)).1 3 (by omega) (by omega))
theorem x_passes {n : Nat} {H : Nat → ps_M} {k : Prop} {S : ps_M} {gv : Nat → Int32} (hS : ST M n H k S) (hx : DI M 1 h a b gv) (h0 : 0 < a) (x : Int32) : ok_L_passes x M ∧ (fv_L_passes x M).1 = 1 ∧ (∃ n' H', ST (fv_L_passes x M).2 n' H' k S) ∧ (∃ h', DI (fv_L_passes x M).2 1 h' a b gv) ∧ (fv_L_passes x M).2 197 = M 197 := by
  have H0 := hx.1.1.1
  have H1 := hx.1.1.2.1
  have H2 := hx.1.1.2.2
  have hh := hx.1.2.1
  have ha := hx.1.2.2.1
  have hb := hx.1.2.2.2
  obtain ⟨t, ht, et, ot⟩ := up_spec x (m := 3) (by omega) (by omega)
  obtain ⟨s, hs, es, os⟩ := up_spec (x >>> ((4 : Int32) &&& 31)) (m := a) h0 (by omega)
  rw [show nI 3 = (3 : Int32) from rfl] at et ot
  have one : ∀ j : Nat, (1 : Int32) + nI j = nI (1 + j) := fun j => nI_add 1 j
  have ca : (nI a = 0) = False := eq_false (fun z => by have := (pq_inj (t := 0) (by omega) (by omega)).mp z; omega)
  by_cases q : h + (1 + t) ≤ 18
  · have c18 : (nI h + nI (1 + t) ≤ (18 : Int32)) = True := by rw [pq_le18 hh (by omega)]; exact eq_true q
    -- the forecast
    obtain ⟨a1, a2, v0, M0, NQ, a3, a4⟩ := x_queueIn hx hs q
    have a5 : (fv_X5_queueIn (nI s) (nI (1 + t)) M).1 = M0 (1 + 1 + 1 + 2 * s) 1 := by rw [a4]
    have e1 : EQ (fv_X5_queueIn (nI s) (nI (1 + t)) M).2 1 M 1 := EQ_frame (fun k k1 k2 => a2 k (by omega))
    have s1 := ST_frame hS (M' := (fv_X5_queueIn (nI s) (nI (1 + t)) M).2) (fun i i1 i2 i3 => a2 i (by omega))
    have g1 : (fv_X5_queueIn (nI s) (nI (1 + t)) M).2 197 = M 197 := a2 197 (by omega)
    generalize hM1 : (fv_X5_queueIn (nI s) (nI (1 + t)) M).2 = M1 at e1 s1 g1 a2
    have x1 := DI_EQ e1 hx
    -- people served till now
    obtain ⟨b1, -, b3⟩ := t_total x1.1.1.2.1 ha
    have b4 := t_TS x1.1.1.2.1 ha
    have e2 : EQ (fv_X5_total M1) 1 M 1 := (EQ_frame (fun k k1 k2 => b1 k (by omega))).trans e1
    have s2 := ST_frame s1 (M' := fv_X5_total M1) (fun i i1 i2 i3 => b1 i i2)
    have g2 : fv_X5_total M1 197 = M 197 := (b1 197 (by omega)).trans g1
    generalize hM2 : fv_X5_total M1 = M2 at b4 e2 s2 g2
    have x2 := DI_EQ e2 hx
    obtain ⟨x7, hB, l1, l2⟩ := l_86 (M := M2) (x2 := nI h) (x3 := nI (1 + t)) (x4 := nI s) (x5 := M0 (1 + 1 + 1 + 2 * s) 1) (x6 := M2 82 3) x2.1.1.2.2 hb b 0 ps_FU 0 (by omega) (pq_fu (by omega)) (fun i hi hq => absurd hq (sh_zero i hi))
    -- the queue now
    obtain ⟨c1, c2, v1, M0', NQ', c3, c4⟩ := x_queueIn x2 hs (t := 0) (by omega)
    rw [lhp0] at c3
    have c5 : M0' = M2 := (congrArg Prod.snd c3).symm
    have c6 : (fv_X5_queueIn (nI s) 0 M2).1 = M2 (1 + 1 + 1 + 2 * s) 1 := by
      have : (fv_X5_queueIn (nI s) (nI 0) M2).1 = M0' (1 + 1 + 1 + 2 * s) 1 := by rw [c4]
      rw [c5] at this; exact this
    have c1 : ok_X5_queueIn (nI s) 0 M2 := c1
    have c2 : ∀ k, (k < 28 ∨ 55 ≤ k) → (fv_X5_queueIn (nI s) 0 M2).2 k = M2 k := c2
    have e3 : EQ (fv_X5_queueIn (nI s) 0 M2).2 1 M2 1 := EQ_frame (fun k k1 k2 => c2 k (by omega))
    have s3 := ST_frame s2 (M' := (fv_X5_queueIn (nI s) 0 M2).2) (fun i i1 i2 i3 => c2 i (by omega))
    have g3 : (fv_X5_queueIn (nI s) 0 M2).2 197 = M 197 := (c2 197 (by omega)).trans g2
    generalize hM3 : (fv_X5_queueIn (nI s) 0 M2).2 = M3 at e3 s3 g3 c2
    have x3 := DI_EQ e3 x2
    have d1 : fv_X5_station (nI s) 0 M3 = M3 (1 + 1 + 1 + 2 * s) 1 := v_st0 x3.1.1.2.1 ha hs
    have d2 : ok_X5_station (nI s) 0 M3 := o_st0 x3.1.1.2.1 ha hs
    have d3 : M3 (1 + 1 + 1 + 2 * s) 1 = M2 (1 + 1 + 1 + 2 * s) 1 := by rw [c2 _ (by omega)]
    -- hours pass
    obtain ⟨f1, f2, f3, f4, f5, f6, v3, M3', f7, f8⟩ := x_pass s3 x3 (t := 1 + t) (by omega) q
    have g4 : (fv_X5_pass (nI (1 + t)) M3).2 197 = M 197 := (f5 197 (by omega)).trans g3
    obtain ⟨w, Ma, Nb, j1, j2, j3, j4, j5, j6, j7, -⟩ := h_pass q hx ((e3.trans e2).symm)
    rw [a3] at j1
    rw [f7] at j2
    have k1 : M0 = Ma := congrArg Prod.snd j1
    have k2 : M3' = Nb := congrArg Prod.snd j2
    have eT : TS M3 1 a = TS M 1 a := TS_EQ (e3.trans e2) ha
    have eQ : M0 (1 + 1 + 1 + 2 * s) 1 = (fv_X5_pass (nI (1 + t)) M3).2 (1 + 1 + 1 + 2 * s) 1 := by
      rw [k1, (j7.2.1 s (by omega)).1 1 (by omega) (by omega), ← k2]
      exact (f8.2.1 s (by omega)).1 1 (by omega) (by omega)
    generalize hM4 : (fv_X5_pass (nI (1 + t)) M3).2 = M4 at f2 f3 f4 f5 f6 f8 g4 eQ
    generalize hvp : (fv_X5_pass (nI (1 + t)) M3).1 = vp at f4
    -- people served
    obtain ⟨m1, -, m3⟩ := t_total f3.1.1.2.1 ha
    have m4 := t_TS f3.1.1.2.1 ha
    have e5 : EQ (fv_X5_total M4) 1 M4 1 := EQ_frame (fun k k1 k2 => m1 k (by omega))
    have s5 := ST_frame f2 (M' := fv_X5_total M4) (fun i i1 i2 i3 => m1 i i2)
    have g5 : fv_X5_total M4 197 = M 197 := (m1 197 (by omega)).trans g4
    generalize hM5 : fv_X5_total M4 = M5 at m4 e5 s5 g5 m1
    have x5 := DI_EQ e5 f3
    have r1 : vp = M5 82 3 - M2 82 3 := by
      rw [m4, b4, TS_EQ e1 ha, ← eT, ← f4]; grind
    have r2 : M5 1 0 = nI h + nI (1 + t) := by rw [x5.1.1.1, nI_add]
    have r3 : fv_X5_station (nI s) 0 M5 = M5 (1 + 1 + 1 + 2 * s) 1 := v_st0 x5.1.1.2.1 ha hs
    have r4 : ok_X5_station (nI s) 0 M5 := o_st0 x5.1.1.2.1 ha hs
    have r5 : M5 (1 + 1 + 1 + 2 * s) 1 = M0 (1 + 1 + 1 + 2 * s) 1 := by rw [eQ, m1 _ (by omega)]
    obtain ⟨z1, z2⟩ := l_188 (M := M5) (x3 := nI (1 + t)) (x7 := x7) x5.1.1.2.2 hb (fun c hc y1 y2 y3 => by
      obtain ⟨-, y4⟩ := hB c (by omega) y1
      have t1 : 1 + t = 1 := by
        have := (pq_inj (s := 1 + t) (t := 1) (by omega) (by omega)).mp y2
        exact this
      rw [v_ck5 x2.1.1.2.2 hb hc] at y4
      have y5 : ¬ fv_X1_rests (1 + 14 + 1 + c) M2 = 0 := fun y => by
        rw [if_pos y] at y4; exact absurd y4 (by decide)
      have y6 : ¬ M2 (1 + 14 + 1 + c) 5 ≤ 0 := fun y => y5 (by unfold fv_X1_rests; rw [if_pos y])
      obtain ⟨p1, p2, p3, p4, p5, p6, p7⟩ := p_K x2 hc
      have y7 : M2 (1 + 14 + 1 + c) 5 = 1 := by
        rw [pq_le, Int32.toInt_zero] at y6
        rw [pq_eq]
        show (M2 (1 + 14 + 1 + c) 5).toInt = 1
        omega
      have y8 : M2 (1 + 14 + 1 + c) 2 = -5 := by
        rcases p3 with g | ⟨g, -⟩
        · exact g.1
        · rw [g] at y7; exact absurd y7 (by decide)
      have y9 := f6 t1 c hc (by rw [c2 _ (by omega)]; exact y8) (by rw [c2 _ (by omega)]; exact y7)
      rw [v_ck5 x5.1.1.2.2 hb hc] at y3
      have y10 : fv_X1_rests (1 + 14 + 1 + c) M5 = 0 := by
        unfold fv_X1_rests
        rw [if_pos (by rw [m1 _ (by omega), y9]; decide)]
      rw [if_pos y10] at y3
      exact absurd y3 (by decide)) b 0 ps_FU (by omega) (pq_fu (by omega))
    have l1 : fv_L_passes_86 ps_FU (nI h) (nI (1 + t)) (nI s) (M0 (1 + 1 + 1 + 2 * s) 1) (M2 82 3) 0 0 M2 = fv_L_passes_86 1 (nI h) (nI (1 + t)) (nI s) (M0 (1 + 1 + 1 + 2 * s) 1) (M2 82 3) x7 (nI b) M2 := l1
    have l2 : ok_L_passes_86 1 (nI h) (nI (1 + t)) (nI s) (M0 (1 + 1 + 1 + 2 * s) 1) (M2 82 3) x7 (nI b) M2 → ok_L_passes_86 ps_FU (nI h) (nI (1 + t)) (nI s) (M0 (1 + 1 + 1 + 2 * s) 1) (M2 82 3) 0 0 M2 := l2
    have z1 : fv_L_passes_188 ps_FU (nI (1 + t)) x7 0 M5 = (1, M5) := z1
    have z2 : ok_L_passes_188 ps_FU (nI (1 + t)) x7 0 M5 := z2
    have hlast : fv_L_passes_86 1 (nI h) (nI (1 + t)) (nI s) (M0 (1 + 1 + 1 + 2 * s) 1) (M2 82 3) x7 (nI b) M2 = (1, M5) := by
      rw [fv_L_passes_86_s]
      simp only [v_count2, x2.1.1.2.2, pq_leT (show ¬ b < b by omega) (by omega) (by omega), c6, hM3, d1, d3, hvp, hM4, v_count6, hM5, r1, v_count0, fv_L_passes_165, r2, r3, r5, z1, if_true, if_false, true_implies, false_implies, not_true_eq_false, not_false_eq_true, true_and, and_true, implies_true]
    have olast : ok_L_passes_86 1 (nI h) (nI (1 + t)) (nI s) (M0 (1 + 1 + 1 + 2 * s) 1) (M2 82 3) x7 (nI b) M2 := by
      rw [ok_L_passes_86_s]
      have o6 : ok_X5_count 6 M4 := o_count6 m3
      simp only [v_count2, o_count2, x2.1.1.2.2, pq_leT (show ¬ b < b by omega) (by omega) (by omega), c1, c6, hM3, d1, d2, d3, f1, hvp, hM4, v_count6, o6, hM5, r1, v_count0, o_count0, ok_L_passes_165, r2, r3, r4, r5, z2, if_true, if_false, true_implies, false_implies, not_true_eq_false, not_false_eq_true, true_and, and_true, implies_true]
    have e : fv_L_passes x M = (1, M5) := by
      unfold fv_L_passes
      simp only [v_count0, v_count1, H0, H1, et, es, one, c18, ca, if_true, if_false]
      unfold fv_L_passes_61
      simp only [a5, hM1, v_count6, hM2]
      rw [l1]
      exact hlast
    have o : ok_L_passes x M := by
      have o6 : ok_X5_count 6 M1 := o_count6 b3
      have o86 := l2 olast
      unfold ok_L_passes
      simp only [v_count0, v_count1, o_count0, o_count1, H0, H1, et, es, ot, os, one, c18, ca, if_true, if_false, true_implies, false_implies, not_true_eq_false, not_false_eq_true, true_and, and_true, implies_true]
      unfold ok_L_passes_61
      simp only [a1, a5, hM1, v_count6, o6, hM2, true_and]
      exact o86
    rw [e]
    exact ⟨o, rfl, ⟨_, _, s5⟩, ⟨_, x5⟩, g5⟩
  · have c18 : (nI h + nI (1 + t) ≤ (18 : Int32)) = False := by rw [pq_le18 hh (by omega)]; exact eq_false q
    obtain ⟨p1, p2⟩ := z_passN (t := 1 + t) H0 hh (by omega) (by omega) q
    have e : fv_L_passes x M = (1, M) := by
      unfold fv_L_passes
      simp only [v_count0, v_count1, H0, H1, et, one, c18, p1, if_true, if_false]
    have o : ok_L_passes x M := by
      unfold ok_L_passes
      simp only [v_count0, v_count1, o_count0, o_count1, H0, H1, et, ot, one, c18, p1, p2, if_true, if_false, true_implies, false_implies, not_true_eq_false, not_false_eq_true, true_and, and_true, implies_true]
    rw [e]
    exact ⟨o, rfl, ⟨n, H, hS⟩, ⟨h, hx⟩, rfl⟩
end PASSES
