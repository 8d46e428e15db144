/-! ===== the law's clerks ===== -/
section CLERKS
variable {M : ps_M} {h a b : Nat} {gv : Nat → Int32}
def kD (M : ps_M) (c : Nat) : Int32 := if fv_X1_isOnDuty (1 + 14 + 1 + c) M = 0 then 0 else 1
def kF (M : ps_M) (c : Nat) : Int32 := if fv_X1_isFree (1 + 14 + 1 + c) M = 0 then 0 else 1
theorem l_63 (hx : DI M 1 h a b gv) {c : Nat} (hc : c < b) {r : Int32 → Int32 → Int32 → Int32 → ps_M → Int32 × ps_M} {o : Int32 → Int32 → Int32 → Int32 → ps_M → Prop} {x1 x2 x3 : Int32} : fv_L_clerks_63 r x1 x2 x3 (nI c) (M (1 + 14 + 1 + c) 2) (M (1 + 14 + 1 + c) 3) (fv_X5_clerk (nI c) 6 M) (fv_X5_clerk (nI c) 5 M) M = r (x1 + kD M c) (x2 + kF M c) (x3 + M (1 + 14 + 1 + c) 4) (nI (c + 1)) M ∧ (o (x1 + kD M c) (x2 + kF M c) (x3 + M (1 + 14 + 1 + c) 4) (nI (c + 1)) M → ok_L_clerks_63 r o x1 x2 x3 (nI c) (M (1 + 14 + 1 + c) 2) (M (1 + 14 + 1 + c) 3) (fv_X5_clerk (nI c) 6 M) (fv_X5_clerk (nI c) 5 M) M) := by
  have H0 := hx.1.1.1
  have H2 := hx.1.1.2.2
  have ha := hx.1.2.2.1
  have hb := hx.1.2.2.2
  have hh := hx.1.2.1
  obtain ⟨k1, k2, k3, ⟨k4, k5, k6⟩, k7, k8, k9⟩ := p_K hx hc
  have e1 := v_ck1 H2 hb hc
  have e4 := v_ck4 H2 hb hc
  have e5 := v_ck5 H2 hb hc
  have e6 := v_ck6 H2 hb hc
  have o1 := o_ck1 H2 hb hc
  have o4 := o_ck4 H2 hb hc
  have d1 : (M (1 + 14 + 1 + c) 3 < 0) = False := eq_false (pq_nneg k4)
  have d2 : (M (1 + 14 + 1 + c) 1 < M (1 + 14 + 1 + c) 3) = False := eq_false (fun z => by rw [pq_lt] at z; omega)
  have d3 : (M (1 + 14 + 1 + c) 4 < M (1 + 14 + 1 + c) 3) = False := eq_false (fun z => by rw [pq_lt] at z; omega)
  have d4 : (M (1 + 14 + 1 + c) 4 ≤ nI h) = True := eq_true (by rw [pq_le, pq_nT (by omega)]; exact k7)
  have n5 : ((0 : Int32) ≤ -5) = False := by decide
  have n6 : ((-5 : Int32) < 0) = True := by decide
  have c10 : ((1 : Int32) = 0) = False := by decide
  have c01 : ((0 : Int32) = 1) = False := by decide
  rcases k3 with ⟨g1, g2⟩ | ⟨g1, s, g2, g3⟩
  · have eD : kD M c = 0 := by unfold kD fv_X1_isOnDuty; rw [if_pos g1, if_pos rfl]
    rw [g2] at d1 d2 d3
    by_cases q : M (1 + 14 + 1 + c) 5 ≤ 0
    · -- free
      have f1 := s_free1 g1 q
      have eF : kF M c = 1 := by unfold kF; rw [f1, if_neg (by decide)]
      have hF : FP M c = true := decide_eq_true (by rw [f1]; decide)
      have er : fv_X1_rests (1 + 14 + 1 + c) M = 0 := by unfold fv_X1_rests; rw [if_pos q]
      have e5' : fv_X5_clerk (nI c) 5 M = 0 := by rw [e5, if_pos er]
      have e6' : fv_X5_clerk (nI c) 6 M = nI (rk b (FP M) (FL M) c) := by rw [e6, f1, if_neg (by decide), p_place hx hc]
      have rb : rk b (FP M) (FL M) c < 4000 := by have : rk b (FP M) (FL M) c ≤ b := sN_b (f := fun j => FP M j && FL M j c) b 0; omega
      obtain ⟨p1, p2, -⟩ := p_freeAt hx rb
      have p2 := p2 c hc hF rfl
      have np : (nI (rk b (FP M) (FL M) c) < 0) = False := eq_false (nI_pos (by omega))
      rw [eD, eF]
      refine ⟨?_, fun hk => ?_⟩
      · simp only [fv_L_clerks_63, fv_L_clerks_104, fv_L_clerks_114, fv_L_clerks_124, fv_L_clerks_138, fv_L_clerks_139, fv_L_clerks_158, fv_L_clerks_186, fv_L_clerks_199, e1, e4, e5', e6', v_count0, H0, d1, d2, d3, d4, g1, g2, n5, n6, np, p2, pq_nIadd1, if_true, if_false]
      · simp only [ok_L_clerks_63, ok_L_clerks_104, ok_L_clerks_114, ok_L_clerks_124, ok_L_clerks_138, ok_L_clerks_139, ok_L_clerks_158, ok_L_clerks_186, ok_L_clerks_199, e1, e4, e5', e6', o1, o4, v_count0, o_count0, H0, d1, d2, d3, d4, g1, g2, n5, n6, np, p1, p2, pq_nIadd1, if_true, if_false, true_implies, false_implies, not_true_eq_false, not_false_eq_true, true_and, and_true, implies_true]
        exact hk
    · -- resting
      have f1 := s_free0 (k := 1 + 14 + 1 + c) (M := M) (fun z => q z.2)
      have eF : kF M c = 0 := by unfold kF; rw [f1, if_pos rfl]
      have er : ¬ fv_X1_rests (1 + 14 + 1 + c) M = 0 := by unfold fv_X1_rests; rw [if_neg q]; decide
      have e5' : fv_X5_clerk (nI c) 5 M = 1 := by rw [e5, if_neg er]
      have e6' : fv_X5_clerk (nI c) 6 M = -5 := by rw [e6, f1, if_pos rfl]
      rw [eD, eF]
      refine ⟨?_, fun hk => ?_⟩
      · simp only [fv_L_clerks_63, fv_L_clerks_104, fv_L_clerks_114, fv_L_clerks_124, fv_L_clerks_138, fv_L_clerks_139, fv_L_clerks_158, fv_L_clerks_186, fv_L_clerks_199, e1, e4, e5', e6', v_count0, H0, d1, d2, d3, d4, g1, g2, n5, n6, c10, pq_nIadd1, if_true, if_false]
      · simp only [ok_L_clerks_63, ok_L_clerks_104, ok_L_clerks_114, ok_L_clerks_124, ok_L_clerks_138, ok_L_clerks_139, ok_L_clerks_158, ok_L_clerks_186, ok_L_clerks_199, e1, e4, e5', e6', o1, o4, v_count0, o_count0, H0, d1, d2, d3, d4, g1, g2, n5, n6, c10, pq_nIadd1, if_true, if_false, true_implies, false_implies, not_true_eq_false, not_false_eq_true, true_and, and_true, implies_true]
        exact hk
  · have hne : ¬ M (1 + 14 + 1 + c) 2 = -5 := by rw [g3]; exact fun q => pq_ne5 (by omega) q.symm
    have eD : kD M c = 1 := by unfold kD fv_X1_isOnDuty; rw [if_neg hne, if_neg (by decide)]
    have f1 := s_free0 (k := 1 + 14 + 1 + c) (M := M) (fun z => hne z.1)
    have eF : kF M c = 0 := by unfold kF; rw [f1, if_pos rfl]
    have er : fv_X1_rests (1 + 14 + 1 + c) M = 0 := by unfold fv_X1_rests; rw [if_pos (by rw [g1]; decide)]
    have e5' : fv_X5_clerk (nI c) 5 M = 0 := by rw [e5, if_pos er]
    have e6' : fv_X5_clerk (nI c) 6 M = -5 := by rw [e6, f1, if_pos rfl]
    have s1 : (0 ≤ nI s) = True := eq_true (nI_pos' (by omega))
    have s2 : (nI s < 0) = False := eq_false (nI_pos (by omega))
    rw [eD, eF]
    refine ⟨?_, fun hk => ?_⟩
    · simp only [fv_L_clerks_63, fv_L_clerks_104, fv_L_clerks_114, fv_L_clerks_124, fv_L_clerks_138, fv_L_clerks_139, fv_L_clerks_158, fv_L_clerks_186, fv_L_clerks_199, e1, e4, e5', e6', v_count0, H0, d1, d2, d3, d4, g3, s1, s2, n5, n6, pq_nIadd1, if_true, if_false]
    · simp only [ok_L_clerks_63, ok_L_clerks_104, ok_L_clerks_114, ok_L_clerks_124, ok_L_clerks_138, ok_L_clerks_139, ok_L_clerks_158, ok_L_clerks_186, ok_L_clerks_199, e1, e4, e5', e6', o1, o4, v_count0, o_count0, H0, d1, d2, d3, d4, g3, s1, s2, n5, n6, pq_nIadd1, if_true, if_false, true_implies, false_implies, not_true_eq_false, not_false_eq_true, true_and, and_true, implies_true]
      exact hk
theorem l_9 (hx : DI M 1 h a b gv) : ∀ (k c n : Nat) (x1 x2 x3 : Int32), c + k = b → k < n → fv_L_clerks_9 n x1 x2 x3 (nI c) M = fv_L_clerks_220 ps_FU (pq_sm (kD M) k c x1) (pq_sm (kF M) k c x2) (pq_sm (fun c => M (1 + 14 + 1 + c) 4) k c x3) 0 M ∧ (ok_L_clerks_220 ps_FU (pq_sm (kD M) k c x1) (pq_sm (kF M) k c x2) (pq_sm (fun c => M (1 + 14 + 1 + c) 4) k c x3) 0 M → ok_L_clerks_9 n x1 x2 x3 (nI c) M) := by
  have H2 := hx.1.1.2.2
  have hb := hx.1.2.2.2
  intro k
  induction k with
  | zero =>
    intro c n x1 x2 x3 h1 h2
    cases n with
    | zero => omega
    | succ n =>
      rw [fv_L_clerks_9_s, ok_L_clerks_9_s, show c = b by omega]
      simp only [v_count2, o_count2, H2, pq_leT (show ¬ b < b by omega) (by omega) (by omega), if_true, true_implies, not_true_eq_false, false_implies, and_true, true_and]
      exact ⟨rfl, id⟩
  | succ k ih =>
    intro c n x1 x2 x3 h1 h2
    cases n with
    | zero => omega
    | succ n =>
      have hc : c < b := by omega
      obtain ⟨i1, i2⟩ := l_63 hx hc (r := fun a1 a2 a3 a4 M => fv_L_clerks_9 n a1 a2 a3 a4 M) (o := fun a1 a2 a3 a4 M => ok_L_clerks_9 n a1 a2 a3 a4 M) (x1 := x1) (x2 := x2) (x3 := x3)
      obtain ⟨j1, j2⟩ := ih (c + 1) n (x1 + kD M c) (x2 + kF M c) (x3 + M (1 + 14 + 1 + c) 4) (by omega) (by omega)
      have e2 := v_ck2 H2 hb hc
      have e3 := v_ck3 H2 hb hc
      have o2 := o_ck2 H2 hb hc
      have o3 := o_ck3 H2 hb hc
      have o5 := o_ck5 H2 hb hc
      have o6 := o_ck6 H2 hb hc
      have e5 := v_ck5 H2 hb hc
      refine ⟨?_, fun hk => ?_⟩
      · rw [fv_L_clerks_9_s]
        simp only [v_count2, H2, pq_leF hc (by omega), e2, e3, if_false]
        by_cases q : fv_X5_clerk (nI c) 5 M = 1
        · rw [if_pos q]
          rw [q] at i1
          exact i1.trans j1
        · rw [if_neg q]
          have q0 : fv_X5_clerk (nI c) 5 M = 0 := by
            rw [e5] at q ⊢
            by_cases z : fv_X1_rests (1 + 14 + 1 + c) M = 0
            · rw [if_pos z]
            · rw [if_neg z] at q; exact absurd rfl q
          rw [q0] at i1
          exact i1.trans j1
      · have := i2 (j2 hk)
        rw [ok_L_clerks_9_s]
        simp only [v_count2, o_count2, H2, pq_leF hc (by omega), e2, e3, o2, o3, o5, o6, if_false, false_implies, not_false_eq_true, true_implies, true_and]
        refine ⟨fun q => ?_, fun q => ?_⟩
        · rw [q] at this
          exact this
        · have q0 : fv_X5_clerk (nI c) 5 M = 0 := by
            rw [e5] at q ⊢
            by_cases z : fv_X1_rests (1 + 14 + 1 + c) M = 0
            · rw [if_pos z]
            · rw [if_neg z] at q; exact absurd rfl q
          rw [q0] at this
          exact this
theorem l_220 (hx : DI M 1 h a b gv) {x1 x3 : Int32} : ∀ (k j n : Nat), nP b (FP M) ≤ j + 1 + k → j < 4000 → k < n → fv_L_clerks_220 n x1 (nI (nP b (FP M))) x3 (nI j) M = fv_L_clerks_301 ps_FU x1 (nI (nP b (FP M))) x3 0 0 M ∧ (ok_L_clerks_301 ps_FU x1 (nI (nP b (FP M))) x3 0 0 M → ok_L_clerks_220 n x1 (nI (nP b (FP M))) x3 (nI j) M) := by
  have H2 := hx.1.1.2.2
  have hb := hx.1.2.2.2
  have hN : nP b (FP M) ≤ b := sN_b b 0
  intro k
  induction k with
  | zero =>
    intro j n h1 h2 h3
    cases n with
    | zero => omega
    | succ n =>
      rw [fv_L_clerks_220_s, ok_L_clerks_220_s, pq_nIadd1]
      simp only [eq_true (nI_le (a := nP b (FP M)) (b := j + 1) (by omega) (by omega)), if_true, true_implies, not_true_eq_false, false_implies, and_true]
      exact ⟨trivial, id⟩
  | succ k ih =>
    intro j n h1 h2 h3
    cases n with
    | zero => omega
    | succ n =>
      by_cases q : nP b (FP M) ≤ j + 1
      · rw [fv_L_clerks_220_s, ok_L_clerks_220_s, pq_nIadd1]
        simp only [eq_true (nI_le (a := nP b (FP M)) (b := j + 1) (by omega) (by omega)), if_true, true_implies, not_true_eq_false, false_implies, and_true]
        exact ⟨trivial, id⟩
      · obtain ⟨i, i1, i2, i3⟩ := rk_sur (OR_FL M b) (P := FP M) (k := j) (by omega)
        obtain ⟨l, l1, l2, l3⟩ := rk_sur (OR_FL M b) (P := FP M) (k := j + 1) (by omega)
        have hl := of_decide_eq_true (rk_rev (OR_FL M b) i1 l1 i2 l2 (by omega))
        obtain ⟨o1, e1, -⟩ := p_freeAt hx (x := j) (by omega)
        obtain ⟨o2, e2, -⟩ := p_freeAt hx (x := j + 1) (by omega)
        have e1 := e1 i i1 i2 i3
        have e2 := e2 l l1 l2 l3
        have w1 := v_ck4 H2 hb i1
        have w2 := v_ck4 H2 hb l1
        have u1 := o_ck4 H2 hb i1
        have u2 := o_ck4 H2 hb l1
        obtain ⟨r1, r2⟩ := ih (j + 1) n (by omega) (by omega) (by omega)
        have d1 : (M (1 + 14 + 1 + l) 4 < M (1 + 14 + 1 + i) 4) = False := eq_false (fun z => by rw [pq_lt] at z; omega)
        have d0 : (nI (nP b (FP M)) ≤ nI (j + 1)) = False := eq_false (by rw [nI_leI (by omega) (by omega)]; exact q)
        by_cases z : M (1 + 14 + 1 + i) 4 = M (1 + 14 + 1 + l) 4
        · have d2 : (nI i ≤ nI l) = True := eq_true (by rw [z] at hl; exact nI_le (by omega) (by omega))
          refine ⟨?_, fun hk => ?_⟩
          · rw [fv_L_clerks_220_s, pq_nIadd1]
            simp only [d0, e1, e2, w1, w2, d1, eq_true z, d2, if_true, if_false]
            exact r1
          · have := r2 hk
            rw [ok_L_clerks_220_s, pq_nIadd1]
            simp only [d0, e1, e2, o1, o2, w1, w2, u1, u2, d1, eq_true z, d2, this, if_true, if_false, true_implies, false_implies, not_true_eq_false, not_false_eq_true, true_and, and_true, implies_true]
        · refine ⟨?_, fun hk => ?_⟩
          · rw [fv_L_clerks_220_s, pq_nIadd1]
            simp only [d0, e1, e2, w1, w2, d1, eq_false z, if_true, if_false]
            exact r1
          · have := r2 hk
            rw [ok_L_clerks_220_s, pq_nIadd1]
            simp only [d0, e1, e2, o1, o2, w1, w2, u1, u2, d1, eq_false z, this, if_true, if_false, true_implies, false_implies, not_true_eq_false, not_false_eq_true, true_and, and_true, implies_true]
def kA (M : ps_M) (s c : Nat) : Int32 := if M (1 + 14 + 1 + c) 2 = nI s then 1 else 0
def kS (M : ps_M) (s c : Nat) : Int32 := if M (1 + 14 + 1 + c) 2 = nI s then M (1 + 14 + 1 + c) 0 else 0
theorem l_320 (hx : DI M 1 h a b gv) {s : Nat} (hs : s < a) {r : Int32 → Int32 → Int32 → Int32 → Int32 → ps_M → Int32 × ps_M} {o : Int32 → Int32 → Int32 → Int32 → Int32 → ps_M → Prop} {x1 x2 x3 x4 : Int32} : ∀ (k c n : Nat) (x6 x7 : Int32), c + k = b → k < n → pq_sm (kA M s) k c x6 = fv_X2_clerksAt 1 (nI s) M → pq_sm (kS M s) k c x7 = fv_X2_servedAnHourAt 1 (nI s) M → fv_L_clerks_320 r n x1 x2 x3 x4 (nI s) x6 x7 (nI c) M = r x1 x2 x3 (x4 + fv_X2_clerksAt 1 (nI s) M) (nI (s + 1)) M ∧ (o x1 x2 x3 (x4 + fv_X2_clerksAt 1 (nI s) M) (nI (s + 1)) M → ok_L_clerks_320 r o n x1 x2 x3 x4 (nI s) x6 x7 (nI c) M) := by
  have H1 := hx.1.1.2.1
  have H2 := hx.1.1.2.2
  have ha := hx.1.2.2.1
  have hb := hx.1.2.2.2
  intro k
  induction k with
  | zero =>
    intro c n x6 x7 h1 h2 h3 h4
    cases n with
    | zero => omega
    | succ n =>
      have h3 : x6 = fv_X2_clerksAt 1 (nI s) M := h3
      have h4 : x7 = fv_X2_servedAnHourAt 1 (nI s) M := h4
      have e4 := v_st4 H1 ha hs
      have e5 := v_st5 H1 ha hs
      have o4 := o_st4 H1 ha hs (cl_clerksAt H2 hb (nI s)).2
      have o5 := o_st5 H1 ha hs (cl_served H2 hb (nI s)).2
      rw [fv_L_clerks_320_s, ok_L_clerks_320_s, show c = b by omega]
      simp only [v_count2, o_count2, H2, pq_leT (show ¬ b < b by omega) (by omega) (by omega), e4, e5, o4, o5, h3, h4, pq_nIadd1, if_true, true_implies, not_true_eq_false, false_implies, and_true, true_and]
      exact id
  | succ k ih =>
    intro c n x6 x7 h1 h2 h3 h4
    cases n with
    | zero => omega
    | succ n =>
      have hc : c < b := by omega
      have e0 := v_ck0 H2 hb hc
      have e2 := v_ck2 H2 hb hc
      have o0 := o_ck0 H2 hb hc
      have o2 := o_ck2 H2 hb hc
      obtain ⟨i1, i2⟩ := ih (c + 1) n (x6 + kA M s c) (x7 + kS M s c) (by omega) (by omega) h3 h4
      by_cases q : M (1 + 14 + 1 + c) 2 = nI s
      · have eA : kA M s c = 1 := by unfold kA; rw [if_pos q]
        have eS : kS M s c = M (1 + 14 + 1 + c) 0 := by unfold kS; rw [if_pos q]
        rw [eA, eS] at i1 i2
        refine ⟨?_, fun hk => ?_⟩
        · rw [fv_L_clerks_320_s]
          simp only [v_count2, H2, pq_leF hc (by omega), e0, e2, eq_true q, fv_L_clerks_349, fv_L_clerks_377, pq_nIadd1, if_true, if_false]
          exact i1
        · have := i2 hk
          rw [ok_L_clerks_320_s]
          simp only [v_count2, o_count2, H2, pq_leF hc (by omega), e0, e2, o0, o2, eq_true q, ok_L_clerks_349, ok_L_clerks_377, pq_nIadd1, if_true, if_false, true_implies, false_implies, not_true_eq_false, not_false_eq_true, true_and, and_true, implies_true]
          exact this
      · have eA : kA M s c = 0 := by unfold kA; rw [if_neg q]
        have eS : kS M s c = 0 := by unfold kS; rw [if_neg q]
        rw [eA, eS] at i1 i2
        refine ⟨?_, fun hk => ?_⟩
        · rw [fv_L_clerks_320_s]
          simp only [v_count2, H2, pq_leF hc (by omega), e0, e2, eq_false q, fv_L_clerks_349, fv_L_clerks_377, pq_nIadd1, if_true, if_false]
          exact i1
        · have := i2 hk
          rw [ok_L_clerks_320_s]
          simp only [v_count2, o_count2, H2, pq_leF hc (by omega), e0, e2, o0, o2, eq_false q, ok_L_clerks_349, ok_L_clerks_377, pq_nIadd1, if_true, if_false, true_implies, false_implies, not_true_eq_false, not_false_eq_true, true_and, and_true, implies_true]
          exact this
theorem l_301 (hx : DI M 1 h a b gv) {x1 x2 x3 : Int32} : ∀ (k s n : Nat) (x4 : Int32), s + k = a → k < n → fv_L_clerks_301 n x1 x2 x3 x4 (nI s) M = fv_L_clerks_301 1 x1 x2 x3 (pq_sm (fun s => fv_X2_clerksAt 1 (nI s) M) k s x4) (nI a) M ∧ (ok_L_clerks_301 1 x1 x2 x3 (pq_sm (fun s => fv_X2_clerksAt 1 (nI s) M) k s x4) (nI a) M → ok_L_clerks_301 n x1 x2 x3 x4 (nI s) M) := by
  have H1 := hx.1.1.2.1
  have H2 := hx.1.1.2.2
  have ha := hx.1.2.2.1
  have hb := hx.1.2.2.2
  intro k
  induction k with
  | zero =>
    intro s n x4 h1 h2
    cases n with
    | zero => omega
    | succ n =>
      rw [show s = a by omega]
      refine ⟨?_, ?_⟩
      · rw [fv_L_clerks_301_s, fv_L_clerks_301_s]
        simp only [v_count1, H1, pq_leT (show ¬ a < a by omega) (by omega) (by omega), if_true]
        rfl
      · rw [ok_L_clerks_301_s, ok_L_clerks_301_s]
        simp only [v_count1, H1, pq_leT (show ¬ a < a by omega) (by omega) (by omega), true_implies, not_true_eq_false, false_implies, and_true]
        exact id
  | succ k ih =>
    intro s n x4 h1 h2
    cases n with
    | zero => omega
    | succ n =>
      obtain ⟨i1, i2⟩ := l_320 hx (s := s) (by omega) (r := fun a1 a2 a3 a4 a5 M => fv_L_clerks_301 n a1 a2 a3 a4 a5 M) (o := fun a1 a2 a3 a4 a5 M => ok_L_clerks_301 n a1 a2 a3 a4 a5 M) (x1 := x1) (x2 := x2) (x3 := x3) (x4 := x4) b 0 ps_FU 0 0 (by omega) (pq_fu (by omega)) (cl_clerksAt H2 hb (nI s)).1.symm (cl_served H2 hb (nI s)).1.symm
      obtain ⟨j1, j2⟩ := ih (s + 1) n (x4 + fv_X2_clerksAt 1 (nI s) M) (by omega) (by omega)
      refine ⟨?_, fun hk => ?_⟩
      · rw [fv_L_clerks_301_s]
        simp only [v_count1, H1, pq_leF (show s < a by omega) (by omega), if_false]
        exact i1.trans j1
      · have := i2 (j2 hk)
        rw [ok_L_clerks_301_s]
        simp only [v_count1, o_count1, H1, pq_leF (show s < a by omega) (by omega), if_false, false_implies, not_false_eq_true, true_implies, true_and]
        exact this
/-- those on duty are those at the stations, together -/
theorem duty_all (hx : DI M 1 h a b gv) : pq_sm (fun s => fv_X2_clerksAt 1 (nI s) M) a 0 0 = pq_sm (kD M) b 0 0 := by
  have H2 := hx.1.1.2.2
  have ha := hx.1.2.2.1
  have hb := hx.1.2.2.2
  have e1 : ∀ s, fv_X2_clerksAt 1 (nI s) M = nI (sN (fun c => bN (decide (M (1 + 14 + 1 + c) 2 = nI s))) b 0) := fun s => by
    rw [(cl_clerksAt H2 hb (nI s)).1, show (0 : Int32) = nI 0 from rfl, sm_sN (f := fun c => bN (decide (M (1 + 14 + 1 + c) 2 = nI s))) b 0 0 (fun c _ _ => ?_), Nat.zero_add]
    by_cases q : M (1 + 14 + 1 + c) 2 = nI s
    · rw [if_pos q, decide_eq_true q]; rfl
    · rw [if_neg q, decide_eq_false q]; rfl
  have e2 : pq_sm (fun s => fv_X2_clerksAt 1 (nI s) M) a 0 (nI 0) = nI (0 + sN (fun s => sN (fun c => bN (decide (M (1 + 14 + 1 + c) 2 = nI s))) b 0) a 0) := sm_sN a 0 0 (fun s _ _ => e1 s)
  have e3 : pq_sm (kD M) b 0 (nI 0) = nI (0 + sN (fun c => bN (decide (¬ M (1 + 14 + 1 + c) 2 = -5))) b 0) := sm_sN b 0 0 (fun c _ _ => by
    unfold kD fv_X1_isOnDuty
    by_cases q : M (1 + 14 + 1 + c) 2 = -5
    · rw [if_pos q, if_pos rfl, decide_eq_false (fun z => z q)]; rfl
    · rw [if_neg q, if_neg (by decide), decide_eq_true (p := ¬ M (1 + 14 + 1 + c) 2 = -5) q]; rfl)
  show pq_sm (fun s => fv_X2_clerksAt 1 (nI s) M) a 0 (nI 0) = pq_sm (kD M) b 0 (nI 0)
  rw [e2, e3, sN_swap]
  congr 2
  refine sN_congr b 0 (fun c _ hc => ?_)
  rcases (p_K hx (c := c) (by omega)).2.2.1 with g | ⟨-, t, ht, g⟩
  · rw [decide_eq_false (fun z => z g.1)]
    refine sN_zero a 0 (fun s _ hs => ?_)
    rw [decide_eq_false (fun z => by rw [g.1] at z; exact absurd z (pq_ne5 (by omega)))]
    rfl
  · rw [decide_eq_true (p := ¬ M (1 + 14 + 1 + c) 2 = -5) (fun z => by rw [g] at z; exact absurd z.symm (pq_ne5 (by omega)))]
    refine sN_one a 0 t (by omega) (by omega) ?_ (fun s _ hs hne => ?_)
    · rw [decide_eq_true g]; rfl
    · rw [decide_eq_false (fun z => by rw [g] at z; exact hne ((pq_inj (by omega) (by omega)).mp z).symm)]
      rfl
theorem x_clerks (hx : DI M 1 h a b gv) : ok_L_clerks M ∧ fv_L_clerks M = (1, M) := by
  have H1 := hx.1.1.2.1
  have H2 := hx.1.1.2.2
  have ha := hx.1.2.2.1
  have hb := hx.1.2.2.2
  have eN : pq_sm (kF M) b 0 0 = nI (nP b (FP M)) := (cl_freeClerks H2 hb).1.symm.trans (p_free hx)
  have hN : nP b (FP M) ≤ b := sN_b b 0
  obtain ⟨i1, i2⟩ := l_9 hx b 0 ps_FU 0 0 0 (by omega) (pq_fu (by omega))
  rw [eN] at i1 i2
  obtain ⟨j1, j2⟩ := l_220 hx (x1 := pq_sm (kD M) b 0 0) (x3 := pq_sm (fun c => M (1 + 14 + 1 + c) 4) b 0 0) (nP b (FP M)) 0 ps_FU (by omega) (by omega) (pq_fu (by omega))
  obtain ⟨k1, k2⟩ := l_301 hx (x1 := pq_sm (kD M) b 0 0) (x2 := nI (nP b (FP M))) (x3 := pq_sm (fun c => M (1 + 14 + 1 + c) 4) b 0 0) a 0 ps_FU 0 (by omega) (pq_fu (by omega))
  rw [duty_all hx] at k1 k2
  have c3 : fv_X2_clerksOnDuty 1 M = pq_sm (kD M) b 0 0 := (cl_onDuty H2 hb).1
  have c4 : fv_X2_freeClerks 1 M = nI (nP b (FP M)) := p_free hx
  have c13 : fv_X2_hoursWorked 1 M = pq_sm (fun c => M (1 + 14 + 1 + c) 4) b 0 0 := (cl_worked H2 hb).1
  have o3 : ok_X5_count 3 M := o_count3 (cl_onDuty H2 hb).2
  have o4 : ok_X5_count 4 M := o_count4 (cl_freeClerks H2 hb).2
  have o13 : ok_X5_count 13 M := o_count13 (cl_worked H2 hb).2
  obtain ⟨p1, -, p3⟩ := p_freeAt hx (x := nP b (FP M)) (by omega)
  have p3 := p3 (Nat.le_refl _)
  have last : fv_L_clerks_301 1 (pq_sm (kD M) b 0 0) (nI (nP b (FP M))) (pq_sm (fun c => M (1 + 14 + 1 + c) 4) b 0 0) (pq_sm (kD M) b 0 0) (nI a) M = (1, M) := by
    rw [fv_L_clerks_301_s]
    simp only [v_count1, H1, pq_leT (show ¬ a < a by omega) (by omega) (by omega), v_count3, v_count4, v_count13, c3, c4, c13, p3, if_true]
  have olast : ok_L_clerks_301 1 (pq_sm (kD M) b 0 0) (nI (nP b (FP M))) (pq_sm (fun c => M (1 + 14 + 1 + c) 4) b 0 0) (pq_sm (kD M) b 0 0) (nI a) M := by
    rw [ok_L_clerks_301_s]
    simp only [v_count1, o_count1, H1, pq_leT (show ¬ a < a by omega) (by omega) (by omega), v_count3, v_count4, v_count13, o3, o4, o13, c3, c4, c13, p1, p3, if_true, true_implies, not_true_eq_false, false_implies, and_true, true_and]
  exact ⟨i2 (j2 (k2 olast)), ((i1.trans j1).trans k1).trans last⟩
end CLERKS
