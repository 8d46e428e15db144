/-! ===== numbers of the whole, text, the record ===== -/
theorem pq_237 : (237 : Int32) = nI 237 := rfl
theorem sim_count : pl_sim_count Rel := by
  intro M N a1 hR
  obtain ⟨h, a, b, hx⟩ := hR.1
  obtain ⟨n, p, p1, p2, p3, p4, p5, p6⟩ := hR.2.2.1
  obtain ⟨m, t1, t2, t3, t4⟩ := hR.2.2.2
  have ha := hx.2.2.1.2.1
  obtain ⟨w1, w2, w3⟩ := t_total hx.1.2.1 ha
  have hRt : Rel (fv_X5_total M) N := by
    refine Rel_now hR (fun i => ?_) (fun i => Or.inr (Or.inr (Or.inr (Or.inr rfl)))) ⟨h, a, b, DX_frame hx (fun k k1 k2 => w1 k (by omega)) (fun i _ => rfl)⟩
    by_cases q : i = 82
    · exact Or.inl (Or.inr (Or.inr (Or.inl q)))
    · exact Or.inr (w1 i q)
  have tot : ∀ j j', (j = 1 ∨ j = 3 ∨ j = 4 ∨ j = 5 ∨ j = 6 ∨ j = 10) → j' + 1 = j → fv_X5_total M 82 j = fv_X6_overStations (nI j') N ∧ ok_X6_overStations (nI j') N := by
    intro j j' hj hjj
    obtain ⟨m1, m2⟩ := mo_overS hx.2.1.2.1 ha (j := j') (by omega)
    refine ⟨?_, m2⟩
    rw [w2 j hj, m1]
    refine pq_sm_congr _ _ _ (fun i _ g => ?_)
    rw [← hjj]
    exact DR_f hx (by omega) (by omega)
  have T0 := tot 1 0 (by omega) rfl
  have T2 := tot 3 2 (by omega) rfl
  have T4 := tot 5 4 (by omega) rfl
  have T5 := tot 6 5 (by omega) rfl
  have T9 := tot 10 9 (by omega) rfl
  have T3 := tot 4 3 (by omega) rfl
  have g1 := t_onDuty hx
  have g2 := t_freeClerks hx
  have g3 := t_worked hx
  have g4 := t_counted hx (x := 1) (Or.inr rfl)
  have g5 := t_counted hx (x := 0) (Or.inl rfl)
  have z3 : (3 : Int32) - 3 = 0 := by decide
  have z4 : (4 : Int32) - 3 = 1 := by decide
  have v0 : vp_in (0 : Int32) 237 := pq_vin (n := 0) (by omega) (by omega)
  have v1 : vp_in (1 : Int32) 237 := pq_vin (n := 1) (by omega) (by omega)
  have v2 : vp_in (2 : Int32) 237 := pq_vin (n := 2) (by omega) (by omega)
  have c0 : N 1 0 = M 1 0 := by rw [hx.1.1, hx.2.1.1]
  have c1 : N 1 1 = M 1 1 := by rw [hx.1.2.1, hx.2.1.2.1]
  have c2 : N 1 2 = M 1 2 := by rw [hx.1.2.2, hx.2.1.2.2]
  have c14 : N 0 2 = M 84 1 := by rw [p3, p4]
  have c15 : N 0 7 = M 194 2 := by rw [t2, t3]
  unfold fv_X5_count fv_X6_count ok_X5_count ok_X6_count
  by_cases n0 : a1 = 0
  · subst n0
    simp (config := {decide := true}) only [v0, pq_c0, c0, if_true, if_false, true_implies, not_true_eq_false, not_false_eq_true, false_implies, and_true, true_and]
    exact hR
  by_cases n1 : a1 = 1
  · subst n1
    simp (config := {decide := true}) only [v1, pq_c1, c1, if_true, if_false, true_implies, not_true_eq_false, not_false_eq_true, false_implies, and_true, true_and]
    exact hR
  by_cases n2 : a1 = 2
  · subst n2
    simp (config := {decide := true}) only [v2, pq_c2, c2, if_true, if_false, true_implies, not_true_eq_false, not_false_eq_true, false_implies, and_true, true_and]
    exact hR
  by_cases n3 : a1 = 3
  · subst n3
    simp (config := {decide := true}) only [z3, g1.1, g1.2.1, g1.2.2, if_true, if_false, true_implies, not_true_eq_false, not_false_eq_true, false_implies, and_true, true_and]
    exact hR
  by_cases n4 : a1 = 4
  · subst n4
    simp (config := {decide := true}) only [z4, g2.1, g2.2.1, g2.2.2, if_true, if_false, true_implies, not_true_eq_false, not_false_eq_true, false_implies, and_true, true_and]
    exact hR
  by_cases n5 : a1 = 5
  · subst n5
    simp (config := {decide := true}) only [w3, if_true, if_false, true_implies, not_true_eq_false, not_false_eq_true, false_implies, and_true, true_and]
    exact ⟨T0.2, T0.1, hRt⟩
  by_cases n6 : a1 = 6
  · subst n6
    simp (config := {decide := true}) only [w3, if_true, if_false, true_implies, not_true_eq_false, not_false_eq_true, false_implies, and_true, true_and]
    exact ⟨T2.2, T2.1, hRt⟩
  by_cases n7 : a1 = 7
  · subst n7
    simp (config := {decide := true}) only [w3, if_true, if_false, true_implies, not_true_eq_false, not_false_eq_true, false_implies, and_true, true_and]
    exact ⟨T4.2, T4.1, hRt⟩
  by_cases n8 : a1 = 8
  · subst n8
    simp (config := {decide := true}) only [w3, if_true, if_false, true_implies, not_true_eq_false, not_false_eq_true, false_implies, and_true, true_and]
    exact ⟨T5.2, T5.1, hRt⟩
  by_cases n9 : a1 = 9
  · subst n9
    simp (config := {decide := true}) only [w3, if_true, if_false, true_implies, not_true_eq_false, not_false_eq_true, false_implies, and_true, true_and]
    exact ⟨T9.2, T9.1, hRt⟩
  by_cases n10 : a1 = 10
  · subst n10
    simp (config := {decide := true}) only [g4.1, g4.2.1, g4.2.2, if_true, if_false, true_implies, not_true_eq_false, not_false_eq_true, false_implies, and_true, true_and]
    exact hR
  by_cases n11 : a1 = 11
  · subst n11
    simp (config := {decide := true}) only [g5.1, g5.2.1, g5.2.2, if_true, if_false, true_implies, not_true_eq_false, not_false_eq_true, false_implies, and_true, true_and]
    exact hR
  by_cases n12 : a1 = 12
  · subst n12
    simp (config := {decide := true}) only [w3, if_true, if_false, true_implies, not_true_eq_false, not_false_eq_true, false_implies, and_true, true_and]
    exact ⟨T3.2, T3.1, hRt⟩
  by_cases n13 : a1 = 13
  · subst n13
    simp (config := {decide := true}) only [g3.1, g3.2.1, g3.2.2, if_true, if_false, true_implies, not_true_eq_false, not_false_eq_true, false_implies, and_true, true_and]
    exact hR
  by_cases n14 : a1 = 14
  · subst n14
    simp (config := {decide := true}) only [c14, if_true, if_false, true_implies, not_true_eq_false, not_false_eq_true, false_implies, and_true, true_and]
    exact hR
  by_cases n15 : a1 = 15
  · subst n15
    simp (config := {decide := true}) only [c15, if_true, if_false, true_implies, not_true_eq_false, not_false_eq_true, false_implies, and_true, true_and]
    exact hR
  simp only [n0, n1, n2, n3, n4, n5, n6, n7, n8, n9, n10, n11, n12, n13, n14, n15, if_false, not_false_eq_true, true_implies, false_implies, and_true, true_and]
  exact hR
/-- the text alone changes -/
theorem Rel_text {M N M' N' : ps_M} (hR : Rel M N) (hM : ∀ i, i ≠ 194 → i ≠ 195 → M' i = M i) (hN : ∀ i, i ≠ 0 → i ≠ 5 → N' i = N i) (hN0 : ∀ j, j ≠ 7 → N' 0 j = N 0 j) (hT : TR M' N') : Rel M' N' := by
  obtain ⟨h1, h2, ⟨n, p, p1, p2, p3, p4, p5, p6⟩, -⟩ := hR
  refine ⟨DE_frame h1 (fun k k1 k2 => hM k (by omega) (by omega)) (fun i _ => by rw [hN 1 (by omega) (by omega)]), ?_, ⟨n, p, p1, p2, by rw [hM 84 (by omega) (by omega)]; exact p3, by rw [hN0 2 (by omega)]; exact p4, fun i hi => by rw [hM 85 (by omega) (by omega)]; exact p5 i hi, fun i hi => ?_⟩, hT⟩
  · rcases h2 with ⟨g1, g2⟩ | ⟨g1, g2, g3⟩
    · exact Or.inl ⟨by rw [hM 0 (by omega) (by omega)]; exact g1, by rw [hN0 4 (by omega)]; exact g2⟩
    · exact Or.inr ⟨by rw [hM 0 (by omega) (by omega)]; exact g1, by rw [hN0 4 (by omega)]; exact g2, DE_frame g3 (fun k k1 k2 => hM k (by omega) (by omega)) (fun i _ => by rw [hN 3 (by omega) (by omega)])⟩
  · have hb : 86 ≤ p i ∧ p i ≤ 167 := by rcases p2.1 i (by omega) with e | e | e | e <;> omega
    exact DE_frame (p6 i hi) (fun k k1 k2 => hM k (by omega) (by omega)) (fun j _ => by rw [hN 2 (by omega) (by omega)])
theorem pq_char {x : Int32} (h : x = (x.toUInt32 % 65536).toInt32) : vp_nar .char x = x ∧ 0 ≤ x.toInt := by
  have e : x.toUInt32.toUInt16.toUInt32 = x.toUInt32 % 65536 := by
    apply UInt32.toNat_inj.mp
    simp
  have hlt : (x.toUInt32 % 65536).toNat < 65536 := by
    rw [UInt32.toNat_mod]; exact Nat.mod_lt _ (by decide)
  refine ⟨?_, ?_⟩
  · show (x.toUInt32.toUInt16.toUInt32).toInt32 = x
    rw [e]; exact h.symm
  · rw [h]
    have e2 : ((x.toUInt32 % 65536).toInt32).toInt = ((x.toUInt32 % 65536).toNat : Int) := by
      rw [← Int32.toInt_toBitVec, UInt32.toBitVec_toInt32, BitVec.toInt_eq_toNat_of_lt]
      · rfl
      · show 2 * (x.toUInt32 % 65536).toNat < 2 ^ 32; omega
    rw [e2]; omega
theorem sim_type : pl_sim_type Rel := by
  intro M N a1 hR hch
  obtain ⟨ec, h0⟩ := pq_char hch
  obtain ⟨n, t1, t2, t3, t4⟩ := hR.2.2.2
  unfold fv_X5_type fv_X6_type ok_X5_type ok_X6_type fv_X5_type_44 ok_X5_type_44
  rw [ec, t2, t3, pq_nI (show n < 4000 by omega)]
  have e1 : (nI n < (60 : Int32)) = (n < 60) := by
    rw [show (60 : Int32) = nI 60 from rfl, pq_lt, pq_nT (by omega), pq_nT (by omega)]
    apply propext; omega
  have e2 : (nI n = (60 : Int32)) = ¬ (n < 60) := by
    rw [show (60 : Int32) = nI 60 from rfl]
    apply propext
    rw [pq_inj (by omega) (by omega)]; omega
  by_cases q : n < 60
  · have c1 : nI n < (60 : Int32) := by rw [e1]; exact q
    have c2 : ¬ (nI n = (60 : Int32)) := by rw [e2]; exact fun z => z q
    have v1 : vp_in (nI n) 60 := pq_vin q (by omega)
    have f1 : (ps_st M 195 n a1) 194 2 = nI n := by rw [ps_st_ne (by omega)]; exact t2
    have f2 : (ps_st N 5 n a1) 0 7 = nI n := by rw [ps_st_ne (by omega)]; exact t3
    rw [if_pos c1, if_neg c2, f1, f2, pq_nIadd1]
    refine ⟨⟨fun _ => ⟨v1, trivial⟩, fun _ => trivial⟩, ⟨fun _ => trivial, fun _ => ⟨v1, trivial⟩⟩, by rw [pq_stself, pq_stself], ?_⟩
    have hT : TR (ps_st (ps_st M 195 n a1) 194 2 (nI (n + 1))) (ps_st (ps_st N 5 n a1) 0 7 (nI (n + 1))) := by
      refine ⟨n + 1, by omega, pq_stself, pq_stself, fun i hi => ?_⟩
      rw [ps_st_ne (by omega), ps_st_self, ps_st_ne (by omega), ps_st_self]
      unfold upd
      by_cases e : i = n
      · rw [if_pos e, if_pos e]; exact ⟨rfl, h0⟩
      · rw [if_neg e, if_neg e]; exact t4 i (by omega)
    exact Rel_text hR (fun i i1 i2 => (ps_st_ne i1).trans (ps_st_ne i2)) (fun i i1 i2 => (ps_st_ne i1).trans (ps_st_ne i2)) (fun j hj => (pq_stne (Or.inr hj)).trans (by rw [ps_st_ne (by omega)])) hT
  · have c1 : ¬ (nI n < (60 : Int32)) := by rw [e1]; exact q
    have c2 : nI n = (60 : Int32) := by rw [e2]; exact q
    rw [if_neg c1, if_pos c2]
    exact ⟨⟨fun z => absurd z c1, fun _ => trivial⟩, ⟨fun _ => trivial, fun z => absurd c2 z⟩, rfl, hR⟩
theorem sim_clearText : pl_sim_clearText Rel := by
  intro M N hR
  obtain ⟨n, t1, t2, t3, t4⟩ := hR.2.2.2
  unfold fv_X5_clearText fv_X6_clearText
  refine ⟨trivial, trivial, by rw [t2, t3], ?_⟩
  have hT : TR (ps_st M 194 2 0) (ps_st N 0 7 0) := ⟨0, by omega, pq_stself, pq_stself, fun i hi => absurd hi (by omega)⟩
  exact Rel_text hR (fun i i1 i2 => ps_st_ne i1) (fun i i1 i2 => ps_st_ne i1) (fun j hj => pq_stne (Or.inr hj)) hT
theorem pq_mul237 {n : Nat} (h : n < 4) : nI n * (237 : Int32) = nI (n * 237) := by
  have h : n = 0 ∨ n = 1 ∨ n = 2 ∨ n = 3 := by omega
  rcases h with rfl | rfl | rfl | rfl <;> rfl
theorem sim_undo : pl_sim_undo Rel := by
  intro M N hR
  have hR0 := hR
  obtain ⟨h1, h2, ⟨n, p, p1, p2, p3, p4, p5, p6⟩, ⟨m, t1, t2, t3, t4⟩⟩ := hR
  unfold fv_X5_undo fv_X6_undo ok_X5_undo ok_X6_undo fv_X3_takeBackInto ok_X3_takeBackInto
  rw [p3, p4]
  cases n with
  | zero =>
    rw [show (nI 0 : Int32) = 0 from rfl]
    simp (config := {decide := true}) only [if_true, if_false, true_implies, not_true_eq_false, not_false_eq_true, false_implies, and_true, true_and]
    exact hR0
  | succ n =>
    have hp4 : n < 4 := by omega
    have hb : 86 ≤ p n ∧ p n ≤ 167 := by rcases p2.1 n hp4 with e | e | e | e <;> omega
    have e1 : (0 : Int32) < nI (n + 1) := by rw [pq_lt, pq_nT (by omega), Int32.toInt_zero]; omega
    have e2 : ¬ (nI (n + 1) ≤ (0 : Int32)) := by rw [pq_le, pq_nT (by omega), Int32.toInt_zero]; omega
    have e3 : ¬ (nI (n + 1) = (0 : Int32)) := by
      rw [show (0 : Int32) = nI 0 from rfl, pq_inj (by omega) (by omega)]; omega
    have e4 : (ps_st M 84 1 (nI n)) 85 n = nI (p n) := by rw [ps_st_ne (by omega)]; exact p5 n hp4
    have e5 : nI n * (237 : Int32) = nI (n * 237) := pq_mul237 hp4
    have v1 : vp_in (nI n) 4 := pq_vin hp4 (by omega)
    have kd : ps_kd (p n) = 2 := HP_kd p2 hp4
    have c0 : (0 : Int32) = nI 0 := rfl
    obtain ⟨w1, w2⟩ := cp_day (M := ps_st M 84 1 (nI n)) (d := 1) (e := p n) (by omega)
    obtain ⟨y1, y2, y3⟩ := mo_copies (N := ps_st N 0 2 (nI n)) (k0 := 2) (k2 := 1) (p := n * 237) (r := 0) (by omega) (by unfold pm_ln; simp; omega) (by unfold pm_ln; simp) (by unfold pm_ln; simp)
    rw [← c0] at y1 y2 y3
    simp only [e1, e2, e3, pq_sub1, pq_stself, pq_nI (show n < 4000 by omega), e4, e5, pq_nI (show p n < 4000 by omega), v1, kd, w2, if_true, if_false, true_implies, not_true_eq_false, not_false_eq_true, false_implies, and_true, true_and]
    have f84 : fv_X2_copyFrom 1 (p n) (ps_st M 84 1 (nI n)) 84 1 = nI n := by
      rw [w1.1 84 (by omega), pq_stself]
    have f0 : fv_X6_copies 2 (nI (n * 237)) 1 0 (ps_st N 0 2 (nI n)) 0 2 = nI n := by
      rw [y1 0 (by omega), pq_stself]
    refine ⟨y3, by rw [f84]; exact f0.symm, ?_⟩
    have fM : ∀ i, 28 ≤ i → i ≠ 84 → fv_X2_copyFrom 1 (p n) (ps_st M 84 1 (nI n)) i = M i := fun i i1 i2 => by rw [w1.1 i (by omega), ps_st_ne i2]
    have fM0 : fv_X2_copyFrom 1 (p n) (ps_st M 84 1 (nI n)) 0 = M 0 := by rw [w1.1 0 (by omega), ps_st_ne (by omega)]
    have fN : ∀ i, i ≠ 1 → i ≠ 0 → fv_X6_copies 2 (nI (n * 237)) 1 0 (ps_st N 0 2 (nI n)) i = N i := fun i i1 i2 => by rw [y1 i i1, ps_st_ne i2]
    have fN0 : ∀ j, j ≠ 2 → fv_X6_copies 2 (nI (n * 237)) 1 0 (ps_st N 0 2 (nI n)) 0 j = N 0 j := fun j hj => by rw [y1 0 (by omega), pq_stne (Or.inr hj)]
    refine ⟨?_, ?_, ⟨n, p, by omega, p2, f84, f0, fun i hi => by rw [fM 85 (by omega) (by omega)]; exact p5 i hi, fun i hi => ?_⟩, ⟨m, t1, by rw [fM 194 (by omega) (by omega)]; exact t2, by rw [fN0 7 (by omega)]; exact t3, fun i hi => by rw [fM 195 (by omega) (by omega), fN 5 (by omega) (by omega)]; exact t4 i hi⟩⟩
    · have d0 : DE (ps_st M 84 1 (nI n)) (p n) (fun j => N 2 (237 * n + j)) := DE_frame (p6 n (by omega)) (fun k k1 k2 => ps_st_ne (by omega)) (fun _ _ => rfl)
      refine DE_frame (DE_copy w1 d0) (fun k _ _ => rfl) (fun i hi => ?_)
      rw [y2 i, if_pos (by omega), ps_st_ne (by omega), show n * 237 + (i - 0) = 237 * n + i by omega]
    · rcases h2 with ⟨g1, g2⟩ | ⟨g1, g2, g3⟩
      · exact Or.inl ⟨by rw [fM0]; exact g1, by rw [fN0 4 (by omega)]; exact g2⟩
      · exact Or.inr ⟨by rw [fM0]; exact g1, by rw [fN0 4 (by omega)]; exact g2, DE_frame g3 (fun k k1 k2 => fM k (by omega) (by omega)) (fun i _ => by rw [fN 3 (by omega) (by omega)])⟩
    · have hbi : 86 ≤ p i ∧ p i ≤ 167 := by rcases p2.1 i (by omega) with e | e | e | e <;> omega
      exact DE_frame (p6 i (by omega)) (fun k k1 k2 => fM k (by omega) (by omega)) (fun j _ => by rw [fN 2 (by omega) (by omega)])
theorem sim_keep : pl_sim_keep Rel := by
  intro M N hR
  obtain ⟨h1, h2, ⟨n, p, p1, p2, p3, p4, p5, p6⟩, ⟨m, t1, t2, t3, t4⟩⟩ := hR
  obtain ⟨w1, w2⟩ := cp_day (M := M) (d := 55) (e := 1) (by omega)
  obtain ⟨y1, y2, y3⟩ := mo_copies (N := N) (k0 := 1) (k2 := 3) (p := 0) (r := 0) (by omega) (by unfold pm_ln; simp) (by unfold pm_ln; simp) (by unfold pm_ln; simp)
  have v0 : vp_in (0 : Int32) 237 := pq_vin (n := 0) (by omega) (by omega)
  have hx := h1
  obtain ⟨h, a, b, hx⟩ := hx
  unfold fv_X5_keep fv_X6_keep ok_X5_keep ok_X6_keep
  rw [show nI 0 = (0 : Int32) from rfl] at y1 y2 y3
  refine ⟨⟨w2, trivial⟩, ⟨y3, v0, trivial⟩, ?_, ?_⟩ <;> dsimp only
  · rw [pq_c0, ps_st_ne (by omega), ps_st_ne (by omega), w1.1 1 (by omega), y1 1 (by omega), hx.1.1, hx.2.1.1]
  · have fM : ∀ i, i < 55 ∨ 82 ≤ i → i ≠ 0 → ps_st (fv_X2_copyFrom 55 1 M) 0 3 1 i = M i := fun i i1 i2 => by rw [ps_st_ne i2, w1.1 i (by omega)]
    have fN : ∀ i, i ≠ 3 → i ≠ 0 → ps_st (fv_X6_copies 1 0 3 0 N) 0 4 1 i = N i := fun i i1 i2 => by rw [ps_st_ne i2, y1 i i1]
    have fN0 : ∀ j, j ≠ 4 → ps_st (fv_X6_copies 1 0 3 0 N) 0 4 1 0 j = N 0 j := fun j hj => by rw [pq_stne (Or.inr hj), y1 0 (by omega)]
    refine ⟨DE_frame h1 (fun k k1 k2 => fM k (by omega) (by omega)) (fun i _ => by rw [fN 1 (by omega) (by omega)]), Or.inr ⟨pq_stself, pq_stself, ?_⟩, ⟨n, p, p1, p2, by rw [fM 84 (by omega) (by omega)]; exact p3, by rw [fN0 2 (by omega)]; exact p4, fun i hi => by rw [fM 85 (by omega) (by omega)]; exact p5 i hi, fun i hi => ?_⟩, ⟨m, t1, by rw [fM 194 (by omega) (by omega)]; exact t2, by rw [fN0 7 (by omega)]; exact t3, fun i hi => by rw [fM 195 (by omega) (by omega), fN 5 (by omega) (by omega)]; exact t4 i hi⟩⟩
    · refine DE_frame (DE_copy w1 h1) (fun k k1 k2 => ps_st_ne (by omega)) (fun i hi => ?_)
      rw [ps_st_ne (by omega), y2 i, if_pos (by omega), show 0 + (i - 0) = i by omega]
    · have hbi : 86 ≤ p i ∧ p i ≤ 167 := by rcases p2.1 i (by omega) with e | e | e | e <;> omega
      exact DE_frame (p6 i (by omega)) (fun k k1 k2 => fM k (by omega) (by omega)) (fun j _ => by rw [fN 2 (by omega) (by omega)])
theorem Rel_rec0 {M N : ps_M} (hR : Rel M N) : fv_X3_remember 1 M 0 = M 0 := by
  obtain ⟨h1, h2, ⟨n, p, p1, p2, p3, p4, p5, p6⟩, -⟩ := hR
  obtain ⟨p', n', a1, a2, a3, a4, a5, a6, a7, a8, a9⟩ := hs_remember p2 p5 p3 p1
  have hb : 86 ≤ p' n' ∧ p' n' ≤ 167 := by rcases a1.1 n' a2 with e | e | e | e <;> omega
  exact a5 0 (by omega) (by omega) (by omega)
theorem sim_restore : pl_sim_restore Rel := by
  intro M N hR
  have e0 := Rel_rec0 hR
  obtain ⟨hR1, fM, -, fN, -, -, o1, o2⟩ := Rel_rec hR
  unfold fv_X5_restore fv_X6_restore ok_X5_restore ok_X6_restore
  rcases hR.2.1 with ⟨g1, g2⟩ | ⟨g1, g2, -⟩
  · simp only [g1, g2, if_true, true_implies, not_true_eq_false, false_implies, and_true, true_and]
    exact hR
  · obtain ⟨w1, w2⟩ := cp_day (M := fv_X3_remember 1 M) (d := 1) (e := 55) (by omega)
    obtain ⟨y1, y2, y3⟩ := mo_copies (N := fv_X6_records N) (k0 := 3) (k2 := 1) (p := 0) (r := 0) (by omega) (by unfold pm_ln; simp) (by unfold pm_ln; simp) (by unfold pm_ln; simp)
    have v0 : vp_in (nI 0) 237 := pq_vin (n := 0) (by omega) (by omega)
    have c0 : (0 : Int32) = nI 0 := rfl
    have hsn : DE (fv_X3_remember 1 M) 55 ((fv_X6_records N) 3) := by
      rcases hR1.2.1 with ⟨g3, -⟩ | ⟨-, -, g4⟩
      · rw [e0, g1] at g3; exact absurd g3 (by decide)
      · exact g4
    have hd : DE (fv_X2_copyFrom 1 55 (fv_X3_remember 1 M)) 1 ((fv_X6_copies 3 (nI 0) 1 (nI 0) (fv_X6_records N)) 1) := by
      refine DE_frame (DE_copy w1 hsn) (fun k _ _ => rfl) (fun i hi => ?_)
      rw [y2 i, if_pos (by omega), show 0 + (i - 0) = i by omega]
    rw [← c0] at y1 y2 y3 v0 hd
    simp only [g1, g2, pq_10, o1, o2, w2, if_false, false_implies, not_false_eq_true, true_implies, and_true, true_and]
    refine ⟨⟨y3, v0⟩, ?_, ?_⟩
    · obtain ⟨h, a, b, hx⟩ := hd
      show fv_X2_copyFrom 1 55 (fv_X3_remember 1 M) 1 0 = fv_X6_copies 3 0 1 0 (fv_X6_records N) 1 ((0 : Int32)).toNatClampNeg
      rw [pq_c0, hx.1.1, hx.2.1.1]
    · refine Rel_now hR1 (fun i => ?_) (fun i => ?_) hd
      · by_cases q : 1 ≤ i ∧ i < 28
        · exact Or.inl (Or.inr (Or.inl q))
        · exact Or.inr (w1.1 i (by omega))
      · by_cases q : i = 1
        · exact Or.inl q
        · exact Or.inr (Or.inr (Or.inr (Or.inr (y1 i q))))
