/-! ===== more acts on papers ===== -/
theorem Rel_f {M N : ps_M} (hR : Rel M N) {s j : Nat} (hs : s < 6) (hj : j < 10) : M (1 + 1 + 1 + 2 * s) (j + 1) = pq_sv (N 1) s j := by
  obtain ⟨h, a, b, hx⟩ := hR.1
  exact DR_f hx hs hj
theorem Rel_adds {M N : ps_M} (hR : Rel M N) {s j : Nat} (hs : s < 6) (hj : j = 1 ∨ j = 2 ∨ j = 3 ∨ j = 5 ∨ j = 6 ∨ j = 7 ∨ j = 8 ∨ j = 9) (v : Int32) : Rel (ps_st M (1 + 1 + 1 + 2 * s) (j + 1) (M (1 + 1 + 1 + 2 * s) (j + 1) + v)) (fv_X6_adds (nI s) (nI j) v N) := by
  obtain ⟨h, a, b, hx⟩ := hR.1
  rw [pq_adds hs (by omega), Rel_f hR hs (by omega)]
  exact Rel_day hR (fun i hi => ps_st_ne (by omega)) (fun i hi => ps_st_ne hi) (DR_set hx hs hj _)
theorem Rel_subs {M N : ps_M} (hR : Rel M N) {s j : Nat} (hs : s < 6) (hj : j = 1 ∨ j = 2 ∨ j = 3 ∨ j = 5 ∨ j = 6 ∨ j = 7 ∨ j = 8 ∨ j = 9) (v : Int32) : Rel (ps_st M (1 + 1 + 1 + 2 * s) (j + 1) (M (1 + 1 + 1 + 2 * s) (j + 1) - v)) (fv_X6_adds (nI s) (nI j) (-v) N) := by
  rw [Int32.sub_eq_add_neg]
  exact Rel_adds hR hs hj (-v)
theorem Rel_stka {M N : ps_M} (hR : Rel M N) {s : Nat} (hs : s < 6) {v : Int32} (h1 : 0 ≤ (pq_sv (N 1) s 4 + v).toInt) (h2 : (pq_sv (N 1) s 4 + v).toInt ≤ 9999) : Rel (ps_st M (1 + 1 + 1 + 2 * s) 5 (M (1 + 1 + 1 + 2 * s) 5 + v)) (fv_X6_adds (nI s) 4 v N) := by
  obtain ⟨h, a, b, hx⟩ := hR.1
  have e := pq_adds (s := s) (j := 4) hs (by omega) v N
  have e' := Rel_f hR (s := s) (j := 4) hs (by omega)
  have g := DR_stock hx hs h1 h2
  rw [show fv_X6_adds (nI s) 4 v N = _ from e, show M (1 + 1 + 1 + 2 * s) 5 = _ from e']
  exact Rel_day hR (fun i hi => ps_st_ne (by omega)) (fun i hi => ps_st_ne hi) g
theorem Rel_stks {M N : ps_M} (hR : Rel M N) {s : Nat} (hs : s < 6) {v : Int32} (h1 : 0 ≤ (pq_sv (N 1) s 4 - v).toInt) (h2 : (pq_sv (N 1) s 4 - v).toInt ≤ 9999) : Rel (ps_st M (1 + 1 + 1 + 2 * s) 5 (M (1 + 1 + 1 + 2 * s) 5 - v)) (fv_X6_adds (nI s) 4 (-v) N) := by
  rw [Int32.sub_eq_add_neg] at h1 h2 ⊢
  exact Rel_stka hR hs h1 h2
theorem Rel_st {M N : ps_M} (hR : Rel M N) {s : Nat} (hs : s < 6) : 0 ≤ (pq_sv (N 1) s 4).toInt ∧ (pq_sv (N 1) s 4).toInt ≤ 9999 := by
  obtain ⟨h, a, b, hx⟩ := hR.1
  exact DR_st hx hs
theorem pp_of {s : Nat} (hs : s < 6) : (∀ N, fv_X6_of (nI s) 0 N = pq_sv (N 1) s 0) ∧ (∀ N, fv_X6_of (nI s) 4 N = pq_sv (N 1) s 4) ∧ (∀ N, fv_X6_of (nI s) 7 N = pq_sv (N 1) s 7) ∧ (∀ N, fv_X6_of (nI s) 9 N = pq_sv (N 1) s 9) ∧ (∀ N, fv_X6_of (nI s) 10 N = pq_sv (N 1) s 10) ∧ (∀ N, fv_X6_of (nI s) 11 N = pq_sv (N 1) s 11) :=
  ⟨pq_of (j := 0) hs (by omega), pq_of (j := 4) hs (by omega), pq_of (j := 7) hs (by omega), pq_of (j := 9) hs (by omega), pq_of (j := 10) hs (by omega), pq_of (j := 11) hs (by omega)⟩
theorem pp_ofk {s : Nat} (hs : s < 6) : (∀ N, ok_X6_of (nI s) 0 N) ∧ (∀ N, ok_X6_of (nI s) 4 N) ∧ (∀ N, ok_X6_of (nI s) 7 N) ∧ (∀ N, ok_X6_of (nI s) 9 N) ∧ (∀ N, ok_X6_of (nI s) 10 N) ∧ (∀ N, ok_X6_of (nI s) 11 N) :=
  ⟨pq_ofok (j := 0) hs (by omega), pq_ofok (j := 4) hs (by omega), pq_ofok (j := 7) hs (by omega), pq_ofok (j := 9) hs (by omega), pq_ofok (j := 10) hs (by omega), pq_ofok (j := 11) hs (by omega)⟩
theorem pp_adk {s : Nat} (hs : s < 6) : (∀ v N, ok_X6_adds (nI s) 4 v N) ∧ (∀ v N, ok_X6_adds (nI s) 5 v N) ∧ (∀ v N, ok_X6_adds (nI s) 6 v N) ∧ (∀ v N, ok_X6_adds (nI s) 7 v N) ∧ (∀ v N, ok_X6_adds (nI s) 8 v N) ∧ (∀ v N, ok_X6_adds (nI s) 9 v N) ∧ (∀ v N, ok_X6_adds (nI s) 10 v N) ∧ (∀ v N, ok_X6_adds (nI s) 11 v N) :=
  ⟨pq_addsok (j := 4) hs (by omega), pq_addsok (j := 5) hs (by omega), pq_addsok (j := 6) hs (by omega), pq_addsok (j := 7) hs (by omega), pq_addsok (j := 8) hs (by omega), pq_addsok (j := 9) hs (by omega), pq_addsok (j := 10) hs (by omega), pq_addsok (j := 11) hs (by omega)⟩
theorem pp_1 : ((1 : Int32)).toInt = 1 := by decide
theorem pp_9999 : ((9999 : Int32)).toInt = 9999 := by decide
theorem sim_carryOff : pl_sim_carryOff Rel := by
  intro M N a1 a2 hR
  obtain ⟨h, a, b, hx⟩ := hR.1
  obtain ⟨ok6, hsta⟩ := pq_sta hx a1
  obtain ⟨hR1, fM, -, fN, -, -, o1, o2⟩ := Rel_rec hR
  unfold fv_X5_carryOff fv_X6_carryOff ok_X5_carryOff ok_X6_carryOff
  rw [pn_in a2 M N]
  rcases hsta with ⟨e1, e2⟩ | ⟨s, hs, rfl, e1, e2⟩
  · simp only [e1, e2, ok6, ok_X2_hasStation, if_true, true_implies, not_true_eq_false, false_implies, and_true, true_and]
    exact hR
  · have ha := hx.2.2.1.2.1
    have hs6 : s < 6 := by omega
    rcases in_01 a2 1 9999 N with e3 | e3
    · simp only [e1, e2, e3, ok6, ok_X2_hasStation, ok_X6_in, pn_ok, pq_10, if_true, if_false, true_implies, not_true_eq_false, not_false_eq_true, false_implies, and_true, true_and]
      exact hR
    · have e4 : M (1 + 1 + 1 + 2 * s) 10 = pq_sv (N 1) s 9 := DR_f hx hs6 (j := 9) (by omega)
      have v1 : vp_in (nI s) 6 := pq_vin hs6 (by omega)
      simp only [e1, e2, e3, ok6, ok_X2_hasStation, ok_X6_in, pn_ok, pq_10, pq_nI (show s < 4000 by omega), e4, pp_of hs6, pp_ofk hs6, pp_adk hs6, ok_X5_carryOff_65, fv_X5_carryOff_65, v1, o1, o2, if_true, if_false, true_implies, not_true_eq_false, not_false_eq_true, false_implies, and_true, true_and, implies_true]
      by_cases q : a2 ≤ pq_sv (N 1) s 9
      · rw [if_pos q, if_pos q]
        have r1 := Rel_subs hR1 hs6 (j := 9) (by omega) a2
        have r2 := Rel_adds r1 hs6 (j := 7) (by omega) a2
        exact ⟨Rel_f r2 hs6 (j := 9) (by omega), r2⟩
      · rw [if_neg q, if_neg q]
        exact ⟨rfl, hR⟩
theorem sim_find : pl_sim_find Rel := by
  intro M N a1 a2 hR
  obtain ⟨h, a, b, hx⟩ := hR.1
  obtain ⟨ok6, hsta⟩ := pq_sta hx a1
  obtain ⟨hR1, fM, -, fN, -, -, o1, o2⟩ := Rel_rec hR
  unfold fv_X5_find fv_X6_find ok_X5_find ok_X6_find
  rw [pn_in a2 M N]
  rcases hsta with ⟨e1, e2⟩ | ⟨s, hs, rfl, e1, e2⟩
  · simp only [e1, e2, ok6, ok_X2_hasStation, if_true, true_implies, not_true_eq_false, false_implies, and_true, true_and]
    exact hR
  · have ha := hx.2.2.1.2.1
    have hs6 : s < 6 := by omega
    rcases in_01 a2 1 9999 N with e3 | e3
    · simp only [e1, e2, e3, ok6, ok_X2_hasStation, ok_X6_in, pn_ok, pq_10, if_true, if_false, true_implies, not_true_eq_false, not_false_eq_true, false_implies, and_true, true_and]
      exact hR
    · have e4 : M (1 + 1 + 1 + 2 * s) 8 = pq_sv (N 1) s 7 := DR_f hx hs6 (j := 7) (by omega)
      have v1 : vp_in (nI s) 6 := pq_vin hs6 (by omega)
      simp only [e1, e2, e3, ok6, ok_X2_hasStation, ok_X6_in, pn_ok, pq_10, pq_nI (show s < 4000 by omega), e4, pp_of hs6, pp_ofk hs6, pp_adk hs6, ok_X5_find_75, fv_X5_find_75, v1, o1, o2, if_true, if_false, true_implies, not_true_eq_false, not_false_eq_true, false_implies, and_true, true_and, implies_true]
      by_cases q : a2 ≤ pq_sv (N 1) s 7
      · rw [if_pos q, if_pos q]
        have r1 := Rel_subs hR1 hs6 (j := 7) (by omega) a2
        have r2 := Rel_adds r1 hs6 (j := 8) (by omega) a2
        exact ⟨Rel_f r2 hs6 (j := 7) (by omega), r2⟩
      · rw [if_neg q, if_neg q]
        exact ⟨rfl, hR⟩
theorem sim_spoil : pl_sim_spoil Rel := by
  intro M N a1 a2 hR
  obtain ⟨h, a, b, hx⟩ := hR.1
  obtain ⟨ok6, hsta⟩ := pq_sta hx a1
  obtain ⟨hR1, fM, -, fN, -, -, o1, o2⟩ := Rel_rec hR
  unfold fv_X5_spoil fv_X6_spoil ok_X5_spoil ok_X6_spoil
  rw [pn_in a2 M N]
  rcases hsta with ⟨e1, e2⟩ | ⟨s, hs, rfl, e1, e2⟩
  · simp only [e1, e2, ok6, ok_X2_hasStation, if_true, true_implies, not_true_eq_false, false_implies, and_true, true_and]
    exact hR
  · have ha := hx.2.2.1.2.1
    have hs6 : s < 6 := by omega
    rcases in_01 a2 1 9999 N with e3 | e3
    · simp only [e1, e2, e3, ok6, ok_X2_hasStation, ok_X6_in, pn_ok, pq_10, if_true, if_false, true_implies, not_true_eq_false, not_false_eq_true, false_implies, and_true, true_and]
      exact hR
    · have hb := in_b e3
      have e4 : M (1 + 1 + 1 + 2 * s) 5 = pq_sv (N 1) s 4 := DR_f hx hs6 (j := 4) (by omega)
      have e5 : M (1 + 1 + 1 + 2 * s) 10 = pq_sv (N 1) s 9 := DR_f hx hs6 (j := 9) (by omega)
      have v1 : vp_in (nI s) 6 := pq_vin hs6 (by omega)
      simp only [e1, e2, e3, ok6, ok_X2_hasStation, ok_X6_in, pn_ok, pq_10, pq_nI (show s < 4000 by omega), e4, e5, pp_of hs6, pp_ofk hs6, pp_adk hs6, ok_X5_spoil_83, fv_X5_spoil_83, v1, o1, o2, if_true, if_false, true_implies, not_true_eq_false, not_false_eq_true, false_implies, and_true, true_and, implies_true]
      by_cases q1 : pq_sv (N 1) s 9 < a2
      · rw [if_pos q1, if_pos q1]
        exact ⟨rfl, hR⟩
      · rw [if_neg q1, if_neg q1]
        by_cases q : a2 ≤ pq_sv (N 1) s 4
        · rw [if_pos q, if_pos q]
          have r1 := Rel_adds hR1 hs6 (j := 6) (by omega) a2
          have r2 := Rel_adds r1 hs6 (j := 5) (by omega) a2
          have hst := Rel_st hR hs6
          have g1 := pp_1
          have g2 := pp_9999
          rw [pq_le] at q
          have e6 : pq_sv ((fv_X6_adds (nI s) (nI 5) a2 (fv_X6_adds (nI s) (nI 6) a2 (fv_X6_records N))) 1) s 4 = pq_sv (N 1) s 4 := by
            rw [pq_adds hs6 (by omega), pq_svset (by omega), if_neg (by omega), pq_adds hs6 (by omega), pq_svset (by omega), if_neg (by omega), fN]
          have es : (pq_sv (N 1) s 4 - a2).toInt = (pq_sv (N 1) s 4).toInt - a2.toInt := pq_sub (by omega) (by omega)
          have r3 := Rel_stks r2 hs6 (v := a2) (by rw [e6, es]; omega) (by rw [e6, es]; omega)
          exact ⟨Rel_f r3 hs6 (j := 4) (by omega), r3⟩
        · rw [if_neg q, if_neg q]
          exact ⟨rfl, hR⟩
theorem sim_movePapers : pl_sim_movePapers Rel := by
  intro M N a1 a2 a3 hR
  obtain ⟨h, a, b, hx⟩ := hR.1
  obtain ⟨ok6, hsta⟩ := pq_sta hx a1
  obtain ⟨ok7, hstb⟩ := pq_sta hx a2
  obtain ⟨hR1, fM, -, fN, -, -, o1, o2⟩ := Rel_rec hR
  unfold fv_X5_movePapers fv_X6_movePapers ok_X5_movePapers ok_X6_movePapers
  rw [pn_in a3 M N]
  rcases hsta with ⟨e1, e2⟩ | ⟨s, hs, rfl, e1, e2⟩
  · simp only [e1, e2, ok6, ok_X2_hasStation, if_true, true_implies, not_true_eq_false, false_implies, and_true, true_and]
    exact hR
  rcases hstb with ⟨f1, f2⟩ | ⟨t, ht, rfl, f1, f2⟩
  · simp only [e1, e2, f1, f2, ok6, ok7, ok_X2_hasStation, pq_10, if_true, if_false, true_implies, not_true_eq_false, not_false_eq_true, false_implies, and_true, true_and]
    exact hR
  have ha := hx.2.2.1.2.1
  have hs6 : s < 6 := by omega
  have ht6 : t < 6 := by omega
  rcases in_01 a3 1 9999 N with e3 | e3
  · simp only [e1, e2, e3, f1, f2, ok6, ok7, ok_X2_hasStation, ok_X6_in, pn_ok, pq_10, if_true, if_false, true_implies, not_true_eq_false, not_false_eq_true, false_implies, and_true, true_and]
    exact hR
  have hb := in_b e3
  have e4 : M (1 + 1 + 1 + 2 * s) 5 = pq_sv (N 1) s 4 := DR_f hx hs6 (j := 4) (by omega)
  have e5 : M (1 + 1 + 1 + 2 * t) 5 = pq_sv (N 1) t 4 := DR_f hx ht6 (j := 4) (by omega)
  have v1 : vp_in (nI s) 6 := pq_vin hs6 (by omega)
  have v2 : vp_in (nI t) 6 := pq_vin ht6 (by omega)
  simp only [e1, e2, e3, f1, f2, ok6, ok7, ok_X2_hasStation, ok_X6_in, pn_ok, pq_10, pq_nI (show s < 4000 by omega), pq_nI (show t < 4000 by omega), e4, e5, pp_of hs6, pp_ofk hs6, pp_adk hs6, pp_of ht6, pp_ofk ht6, pp_adk ht6, ok_X5_movePapers_122, fv_X5_movePapers_122, v1, v2, o1, o2, if_true, if_false, true_implies, not_true_eq_false, not_false_eq_true, false_implies, and_true, true_and, implies_true]
  by_cases q0 : nI s = nI t
  · rw [if_pos q0, if_pos q0]
    exact ⟨rfl, hR⟩
  rw [if_neg q0, if_neg q0]
  by_cases q : a3 ≤ pq_sv (N 1) s 4
  · rw [if_pos q, if_pos q]
    by_cases q2 : pq_sv (N 1) t 4 + a3 ≤ 9999
    · rw [if_pos q2, if_pos q2]
      have hst := Rel_st hR hs6
      have htt := Rel_st hR ht6
      have g1 := pp_1
      have g2 := pp_9999
      have hst' : t ≠ s := fun e => q0 (by rw [e])
      have es : (pq_sv (N 1) s 4 - a3).toInt = (pq_sv (N 1) s 4).toInt - a3.toInt := pq_sub (by omega) (by omega)
      have et : (pq_sv (N 1) t 4 + a3).toInt = (pq_sv (N 1) t 4).toInt + a3.toInt := pq_add (by omega) (by omega)
      rw [pq_le] at q q2
      have r1 := Rel_stks hR1 hs6 (v := a3) (by rw [fN, es]; omega) (by rw [fN, es]; omega)
      have e6 : pq_sv ((fv_X6_adds (nI s) (nI 4) (-a3) (fv_X6_records N)) 1) t 4 = pq_sv (N 1) t 4 := by
        rw [pq_adds hs6 (by omega), pq_svset (by omega), if_neg (by omega), fN]
      have e7 : pq_sv ((fv_X6_adds (nI s) 4 (-a3) (fv_X6_records N)) 1) t 4 = pq_sv (N 1) t 4 := e6
      have r2 := Rel_stka r1 ht6 (v := a3) (by rw [e7, et]; omega) (by rw [e7]; omega)
      exact ⟨Rel_f r2 hs6 (j := 4) (by omega), r2⟩
    · rw [if_neg q2, if_neg q2]
      exact ⟨rfl, hR⟩
  · rw [if_neg q, if_neg q]
    exact ⟨rfl, hR⟩
