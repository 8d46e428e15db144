/-! ===== more of what is asked, counting, arrivals ===== -/
theorem in_ne {x : Int32} {h : Int32} {N : ps_M} {n : Nat} (e : fv_X6_in x 0 h N = 0) (hh : h = nI n) (hn : n < 3000) : ∀ t, t ≤ n → x ≠ nI t := by
  intro t ht ex
  subst ex; subst hh
  unfold fv_X6_in at e
  have g0 : ¬ nI t < 0 := nI_pos (by omega)
  have g1 : ¬ nI n < nI t := by rw [pq_lt, pq_nT (by omega), pq_nT (by omega)]; omega
  rw [if_neg g0, if_neg g1] at e
  exact absurd e (by decide)
theorem S_counts {P : Prop} {B : Int} {k s0 : Nat} {ad : Prop} {M : ps_M} {g r : Nat → Int32} (hp : ad) (h : pq_S P B k ad (M s0) g r) : (fv_X4_isCounted s0 M = 0 ∧ r 10 = -1) ∨ (fv_X4_isCounted s0 M = 1 ∧ ¬ (r 10 = -1) ∧ M s0 11 = r 10) := by
  obtain ⟨-, -, -, -, hc⟩ := h
  unfold fv_X4_isCounted
  rcases hc with ⟨c1, c2, -⟩ | ⟨-, c1, c2, c3⟩
  · refine Or.inl ⟨?_, c2 hp⟩
    rw [c1]; decide
  · refine Or.inr ⟨?_, ?_, c1⟩
    · rcases c3 with c3 | c3 | c3 <;> rw [c3] <;> decide
    · intro q; rw [q] at c2; exact absurd c2 (by decide)
theorem sim_papers : pl_sim_papers Rel := by
  intro M N a1 a2 hR
  obtain ⟨h, a, b, hx⟩ := hR.1
  obtain ⟨ok6, hsta⟩ := pq_sta hx a1
  unfold fv_X5_papers fv_X6_papers ok_X5_papers ok_X6_papers
  rcases hsta with ⟨e1, e2⟩ | ⟨s, hs, rfl, e1, e2⟩
  · simp only [e1, e2, ok6, ok_X2_hasStation, if_true, true_implies, not_true_eq_false, false_implies, and_true, true_and]
    exact hR
  · obtain ⟨hs6, hS⟩ := t_S hx hs
    have v1 : vp_in (nI s) 6 := pq_vin hs6 (by omega)
    have hc := S_counts hs hS
    obtain ⟨⟨f1, f2, f3, f4, f6, f7, f8, f9, f10, f12⟩, -, -, hst, -⟩ := hS
    have f5 := (hst.1 trivial).1
    have p5 : ∀ N, fv_X6_of (nI s) 5 N = pq_sv (N 1) s 5 := pq_of (j := 5) hs6 (by omega)
    have p6 : ∀ N, fv_X6_of (nI s) 6 N = pq_sv (N 1) s 6 := pq_of (j := 6) hs6 (by omega)
    have p8 : ∀ N, fv_X6_of (nI s) 8 N = pq_sv (N 1) s 8 := pq_of (j := 8) hs6 (by omega)
    have o5 : ∀ N, ok_X6_of (nI s) 5 N := pq_ofok (j := 5) hs6 (by omega)
    have o6 : ∀ N, ok_X6_of (nI s) 6 N := pq_ofok (j := 6) hs6 (by omega)
    have o8 : ∀ N, ok_X6_of (nI s) 8 N := pq_ofok (j := 8) hs6 (by omega)
    have z0 : (4 : Int32) + 0 = 4 := by decide
    have z1 : (4 : Int32) + 1 = 5 := by decide
    have z2 : (4 : Int32) + 2 = 6 := by decide
    have z3 : (4 : Int32) + 3 = 7 := by decide
    have z4 : (4 : Int32) + 4 = 8 := by decide
    have z5 : (4 : Int32) + 5 = 9 := by decide
    have z6 : (4 : Int32) + 6 = 10 := by decide
    rcases in_01 a2 0 8 N with e3 | e3
    · have hne := in_ne (n := 8) e3 (by decide) (by omega)
      have n0 : ¬ a2 = 0 := hne 0 (by omega)
      have n1 : ¬ a2 = 1 := hne 1 (by omega)
      have n2 : ¬ a2 = 2 := hne 2 (by omega)
      have n3 : ¬ a2 = 3 := hne 3 (by omega)
      have n4 : ¬ a2 = 4 := hne 4 (by omega)
      have n5 : ¬ a2 = 5 := hne 5 (by omega)
      have n6 : ¬ a2 = 6 := hne 6 (by omega)
      have n7 : ¬ a2 = 7 := hne 7 (by omega)
      have n8 : ¬ a2 = 8 := hne 8 (by omega)
      simp only [e1, e2, e3, ok6, ok_X2_hasStation, ok_X6_in, n0, n1, n2, n3, n4, n5, n6, n7, n8, v1, pq_10, if_true, if_false, true_implies, not_true_eq_false, not_false_eq_true, false_implies, and_true, true_and]
      exact hR
    · have hb := in_nat (n := 8) e3 (by decide) (by decide) (by omega)
      obtain ⟨t, ht, et⟩ := hb
      have ht : t = 0 ∨ t = 1 ∨ t = 2 ∨ t = 3 ∨ t = 4 ∨ t = 5 ∨ t = 6 ∨ t = 7 ∨ t = 8 := by omega
      have et : a2 = 0 ∨ a2 = 1 ∨ a2 = 2 ∨ a2 = 3 ∨ a2 = 4 ∨ a2 = 5 ∨ a2 = 6 ∨ a2 = 7 ∨ a2 = 8 := by
        rw [et]
        rcases ht with rfl | rfl | rfl | rfl | rfl | rfl | rfl | rfl | rfl <;> decide
      rcases hc with ⟨c1, c2⟩ | ⟨c1, c2, c3⟩ <;> rcases et with rfl | rfl | rfl | rfl | rfl | rfl | rfl | rfl | rfl <;> simp (config := {decide := true}) only [e1, e2, e3, ok6, ok_X2_hasStation, ok_X6_in, ok_X4_isCounted, fv_X6_papers_39, ok_X6_papers_39, fv_X6_papers_59, ok_X6_papers_59, v1, pq_nI (show s < 4000 by omega), c1, c2, f5, f6, f7, f8, f9, f10, f12, z0, z1, z2, z3, z4, z5, z6, p5, p6, p8, o5, o6, o8, pp_of hs6, pp_ofk hs6, if_true, if_false, true_implies, not_true_eq_false, not_false_eq_true, false_implies, and_true, true_and] <;> (try rw [c3]) <;> (first | exact hR | exact ⟨rfl, hR⟩)
theorem sim_station : pl_sim_station Rel := by
  intro M N a1 a2 hR
  obtain ⟨h, a, b, hx⟩ := hR.1
  obtain ⟨ok6, hsta⟩ := pq_sta hx a1
  unfold fv_X5_station fv_X6_station ok_X5_station ok_X6_station
  rcases hsta with ⟨e1, e2⟩ | ⟨s, hs, rfl, e1, e2⟩
  · simp only [e1, e2, ok6, ok_X2_hasStation, if_true, true_implies, not_true_eq_false, false_implies, and_true, true_and]
    exact hR
  · obtain ⟨hs6, hS⟩ := t_S hx hs
    have v1 : vp_in (nI s) 6 := pq_vin hs6 (by omega)
    obtain ⟨⟨f1, f2, f3, f4, f6, f7, f8, f9, f10, f12⟩, har, -, hst, -⟩ := hS
    have p1 : ∀ N, fv_X6_of (nI s) 1 N = pq_sv (N 1) s 1 := pq_of (j := 1) hs6 (by omega)
    have p2 : ∀ N, fv_X6_of (nI s) 2 N = pq_sv (N 1) s 2 := pq_of (j := 2) hs6 (by omega)
    have p3 : ∀ N, fv_X6_of (nI s) 3 N = pq_sv (N 1) s 3 := pq_of (j := 3) hs6 (by omega)
    have o1 : ∀ N, ok_X6_of (nI s) 1 N := pq_ofok (j := 1) hs6 (by omega)
    have o2 : ∀ N, ok_X6_of (nI s) 2 N := pq_ofok (j := 2) hs6 (by omega)
    have o3 : ∀ N, ok_X6_of (nI s) 3 N := pq_ofok (j := 3) hs6 (by omega)
    obtain ⟨g1, g2, g3⟩ := t_clerksAt hx hs6
    obtain ⟨g4, g5, g6⟩ := t_served hx hs6
    obtain ⟨g7, g8, g9⟩ := t_toServe hx hs
    obtain ⟨r1, r2⟩ := cl_arrivals (1 + 1 + 1 + 2 * s) M
    obtain ⟨r3, r4⟩ := mo_arrivals (N := N) hs6
    have r5 : fv_X4_allArrivals (1 + 1 + 1 + 2 * s) M = fv_X6_arrivalsAll (nI s) N := by
      rw [r1, r3]
      exact pq_sm_congr _ _ _ (fun i _ g => (har i (by omega)).1)
    by_cases n0 : a2 = 0
    · subst n0
      simp (config := {decide := true}) only [e1, e2, ok6, ok_X2_hasStation, v1, pq_nI (show s < 4000 by omega), f1, pp_of hs6, pp_ofk hs6, if_true, if_false, true_implies, not_true_eq_false, not_false_eq_true, false_implies, and_true, true_and]
      exact hR
    by_cases n1 : a2 = 1
    · subst n1
      simp (config := {decide := true}) only [e1, e2, ok6, ok_X2_hasStation, v1, pq_nI (show s < 4000 by omega), f2, p1, o1, if_true, if_false, true_implies, not_true_eq_false, not_false_eq_true, false_implies, and_true, true_and]
      exact hR
    by_cases n2 : a2 = 2
    · subst n2
      simp (config := {decide := true}) only [e1, e2, ok6, ok_X2_hasStation, v1, pq_nI (show s < 4000 by omega), f3, p2, o2, if_true, if_false, true_implies, not_true_eq_false, not_false_eq_true, false_implies, and_true, true_and]
      exact hR
    by_cases n3 : a2 = 3
    · subst n3
      simp (config := {decide := true}) only [e1, e2, ok6, ok_X2_hasStation, v1, pq_nI (show s < 4000 by omega), f4, p3, o3, if_true, if_false, true_implies, not_true_eq_false, not_false_eq_true, false_implies, and_true, true_and]
      exact hR
    by_cases n4 : a2 = 4
    · subst n4
      simp (config := {decide := true}) only [e1, e2, ok6, ok_X2_hasStation, v1, pq_nI (show s < 4000 by omega), g1, g2, g3, if_true, if_false, true_implies, not_true_eq_false, not_false_eq_true, false_implies, and_true, true_and]
      exact hR
    by_cases n5 : a2 = 5
    · subst n5
      simp (config := {decide := true}) only [e1, e2, ok6, ok_X2_hasStation, v1, pq_nI (show s < 4000 by omega), g4, g5, g6, if_true, if_false, true_implies, not_true_eq_false, not_false_eq_true, false_implies, and_true, true_and]
      exact hR
    by_cases n6 : a2 = 6
    · subst n6
      simp (config := {decide := true}) only [e1, e2, ok6, ok_X2_hasStation, v1, pq_nI (show s < 4000 by omega), r5, r2, r4, if_true, if_false, true_implies, not_true_eq_false, not_false_eq_true, false_implies, and_true, true_and]
      exact hR
    by_cases n7 : a2 = 7
    · subst n7
      simp (config := {decide := true}) only [e1, e2, ok6, ok_X2_hasStation, v1, pq_nI (show s < 4000 by omega), g7, g8, g9, if_true, if_false, true_implies, not_true_eq_false, not_false_eq_true, false_implies, and_true, true_and]
      exact hR
    simp (config := {decide := true}) only [e1, e2, ok6, ok_X2_hasStation, v1, n0, n1, n2, n3, n4, n5, n6, n7, pq_10, if_true, if_false, true_implies, not_true_eq_false, not_false_eq_true, false_implies, and_true, true_and]
    exact hR
theorem sim_clerk : pl_sim_clerk Rel := by
  intro M N a1 a2 hR
  obtain ⟨h, a, b, hx⟩ := hR.1
  obtain ⟨ok6, hsta⟩ := pq_cle hx a1
  have ha := hx.2.2.1.2.1
  unfold fv_X5_clerk fv_X6_clerk ok_X5_clerk ok_X6_clerk
  rcases hsta with ⟨e1, e2⟩ | ⟨s, hs, rfl, e1, e2⟩
  · simp only [e1, e2, ok6, ok_X2_hasClerk, if_true, true_implies, not_true_eq_false, false_implies, and_true, true_and]
    exact hR
  · obtain ⟨hs6, hK⟩ := t_K hx hs
    have v1 : vp_in (nI s) 12 := pq_vin hs6 (by omega)
    have hfr := K_free ha hs6 hK
    have hoff := K_off ha hK
    obtain ⟨⟨f0, f1, f3, f4, f5⟩, hd, -⟩ := hK
    have p0 : ∀ N, fv_X6_ofClerk (nI s) 0 N = pq_kv (N 1) s 0 := pq_ofK (j := 0) hs6 (by omega)
    have p1 : ∀ N, fv_X6_ofClerk (nI s) 1 N = pq_kv (N 1) s 1 := pq_ofK (j := 1) hs6 (by omega)
    have p2 : ∀ N, fv_X6_ofClerk (nI s) 2 N = pq_kv (N 1) s 2 := pq_ofK (j := 2) hs6 (by omega)
    have p3 : ∀ N, fv_X6_ofClerk (nI s) 3 N = pq_kv (N 1) s 3 := pq_ofK (j := 3) hs6 (by omega)
    have p4 : ∀ N, fv_X6_ofClerk (nI s) 4 N = pq_kv (N 1) s 4 := pq_ofK (j := 4) hs6 (by omega)
    have p5 : ∀ N, fv_X6_ofClerk (nI s) 5 N = pq_kv (N 1) s 5 := pq_ofK (j := 5) hs6 (by omega)
    have o0 : ∀ N, ok_X6_ofClerk (nI s) 0 N := pq_ofKok (j := 0) hs6 (by omega)
    have o1 : ∀ N, ok_X6_ofClerk (nI s) 1 N := pq_ofKok (j := 1) hs6 (by omega)
    have o2 : ∀ N, ok_X6_ofClerk (nI s) 2 N := pq_ofKok (j := 2) hs6 (by omega)
    have o3 : ∀ N, ok_X6_ofClerk (nI s) 3 N := pq_ofKok (j := 3) hs6 (by omega)
    have o4 : ∀ N, ok_X6_ofClerk (nI s) 4 N := pq_ofKok (j := 4) hs6 (by omega)
    have o5 : ∀ N, ok_X6_ofClerk (nI s) 5 N := pq_ofKok (j := 5) hs6 (by omega)
    obtain ⟨g1, g2, g3⟩ := t_place hx hs
    have of1 := ok_free (1 + 14 + 1 + s) M
    have of2 := ok_freeM hs6 N
    by_cases n0 : a2 = 0
    · subst n0
      simp (config := {decide := true}) only [e1, e2, ok6, ok_X2_hasClerk, v1, pq_nI (show s < 4000 by omega), f0, p0, o0, if_true, if_false, true_implies, not_true_eq_false, not_false_eq_true, false_implies, and_true, true_and]
      exact hR
    by_cases n1 : a2 = 1
    · subst n1
      simp (config := {decide := true}) only [e1, e2, ok6, ok_X2_hasClerk, v1, pq_nI (show s < 4000 by omega), f1, p1, o1, if_true, if_false, true_implies, not_true_eq_false, not_false_eq_true, false_implies, and_true, true_and]
      exact hR
    by_cases n2 : a2 = 2
    · subst n2
      simp (config := {decide := true}) only [e1, e2, ok6, ok_X2_hasClerk, v1, pq_nI (show s < 4000 by omega), p2, o2, if_true, if_false, true_implies, not_true_eq_false, not_false_eq_true, false_implies, and_true, true_and, implies_true]
      refine ⟨?_, hR⟩
      by_cases q : pq_kv (N 1) s 2 = -1
      · rw [if_pos q]; exact hoff.mpr q
      · rw [if_neg q]
        rcases hd with ⟨d1, -, -⟩ | ⟨-, s', -, d1, d2⟩
        · exact absurd (hoff.mp d1) q
        · rw [d1, d2]
    by_cases n3 : a2 = 3
    · subst n3
      simp (config := {decide := true}) only [e1, e2, ok6, ok_X2_hasClerk, v1, pq_nI (show s < 4000 by omega), f3, p3, o3, if_true, if_false, true_implies, not_true_eq_false, not_false_eq_true, false_implies, and_true, true_and]
      exact hR
    by_cases n4 : a2 = 4
    · subst n4
      simp (config := {decide := true}) only [e1, e2, ok6, ok_X2_hasClerk, v1, pq_nI (show s < 4000 by omega), f4, p4, o4, if_true, if_false, true_implies, not_true_eq_false, not_false_eq_true, false_implies, and_true, true_and]
      exact hR
    by_cases n5 : a2 = 5
    · subst n5
      have q1 : ((if pq_kv (N 1) s 5 ≤ 0 then (0 : Int32) else 1) = 0) = (pq_kv (N 1) s 5 ≤ 0) := by
        by_cases q : pq_kv (N 1) s 5 ≤ 0
        · rw [if_pos q]; exact propext ⟨fun _ => q, fun _ => rfl⟩
        · rw [if_neg q]; exact propext ⟨fun z => absurd z (by decide), fun z => absurd z q⟩
      simp (config := {decide := true}) only [e1, e2, ok6, ok_X2_hasClerk, ok_X1_rests, fv_X1_rests, v1, pq_nI (show s < 4000 by omega), f5, p5, o5, q1, if_true, if_false, true_implies, not_true_eq_false, not_false_eq_true, false_implies, and_true, true_and]
      exact hR
    by_cases n6 : a2 = 6
    · subst n6
      simp (config := {decide := true}) only [e1, e2, ok6, ok_X2_hasClerk, v1, pq_nI (show s < 4000 by omega), hfr.1, of1, of2, g1, g2, g3, if_true, if_false, true_implies, not_true_eq_false, not_false_eq_true, false_implies, and_true, true_and, implies_true]
      exact hR
    simp (config := {decide := true}) only [e1, e2, ok6, ok_X2_hasClerk, v1, n0, n1, n2, n3, n4, n5, n6, pq_10, if_true, if_false, true_implies, not_true_eq_false, not_false_eq_true, false_implies, and_true, true_and]
    exact hR
