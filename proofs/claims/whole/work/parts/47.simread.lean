theorem pq_le15 {t K : Nat} (ht : t ≤ 30) (hK : K ≤ 30) : (nI t + nI K ≤ (15 : Int32)) = (t + K ≤ 15) := by
  rw [nI_add, show (15 : Int32) = nI 15 from rfl, pq_le, pq_nT (by omega), pq_nT (by omega)]
  apply propext; omega
theorem sim_readArrivals : pl_sim_readArrivals Rel := by
  intro M N a1 a2 hR
  obtain ⟨h, a, b, hx⟩ := hR.1
  obtain ⟨n, t1, t2, t3, t4⟩ := hR.2.2.2
  obtain ⟨ok6, hsta⟩ := pq_sta hx a1
  have v2 : vp_in (0 : Int32) 237 := pq_vin (n := 0) (by omega) (by omega)
  have o3 : ok_X5_isHourToCome a2 M := ⟨fun _ => trivial, fun _ => ⟨trivial, trivial⟩⟩
  unfold fv_X5_readArrivals fv_X6_readArrivals ok_X5_readArrivals ok_X6_readArrivals
  rw [hour_in hx a2, pq_c0]
  rcases hsta with ⟨e1, e2⟩ | ⟨s, hs, rfl, e1, e2⟩
  · simp only [e1, e2, ok6, ok_X2_hasStation, if_true, true_implies, not_true_eq_false, false_implies, and_true, true_and]
    exact hR
  obtain ⟨hs6, hS⟩ := t_S hx hs
  rcases in_01 a2 (N 1 0) 14 N with e3 | e3
  · simp only [e1, e2, e3, o3, v2, ok6, ok_X2_hasStation, ok_X6_in, pq_10, if_true, if_false, true_implies, not_true_eq_false, not_false_eq_true, false_implies, and_true, true_and]
    exact hR
  obtain ⟨t, ht, et⟩ := in_nat (n := 14) e3 (by rw [hx.2.1.1, pq_nT (by have := hx.2.2.1.1; omega)]; omega) (by decide) (by omega)
  subst et
  have htx : TX M (ps_st N 0 9 0) n := ⟨t1, t2, by rw [pq_stne (Or.inr (by omega))]; exact t3, fun i hi => by rw [ps_st_ne (by omega)]; exact t4 i hi⟩
  obtain ⟨⟨r1, r2, r3, r4⟩, r5, r6⟩ := (parse_all t2 n 0 (by omega)).1 0 (ps_st N 0 9 0) htx pq_stself (by omega) ps_FU ps_FU (by unfold ps_FU; omega) (by unfold ps_FU; omega)
  have r5 : ok_X0_fault M := r5
  have r6 : ok_X6_faultOf N := r6
  have r1 : ∀ i, i ≠ 0 → i ≠ 6 → (fv_X6_faultOf N).2 i = N i := fun i i1 i2 => (r1 i i1 i2).trans (ps_st_ne i1)
  have r2 : ∀ j, j ≠ 9 → (fv_X6_faultOf N).2 0 j = N 0 j := fun j hj => (r2 j hj).trans (pq_stne (Or.inr hj))
  have hN' : ∀ i, i = 1 ∨ i = 4 ∨ i = 6 ∨ (i = 0 ∧ ∀ j, j ≠ 9 → (fv_X6_faultOf N).2 0 j = N 0 j) ∨ (fv_X6_faultOf N).2 i = N i := fun i => by
    by_cases q : i = 0
    · exact Or.inr (Or.inr (Or.inr (Or.inl ⟨q, r2⟩)))
    · by_cases q6 : i = 6
      · exact Or.inr (Or.inr (Or.inl q6))
      · exact Or.inr (Or.inr (Or.inr (Or.inr (r1 i q q6))))
  have hN1 : (fv_X6_faultOf N).2 1 = N 1 := r1 1 (by omega) (by omega)
  rcases r4 with ⟨q, hq, f1, f2⟩ | ⟨f1, f2, K, k1, k2, k3, k4, k5⟩
  · have f1 : fv_X0_fault M = nI q := f1
    have f2 : (fv_X6_faultOf N).1 = nI q := f2
    have n1 : (nI q = (-1 : Int32)) = False := eq_false (fun z => pq_ne1 (s := q) (by omega) z.symm)
    have n5 : (nI q = (-5 : Int32)) = False := eq_false (fun z => pq_ne5 (s := q) (by omega) z.symm)
    have hRf : Rel M (fv_X6_faultOf N).2 := Rel_now hR (fun i => Or.inr rfl) hN' (by rw [hN1]; exact hR.1)
    simp only [e1, e2, e3, f1, f2, n1, n5, o3, v2, r5, r6, ok6, ok_X2_hasStation, ok_X6_in, pq_10, if_true, if_false, true_implies, not_true_eq_false, not_false_eq_true, false_implies, and_true, true_and]
    exact hRf
  · have f1 : fv_X0_fault M = -1 := f1
    have f2 : (fv_X6_faultOf N).1 = -5 := f2
    have k3 : (fv_X6_faultOf N).2 0 9 = nI K := k3
    have k4 : ∀ j, 0 ≤ j → j < K → 0 ≤ ((fv_X6_faultOf N).2 6 j).toInt ∧ ((fv_X6_faultOf N).2 6 j).toInt ≤ 999 := k4
    obtain ⟨d1, d2, d3, d4⟩ := k5 ps_FU (ps_st M 196 0 0) (by unfold ps_FU; omega) (fun i hi => ps_st_ne hi) pq_stself (fun j hj => absurd hj (by omega))
    have d1 : (fv_X0_readNumbers M).1 = nI K := d1
    have d2 : ∀ i, i ≠ 196 → (fv_X0_readNumbers M).2 i = M i := d2
    have d3 : ∀ j, j < K → (fv_X0_readNumbers M).2 196 j = (fv_X6_faultOf N).2 6 j := d3
    have w30 : vp_in (0 : Int32) 30 := pq_vin (n := 0) (by omega) (by omega)
    have d4 : ok_X0_readNumbers M := ⟨w30, d4⟩
    obtain ⟨g1, g2⟩ := gr_loop (M := (fv_X0_readNumbers M).2) k2 K 0 ps_FU 0 (by omega) (pq_fu (by omega))
    have g1 : fv_X0_greatestNumber (nI K) (fv_X0_readNumbers M).2 ≤ 500 ↔ ((0 : Int32) ≤ 500 ∧ ∀ j, 0 ≤ j → j < K → (fv_X0_readNumbers M).2 196 j ≤ 500) := g1
    have g2 : ok_X0_greatestNumber (nI K) (fv_X0_readNumbers M).2 := g2
    have gall : (fv_X0_greatestNumber (nI K) (fv_X0_readNumbers M).2 ≤ 500) ↔ (∀ j, 0 ≤ j → j < K → (fv_X6_faultOf N).2 6 j ≤ 500) := by
      rw [g1]
      exact ⟨fun z j j1 j2 => by rw [← d3 j j2]; exact z.2 j j1 j2, fun z => ⟨by decide, fun j j1 j2 => by rw [d3 j j2]; exact z j j1 j2⟩⟩
    have hRf : Rel (fv_X0_readNumbers M).2 (fv_X6_faultOf N).2 := Rel_now hR (fun i => by
      by_cases q : i = 196
      · exact Or.inl (Or.inr (Or.inr (Or.inr q)))
      · exact Or.inr (d2 i q)) hN' (by rw [hN1]; exact DE_frame hR.1 (fun k k1 k2 => d2 k (by omega)) (fun _ _ => rfl))
    have hxf : DR (fv_X0_readNumbers M).2 1 ((fv_X6_faultOf N).2 1) h a b := by rw [hN1]; exact DX_frame hx (fun k k1 k2 => d2 k (by omega)) (fun _ _ => rfl)
    obtain ⟨hR1, fM, fM2, fN, fN6, fN9, o1, o2⟩ := Rel_rec hRf
    have hx1 := DR_rec hRf hxf
    obtain ⟨p1, p2, p3⟩ := l47 (s := s) (t := t) k2 k3 K 0 ps_FU (by omega) (pq_fu (by omega))
    have hle := pq_le15 (t := t) (K := K) (by omega) k2
    simp only [hle] at p1 p3
    have v1 : vp_in (nI s) 6 := pq_vin hs6 (by omega)
    have n0 : (¬ (0 : Int32) < 0) = True := by decide
    have nt : (¬ nI t < 0) = True := eq_true (nI_pos (by omega))
    have nK : (¬ nI K < 0) = True := eq_true (nI_pos (by omega))
    by_cases qa : ∀ j, 0 ≤ j → j < K → (fv_X6_faultOf N).2 6 j ≤ 500
    · have qg := gall.mpr qa
      have p1 := p1 qa
      by_cases q15 : t + K ≤ 15
      · rw [if_pos q15] at p1
        obtain ⟨y1, y2, y3, y4, y5⟩ := l99 (N1 := fv_X6_records (fv_X6_faultOf N).2) (w := (fv_X6_faultOf N).2 6) hs6 q15 (by rw [fN9]; exact k3) (fun j hj => by rw [fN6]) K 0 ps_FU (fv_X6_records (fv_X6_faultOf N).2) (by omega) (pq_fu (by omega)) (fun _ _ => rfl) (fun _ _ => rfl) (fun j => by rw [if_neg (by omega)])
        have p3 := p3 (fun _ _ => ⟨o2, y5⟩)
        have hS1 := (t_S hx1 hs).2
        have hd : DR (ps_cpy (fv_X3_remember 1 (fv_X0_readNumbers M).2) 196 0 (1 + 1 + 1 + 2 * s + 1) t K) 1 ((fv_X6_readArrivals_99 ps_FU (nI s) (nI t) (nI 0) (fv_X6_records (fv_X6_faultOf N).2)).2 1) h a b := by
          refine DX_st (S := fun s => pq_S True (pq_B h) (15 - h) (s < a)) hx1 hs6 (fun k k1 k2 => ps_cpy_ne k2) (fun i hi => y3 i hi) (fun s' _ _ f g r hz => hz) ?_
          rw [ps_cpy_ne (by omega), ps_cpy_self]
          refine S_arrs (w := (fv_X6_faultOf N).2 6) q15 (hx1.2.2.2.1 s hs6) (fun τ => ?_) y4 (fun j hj => ?_)
          · unfold va_cpy
            by_cases z : t ≤ τ ∧ τ < t + K
            · rw [if_pos z, if_pos z, fM2 196 (by omega)]
              exact d3 _ (by omega)
            · rw [if_neg z, if_neg z]
          · have := k4 j (by omega) hj
            have q5 := qa j (by omega) hj
            rw [pq_le] at q5
            exact ⟨this.1, q5⟩
        have hRd := Rel_day (M' := ps_cpy (fv_X3_remember 1 (fv_X0_readNumbers M).2) 196 0 (1 + 1 + 1 + 2 * s + 1) t K) hR1 (fun i hi => ps_cpy_ne (by omega)) (fun i hi => y2 i hi) hd
        simp only [e1, e2, e3, f1, f2, d1, d4, g2, qg, hle, q15, o1, o3, v1, v2, r5, r6, n0, nt, nK, ok6, ok_X2_hasStation, ok_X6_in, ok_X5_readArrivals_118, fv_X5_readArrivals_118, pq_c0, pq_nI (show s < 4000 by omega), pq_nI (show t < 4000 by omega), pq_nI (show K < 4000 by omega), pq_10, if_true, if_false, true_implies, not_true_eq_false, not_false_eq_true, false_implies, and_true, true_and]
        rw [show (0 : Int32) = nI 0 from rfl, p1]
        exact ⟨by omega, p3, y1.symm, hRd⟩
      · rw [if_neg q15] at p1
        have p3 := p3 (fun z => absurd z q15)
        simp only [e1, e2, e3, f1, f2, d1, d4, g2, qg, hle, q15, o3, v2, r5, r6, ok6, ok_X2_hasStation, ok_X6_in, pq_10, if_true, if_false, true_implies, not_true_eq_false, not_false_eq_true, false_implies, and_true, true_and]
        rw [show (0 : Int32) = nI 0 from rfl, p1]
        exact ⟨p3, rfl, hRf⟩
    · have qg : ¬ (fv_X0_greatestNumber (nI K) (fv_X0_readNumbers M).2 ≤ 500) := fun z => qa (gall.mp z)
      have p2 := p2 qa
      have p3 := p3 (fun _ z => absurd z qa)
      simp only [e1, e2, e3, f1, f2, d1, d4, g2, qg, o3, v2, r5, r6, ok6, ok_X2_hasStation, ok_X6_in, pq_10, if_true, if_false, true_implies, not_true_eq_false, not_false_eq_true, false_implies, and_true, true_and]
      rw [show (0 : Int32) = nI 0 from rfl, p2]
      exact ⟨p3, rfl, hRf⟩
