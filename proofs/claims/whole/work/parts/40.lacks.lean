/-! ===== what a station lacks ===== -/
theorem S_big {h : Nat} {ad P : Prop} {f g r : Nat → Int32} (hP : ¬ P) (hh : h ≤ 18) (hS : pq_S True (pq_B h) (15 - h) ad f g r) : pq_S P (pq_B h) (15 - h) ad (upd f 5 7500) g (upd r 4 (r 4 + 1000000)) := by
  obtain ⟨⟨e1, e2, e3, e4, e6, e7, e8, e9, e10, e12⟩, har, hq, hst, hc⟩ := hS
  obtain ⟨p1, p2, p3⟩ := hst.1 trivial
  have hsf := pq_sf_pos har (15 - h) (by omega)
  have g1 : ((1000000 : Int32)).toInt = 1000000 := by decide
  have g2 : ((7500 : Int32)).toInt = 7500 := by decide
  have es : (r 4 + 1000000).toInt = (r 4).toInt + 1000000 := by rw [pq_add (by omega) (by omega), g1]
  have u : ∀ j, j ≠ 4 → upd r 4 (r 4 + 1000000) j = r j := fun j hj => by rw [upd, if_neg hj]
  have v : ∀ j, j ≠ 5 → upd f 5 7500 j = f j := fun j hj => by rw [upd, if_neg hj]
  have u4 : upd r 4 (r 4 + 1000000) 4 = r 4 + 1000000 := by rw [upd, if_pos rfl]
  have v5 : upd f 5 7500 5 = 7500 := by rw [upd, if_pos rfl]
  have hB : pq_B h + 500 * ((15 - h : Nat) : Int) ≤ 7500 := by unfold pq_B; omega
  refine ⟨?_, fun t ht => ?_, ?_, ⟨fun p => absurd p hP, fun _ => ?_⟩, ?_⟩
  · rw [u 0 (by omega), u 1 (by omega), u 2 (by omega), u 3 (by omega), u 5 (by omega), u 6 (by omega), u 7 (by omega), u 8 (by omega), u 9 (by omega), u 11 (by omega), v 1 (by omega), v 2 (by omega), v 3 (by omega), v 4 (by omega), v 6 (by omega), v 7 (by omega), v 8 (by omega), v 9 (by omega), v 10 (by omega), v 12 (by omega)]
    exact ⟨e1, e2, e3, e4, e6, e7, e8, e9, e10, e12⟩
  · rw [u (12 + t) (by omega)]; exact har t ht
  · rw [u 0 (by omega)]; exact hq
  · rw [pq_sf_upd (by omega) _ (by omega), u 0 (by omega), u4, v5, es, g2]
    omega
  · rw [u 10 (by omega), v 11 (by omega), v 12 (by omega)]; exact hc
theorem pq_18 {h : Nat} (hh : h ≤ 18) : (18 : Int32) - nI h = nI (18 - h) := by
  rw [pq_eq, show (18 : Int32) = nI 18 from rfl, pq_sub (by rw [pq_nT (by omega), pq_nT (by omega)]; omega) (by rw [pq_nT (by omega), pq_nT (by omega)]; omega), pq_nT (by omega), pq_nT (by omega), pq_nT (by omega)]
  omega
theorem pq_max0 (x : Int32) : (if (0 : Int32) < x then x else 0) = (if (0 : Int32) ≤ x then x else 0) := by
  by_cases q : (0 : Int32) < x
  · rw [if_pos q, if_pos (by rw [pq_lt] at q; rw [pq_le]; omega)]
  · rw [if_neg q]
    by_cases q2 : (0 : Int32) ≤ x
    · rw [if_pos q2, pq_eq]
      rw [pq_lt] at q
      rw [pq_le] at q2
      omega
    · rw [if_neg q2]
theorem sim_lacks : pl_sim_lacks Rel := by
  intro M N a1 hR
  obtain ⟨h, a, b, hx⟩ := hR.1
  have h18 := hx.2.2.1.1
  obtain ⟨ok6, hsta⟩ := pq_sta hx a1
  have v0 : vp_in (0 : Int32) 237 := pq_vin (n := 0) (by omega) (by omega)
  unfold fv_X5_lacks fv_X6_lacks ok_X5_lacks ok_X6_lacks
  rcases hsta with ⟨e1, e2⟩ | ⟨s, hs, rfl, e1, e2⟩
  · simp only [e1, e2, ok6, ok_X2_hasStation, if_true, true_implies, not_true_eq_false, false_implies, and_true, true_and]
    exact hR
  have hs6 := (t_S hx hs).1
  have hS0 := (t_S hx hs).2
  obtain ⟨g1, g2, g3, g4, g5, g6⟩ := trial_start hx
  have v1 : vp_in (nI s) 6 := pq_vin hs6 (by omega)
  have A4 : ∀ v N', fv_X6_adds (nI s) 4 v N' = ps_st N' 1 (3 + 27 * s + 4) (pq_sv (N' 1) s 4 + v) := fun v N' => pq_adds (j := 4) hs6 (by omega) v N'
  have O2 : ∀ N', fv_X6_of (nI s) 2 N' = pq_sv (N' 1) s 2 := pq_of (j := 2) hs6 (by omega)
  have O4 : ∀ N', fv_X6_of (nI s) 4 N' = pq_sv (N' 1) s 4 := pq_of (j := 4) hs6 (by omega)
  have Q2 : ∀ N', ok_X6_of (nI s) 2 N' := pq_ofok (j := 2) hs6 (by omega)
  have Q4 : ∀ N', ok_X6_of (nI s) 4 N' := pq_ofok (j := 4) hs6 (by omega)
  have B4 : ∀ v N', ok_X6_adds (nI s) 4 v N' := fun v N' => pq_addsok (j := 4) hs6 (by omega) v N'
  have hx4 : HD (fun i => ¬ (i = s)) (ps_st (fv_X2_copyFrom 28 1 M) (28 + 1 + 1 + 2 * s) 5 7500) 28 (ps_st (fv_X6_copies 1 0 4 0 N) 1 (3 + 27 * s + 4) (pq_sv (fv_X6_copies 1 0 4 0 N 1) s 4 + 1000000) 1) h a b := by
    refine DX_st g4 hs6 (fun k k1 k2 => ps_st_ne k1) (fun i hi => pq_stne (Or.inr (by omega))) (fun i hne _ f g r hz => ?_) ?_
    · show pq_S (¬ (i = s)) _ _ _ f g r
      rw [show (¬ (i = s)) = True from eq_true hne]; exact hz
    · rw [ps_st_self, ps_st_ne (by omega), pq_svupd (by omega)]
      exact S_big (fun z => z rfl) h18 (g4.2.2.2.1 s hs6)
  obtain ⟨v, M', N', i1, i2, i3, i4, i5, i6⟩ := h_pass (t := 18 - h) (by omega) hx4
  obtain ⟨j1, j2⟩ := trial_end hR (M' := M') (N' := N') (fun k hk => (i5.1 k hk).trans ((ps_st_ne (by omega)).trans (g3 k hk))) (fun i hi => by rw [i5.2 4 (by omega), ps_st_ne (by omega)]; exact g5 i hi) (fun k k1 k2 => (i5.2 k k1).trans ((ps_st_ne k1).trans (g6 k k2)))
  have c1 : (ps_st (fv_X2_copyFrom 28 1 M) (28 + 1 + 1 + 2 * s) 5 7500) 1 0 = nI h := by
    rw [ps_st_ne (by omega), g3 1 (by omega)]; exact hx.1.1
  have c2 : (ps_st (fv_X6_copies 1 0 4 0 N) 1 (3 + 27 * s + 4) (pq_sv (fv_X6_copies 1 0 4 0 N 1) s 4 + 1000000)) 1 0 = nI h := hx4.2.1.1
  have c3 : M' (28 + 1 + 1 + 2 * s) 3 = pq_sv (N' 1) s 2 := (t_S i6 hs).2.1.2.2.1
  have c4 : M' (1 + 1 + 1 + 2 * s) 3 = pq_sv (N 1) s 2 := by
    rw [i5.1 _ (by omega), ps_st_ne (by omega), g3 _ (by omega)]; exact hS0.1.2.2.1
  have c5 : M' (1 + 1 + 1 + 2 * s) 5 = pq_sv (N 1) s 4 := by
    rw [i5.1 _ (by omega), ps_st_ne (by omega), g3 _ (by omega)]; exact (hS0.2.2.2.1.1 trivial).1
  have c6 : fv_X6_copies 1 0 4 0 N 1 = N 1 := g6 1 (by omega)
  rw [c6] at c2 i2 i4
  simp only [e1, e2, A4, O2, O4, Q2, Q4, B4, c1, c6, c2, pq_c0, pq_18 h18, i1, i2, i3, i4, g1, g2, j2, v0, v1, ok6, ok_X2_hasStation, fv_X5_lacks_58, ok_X5_lacks_58, fv_X6_lacks_58, ok_X6_lacks_58, c3, c4, c5, pq_max0, pq_nI (show s < 4000 by omega), pq_10, if_true, if_false, true_implies, not_true_eq_false, not_false_eq_true, false_implies, and_true, true_and]
  by_cases q : (0 : Int32) ≤ pq_sv (N' 1) s 2 - pq_sv (N 1) s 2 - pq_sv (N 1) s 4
  · simp only [q, if_true, true_and]
    exact j1
  · simp only [q, if_false, true_and]
    exact j1
