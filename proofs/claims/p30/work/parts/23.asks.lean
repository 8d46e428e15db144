/-! ===== what is asked ===== -/
/-! the total station -/
theorem t_sumloop {M : ps_M} {a : Nat} (ha : a ≤ 6) : ∀ (k c n : Nat) (Mx : ps_M), c + k = a → k < n → (∀ i, i ≠ 82 → Mx i = M i) → (∀ i, i ≠ 82 → fv_X4_becomeSumOf_32 n 82 2 (nI a) (nI c) Mx i = M i) ∧ (∀ j, (j = 1 ∨ j = 3 ∨ j = 4 ∨ j = 5 ∨ j = 6 ∨ j = 10) → fv_X4_becomeSumOf_32 n 82 2 (nI a) (nI c) Mx 82 j = pq_sm (fun s => M (2 + 1 + 2 * s) j) k c (Mx 82 j)) ∧ ok_X4_becomeSumOf_32 n 82 2 (nI a) (nI c) Mx := by
  intro k
  induction k with
  | zero =>
    intro c n Mx h1 h2 h3
    cases n with
    | zero => omega
    | succ n =>
      rw [fv_X4_becomeSumOf_32_s, ok_X4_becomeSumOf_32_s, show c = a by omega]
      simp only [pq_leT (show ¬ a < a by omega) (by omega) (by omega), if_true, true_implies, not_true_eq_false, false_implies, and_true]
      exact ⟨h3, fun j _ => rfl⟩
  | succ k ih =>
    intro c n Mx h1 h2 h3
    cases n with
    | zero => omega
    | succ n =>
      have v1 : vp_in (nI c) 6 := pq_vin (by omega) (by omega)
      rw [fv_X4_becomeSumOf_32_s, ok_X4_becomeSumOf_32_s]
      simp only [pq_leF (show c < a by omega) (by omega), pq_nI (show c < 4000 by omega), pq_nIadd1, v1, fv_X4_becomeSumOf_67, ok_X4_becomeSumOf_67, fv_X4_becomeSumOf_97, ok_X4_becomeSumOf_97, fv_X4_becomeSumOf_127, ok_X4_becomeSumOf_127, if_false, false_implies, true_and, not_false_eq_true, true_implies, and_true]
      have hne : 2 + 1 + 2 * c ≠ 82 := by omega
      generalize hg : ps_st _ 82 10 _ = Mz
      obtain ⟨i1, i2, i3⟩ := ih (c + 1) n Mz (by omega) (by omega) (fun i hi => by
        rw [← hg]
        simp only [ps_st_ne hi]
        exact h3 i hi)
      refine ⟨i1, fun j hj => ?_, i3⟩
      rw [i2 j hj]
      show pq_sm _ k (c + 1) _ = pq_sm _ k (c + 1) (Mx 82 j + M (2 + 1 + 2 * c) j)
      congr 1
      rw [← hg]
      rcases hj with rfl | rfl | rfl | rfl | rfl | rfl <;> simp [ps_st, hne, h3 _ hne]
theorem t_total {M : ps_M} {a : Nat} (H1 : M 1 1 = nI a) (ha : a ≤ 6) : (∀ i, i ≠ 82 → fv_X5_total M i = M i) ∧ (∀ j, (j = 1 ∨ j = 3 ∨ j = 4 ∨ j = 5 ∨ j = 6 ∨ j = 10) → fv_X5_total M 82 j = pq_sm (fun s => M (1 + 1 + 1 + 2 * s) j) a 0 0) ∧ ok_X5_total M := by
  obtain ⟨Mz, hg⟩ : ∃ Mz, Mz = (ps_st (ps_st (ps_st (ps_st (ps_st (ps_st M 82 1 0) 82 3 0) 82 4 0) 82 5 0) 82 6 0) 82 10 0) := ⟨_, rfl⟩
  have hz : ∀ i, i ≠ 82 → Mz i = M i := fun i hi => by
    rw [hg]; simp only [ps_st_ne hi]
  obtain ⟨i1, i2, i3⟩ := t_sumloop (M := M) ha a 0 ps_FU Mz (by omega) (pq_fu (by omega)) hz
  have e : fv_X5_total M = fv_X4_becomeSumOf_32 ps_FU 82 2 (nI a) (nI 0) Mz := by
    rw [hg]; unfold fv_X5_total fv_X4_becomeSumOf fv_X4_becomeSumOf_30; rw [H1]; rfl
  refine ⟨fun i hi => by rw [e]; exact i1 i hi, fun j hj => ?_, ?_⟩
  · rw [e, i2 j hj]
    have hz0 : Mz 82 j = 0 := by
      rw [hg]; rcases hj with rfl | rfl | rfl | rfl | rfl | rfl <;> simp [ps_st]
    rw [hz0]
  · unfold ok_X5_total ok_X4_becomeSumOf ok_X4_becomeSumOf_30
    rw [H1, ← hg]
    exact ⟨i3, trivial⟩

theorem a_hs {M : ps_M} {d a s : Nat} (H1 : M d 1 = nI a) (ha : a ≤ 6) (hs : s < a) : fv_X2_hasStation d (nI s) M = 1 := by
  unfold fv_X2_hasStation
  rw [H1, if_neg (nI_pos (by omega)), if_neg (nI_ge hs (by omega))]
theorem a_hsn {M : ps_M} {d a : Nat} {x : Int32} (H1 : M d 1 = nI a) (hx : x < 0 ∨ nI a ≤ x) : fv_X2_hasStation d x M = 0 := by
  unfold fv_X2_hasStation
  rw [H1]
  by_cases q : x < 0
  · rw [if_pos q]
  · rw [if_neg q, if_pos (hx.resolve_left q)]
theorem a_hc {M : ps_M} {d b c : Nat} (H2 : M d 2 = nI b) (hb : b ≤ 12) (hc : c < b) : fv_X2_hasClerk d (nI c) M = 1 := by
  unfold fv_X2_hasClerk
  rw [H2, if_neg (nI_pos (by omega)), if_neg (nI_ge hc (by omega))]
theorem a_hcn {M : ps_M} {d b : Nat} {x : Int32} (H2 : M d 2 = nI b) (hx : x < 0 ∨ nI b ≤ x) : fv_X2_hasClerk d x M = 0 := by
  unfold fv_X2_hasClerk
  rw [H2]
  by_cases q : x < 0
  · rw [if_pos q]
  · rw [if_neg q, if_pos (hx.resolve_left q)]
theorem v_count0 (M : ps_M) : fv_X5_count 0 M = (M 1 0, M) := by
  simp (config := {decide := true}) only [fv_X5_count, if_true, if_false]
theorem o_count0 (M : ps_M) : ok_X5_count 0 M := by
  simp (config := {decide := true}) only [ok_X5_count, if_true, if_false, true_implies, not_true_eq_false, not_false_eq_true, false_implies, and_true, true_and]
theorem v_count1 (M : ps_M) : fv_X5_count 1 M = (M 1 1, M) := by
  simp (config := {decide := true}) only [fv_X5_count, if_true, if_false]
theorem o_count1 (M : ps_M) : ok_X5_count 1 M := by
  simp (config := {decide := true}) only [ok_X5_count, if_true, if_false, true_implies, not_true_eq_false, not_false_eq_true, false_implies, and_true, true_and]
theorem v_count2 (M : ps_M) : fv_X5_count 2 M = (M 1 2, M) := by
  simp (config := {decide := true}) only [fv_X5_count, if_true, if_false]
theorem o_count2 (M : ps_M) : ok_X5_count 2 M := by
  simp (config := {decide := true}) only [ok_X5_count, if_true, if_false, true_implies, not_true_eq_false, not_false_eq_true, false_implies, and_true, true_and]
theorem v_count3 (M : ps_M) : fv_X5_count 3 M = (fv_X2_clerksOnDuty 1 M, M) := by
  simp (config := {decide := true}) only [fv_X5_count, if_true, if_false]
theorem o_count3 {M : ps_M} (h : ok_X2_clerksOnDuty 1 M) : ok_X5_count 3 M := by
  simp (config := {decide := true}) only [ok_X5_count, h, if_true, if_false, true_implies, not_true_eq_false, not_false_eq_true, false_implies, and_true, true_and]
theorem v_count4 (M : ps_M) : fv_X5_count 4 M = (fv_X2_freeClerks 1 M, M) := by
  simp (config := {decide := true}) only [fv_X5_count, if_true, if_false]
theorem o_count4 {M : ps_M} (h : ok_X2_freeClerks 1 M) : ok_X5_count 4 M := by
  simp (config := {decide := true}) only [ok_X5_count, h, if_true, if_false, true_implies, not_true_eq_false, not_false_eq_true, false_implies, and_true, true_and]
theorem v_count5 (M : ps_M) : fv_X5_count 5 M = (fv_X5_total M 82 1, fv_X5_total M) := by
  simp (config := {decide := true}) only [fv_X5_count, if_true, if_false]
theorem o_count5 {M : ps_M} (h : ok_X5_total M) : ok_X5_count 5 M := by
  simp (config := {decide := true}) only [ok_X5_count, h, if_true, if_false, true_implies, not_true_eq_false, not_false_eq_true, false_implies, and_true, true_and]
theorem v_count6 (M : ps_M) : fv_X5_count 6 M = (fv_X5_total M 82 3, fv_X5_total M) := by
  simp (config := {decide := true}) only [fv_X5_count, if_true, if_false]
theorem o_count6 {M : ps_M} (h : ok_X5_total M) : ok_X5_count 6 M := by
  simp (config := {decide := true}) only [ok_X5_count, h, if_true, if_false, true_implies, not_true_eq_false, not_false_eq_true, false_implies, and_true, true_and]
theorem v_count7 (M : ps_M) : fv_X5_count 7 M = (fv_X5_total M 82 5, fv_X5_total M) := by
  simp (config := {decide := true}) only [fv_X5_count, if_true, if_false]
theorem o_count7 {M : ps_M} (h : ok_X5_total M) : ok_X5_count 7 M := by
  simp (config := {decide := true}) only [ok_X5_count, h, if_true, if_false, true_implies, not_true_eq_false, not_false_eq_true, false_implies, and_true, true_and]
theorem v_count8 (M : ps_M) : fv_X5_count 8 M = (fv_X5_total M 82 6, fv_X5_total M) := by
  simp (config := {decide := true}) only [fv_X5_count, if_true, if_false]
theorem o_count8 {M : ps_M} (h : ok_X5_total M) : ok_X5_count 8 M := by
  simp (config := {decide := true}) only [ok_X5_count, h, if_true, if_false, true_implies, not_true_eq_false, not_false_eq_true, false_implies, and_true, true_and]
theorem v_count9 (M : ps_M) : fv_X5_count 9 M = (fv_X5_total M 82 10, fv_X5_total M) := by
  simp (config := {decide := true}) only [fv_X5_count, if_true, if_false]
theorem o_count9 {M : ps_M} (h : ok_X5_total M) : ok_X5_count 9 M := by
  simp (config := {decide := true}) only [ok_X5_count, h, if_true, if_false, true_implies, not_true_eq_false, not_false_eq_true, false_implies, and_true, true_and]
theorem v_count10 (M : ps_M) : fv_X5_count 10 M = (fv_X2_stationsCounted 1 1 M, M) := by
  simp (config := {decide := true}) only [fv_X5_count, if_true, if_false]
theorem o_count10 {M : ps_M} (h : ok_X2_stationsCounted 1 1 M) : ok_X5_count 10 M := by
  simp (config := {decide := true}) only [ok_X5_count, h, if_true, if_false, true_implies, not_true_eq_false, not_false_eq_true, false_implies, and_true, true_and]
theorem v_count11 (M : ps_M) : fv_X5_count 11 M = (fv_X2_stationsCounted 1 0 M, M) := by
  simp (config := {decide := true}) only [fv_X5_count, if_true, if_false]
theorem o_count11 {M : ps_M} (h : ok_X2_stationsCounted 1 0 M) : ok_X5_count 11 M := by
  simp (config := {decide := true}) only [ok_X5_count, h, if_true, if_false, true_implies, not_true_eq_false, not_false_eq_true, false_implies, and_true, true_and]
theorem v_count12 (M : ps_M) : fv_X5_count 12 M = (fv_X5_total M 82 4, fv_X5_total M) := by
  simp (config := {decide := true}) only [fv_X5_count, if_true, if_false]
theorem o_count12 {M : ps_M} (h : ok_X5_total M) : ok_X5_count 12 M := by
  simp (config := {decide := true}) only [ok_X5_count, h, if_true, if_false, true_implies, not_true_eq_false, not_false_eq_true, false_implies, and_true, true_and]
theorem v_count13 (M : ps_M) : fv_X5_count 13 M = (fv_X2_hoursWorked 1 M, M) := by
  simp (config := {decide := true}) only [fv_X5_count, if_true, if_false]
theorem o_count13 {M : ps_M} (h : ok_X2_hoursWorked 1 M) : ok_X5_count 13 M := by
  simp (config := {decide := true}) only [ok_X5_count, h, if_true, if_false, true_implies, not_true_eq_false, not_false_eq_true, false_implies, and_true, true_and]
theorem v_count14 (M : ps_M) : fv_X5_count 14 M = (M 84 1, M) := by
  simp (config := {decide := true}) only [fv_X5_count, if_true, if_false]
theorem o_count14 (M : ps_M) : ok_X5_count 14 M := by
  simp (config := {decide := true}) only [ok_X5_count, if_true, if_false, true_implies, not_true_eq_false, not_false_eq_true, false_implies, and_true, true_and]
theorem v_count16 (M : ps_M) : fv_X5_count 16 M = (-2, M) := by
  simp (config := {decide := true}) only [fv_X5_count, if_true, if_false]
theorem o_count16 (M : ps_M) : ok_X5_count 16 M := by
  simp (config := {decide := true}) only [ok_X5_count, if_true, if_false, true_implies, not_true_eq_false, not_false_eq_true, false_implies, and_true, true_and]
theorem v_count1n (M : ps_M) : fv_X5_count (-1) M = (-2, M) := by
  simp (config := {decide := true}) only [fv_X5_count, if_true, if_false]
theorem o_count1n (M : ps_M) : ok_X5_count (-1) M := by
  simp (config := {decide := true}) only [ok_X5_count, if_true, if_false, true_implies, not_true_eq_false, not_false_eq_true, false_implies, and_true, true_and]
theorem v_st0 {M : ps_M} {a s : Nat} (H1 : M 1 1 = nI a) (ha : a ≤ 6) (hs : s < a) : fv_X5_station (nI s) 0 M = M (1 + 1 + 1 + 2 * s) 1 := by
  simp (config := {decide := true}) only [fv_X5_station, a_hs H1 ha hs, pq_nI (show s < 4000 by omega), if_true, if_false]
theorem o_st0 {M : ps_M} {a s : Nat} (H1 : M 1 1 = nI a) (ha : a ≤ 6) (hs : s < a) : ok_X5_station (nI s) 0 M := by
  have v : vp_in (nI s) 6 := pq_vin (by omega) (by omega)
  have hh : ok_X2_hasStation 1 (nI s) M := trivial
  simp (config := {decide := true}) only [ok_X5_station, v, hh, a_hs H1 ha hs, pq_nI (show s < 4000 by omega), if_true, if_false, true_implies, not_true_eq_false, not_false_eq_true, false_implies, and_true, true_and]
theorem v_st1 {M : ps_M} {a s : Nat} (H1 : M 1 1 = nI a) (ha : a ≤ 6) (hs : s < a) : fv_X5_station (nI s) 1 M = M (1 + 1 + 1 + 2 * s) 2 := by
  simp (config := {decide := true}) only [fv_X5_station, a_hs H1 ha hs, pq_nI (show s < 4000 by omega), if_true, if_false]
theorem o_st1 {M : ps_M} {a s : Nat} (H1 : M 1 1 = nI a) (ha : a ≤ 6) (hs : s < a) : ok_X5_station (nI s) 1 M := by
  have v : vp_in (nI s) 6 := pq_vin (by omega) (by omega)
  have hh : ok_X2_hasStation 1 (nI s) M := trivial
  simp (config := {decide := true}) only [ok_X5_station, v, hh, a_hs H1 ha hs, pq_nI (show s < 4000 by omega), if_true, if_false, true_implies, not_true_eq_false, not_false_eq_true, false_implies, and_true, true_and]
theorem v_st2 {M : ps_M} {a s : Nat} (H1 : M 1 1 = nI a) (ha : a ≤ 6) (hs : s < a) : fv_X5_station (nI s) 2 M = M (1 + 1 + 1 + 2 * s) 3 := by
  simp (config := {decide := true}) only [fv_X5_station, a_hs H1 ha hs, pq_nI (show s < 4000 by omega), if_true, if_false]
theorem o_st2 {M : ps_M} {a s : Nat} (H1 : M 1 1 = nI a) (ha : a ≤ 6) (hs : s < a) : ok_X5_station (nI s) 2 M := by
  have v : vp_in (nI s) 6 := pq_vin (by omega) (by omega)
  have hh : ok_X2_hasStation 1 (nI s) M := trivial
  simp (config := {decide := true}) only [ok_X5_station, v, hh, a_hs H1 ha hs, pq_nI (show s < 4000 by omega), if_true, if_false, true_implies, not_true_eq_false, not_false_eq_true, false_implies, and_true, true_and]
theorem v_st3 {M : ps_M} {a s : Nat} (H1 : M 1 1 = nI a) (ha : a ≤ 6) (hs : s < a) : fv_X5_station (nI s) 3 M = M (1 + 1 + 1 + 2 * s) 4 := by
  simp (config := {decide := true}) only [fv_X5_station, a_hs H1 ha hs, pq_nI (show s < 4000 by omega), if_true, if_false]
theorem o_st3 {M : ps_M} {a s : Nat} (H1 : M 1 1 = nI a) (ha : a ≤ 6) (hs : s < a) : ok_X5_station (nI s) 3 M := by
  have v : vp_in (nI s) 6 := pq_vin (by omega) (by omega)
  have hh : ok_X2_hasStation 1 (nI s) M := trivial
  simp (config := {decide := true}) only [ok_X5_station, v, hh, a_hs H1 ha hs, pq_nI (show s < 4000 by omega), if_true, if_false, true_implies, not_true_eq_false, not_false_eq_true, false_implies, and_true, true_and]
theorem v_st4 {M : ps_M} {a s : Nat} (H1 : M 1 1 = nI a) (ha : a ≤ 6) (hs : s < a) : fv_X5_station (nI s) 4 M = fv_X2_clerksAt 1 (nI s) M := by
  simp (config := {decide := true}) only [fv_X5_station, a_hs H1 ha hs, pq_nI (show s < 4000 by omega), if_true, if_false]
theorem o_st4 {M : ps_M} {a s : Nat} (H1 : M 1 1 = nI a) (ha : a ≤ 6) (hs : s < a) (h : ok_X2_clerksAt 1 (nI s) M) : ok_X5_station (nI s) 4 M := by
  have v : vp_in (nI s) 6 := pq_vin (by omega) (by omega)
  have hh : ok_X2_hasStation 1 (nI s) M := trivial
  simp (config := {decide := true}) only [ok_X5_station, v, hh, a_hs H1 ha hs, pq_nI (show s < 4000 by omega), h, if_true, if_false, true_implies, not_true_eq_false, not_false_eq_true, false_implies, and_true, true_and]
theorem v_st5 {M : ps_M} {a s : Nat} (H1 : M 1 1 = nI a) (ha : a ≤ 6) (hs : s < a) : fv_X5_station (nI s) 5 M = fv_X2_servedAnHourAt 1 (nI s) M := by
  simp (config := {decide := true}) only [fv_X5_station, a_hs H1 ha hs, pq_nI (show s < 4000 by omega), if_true, if_false]
theorem o_st5 {M : ps_M} {a s : Nat} (H1 : M 1 1 = nI a) (ha : a ≤ 6) (hs : s < a) (h : ok_X2_servedAnHourAt 1 (nI s) M) : ok_X5_station (nI s) 5 M := by
  have v : vp_in (nI s) 6 := pq_vin (by omega) (by omega)
  have hh : ok_X2_hasStation 1 (nI s) M := trivial
  simp (config := {decide := true}) only [ok_X5_station, v, hh, a_hs H1 ha hs, pq_nI (show s < 4000 by omega), h, if_true, if_false, true_implies, not_true_eq_false, not_false_eq_true, false_implies, and_true, true_and]
theorem v_st6 {M : ps_M} {a s : Nat} (H1 : M 1 1 = nI a) (ha : a ≤ 6) (hs : s < a) : fv_X5_station (nI s) 6 M = fv_X4_allArrivals (1 + 1 + 1 + 2 * s) M := by
  simp (config := {decide := true}) only [fv_X5_station, a_hs H1 ha hs, pq_nI (show s < 4000 by omega), if_true, if_false]
theorem o_st6 {M : ps_M} {a s : Nat} (H1 : M 1 1 = nI a) (ha : a ≤ 6) (hs : s < a) (h : ok_X4_allArrivals (1 + 1 + 1 + 2 * s) M) : ok_X5_station (nI s) 6 M := by
  have v : vp_in (nI s) 6 := pq_vin (by omega) (by omega)
  have hh : ok_X2_hasStation 1 (nI s) M := trivial
  simp (config := {decide := true}) only [ok_X5_station, v, hh, a_hs H1 ha hs, pq_nI (show s < 4000 by omega), h, if_true, if_false, true_implies, not_true_eq_false, not_false_eq_true, false_implies, and_true, true_and]
theorem v_st7 {M : ps_M} {a s : Nat} (H1 : M 1 1 = nI a) (ha : a ≤ 6) (hs : s < a) : fv_X5_station (nI s) 7 M = fv_X2_hoursForQueueOf 1 (nI s) M := by
  simp (config := {decide := true}) only [fv_X5_station, a_hs H1 ha hs, pq_nI (show s < 4000 by omega), if_true, if_false]
theorem o_st7 {M : ps_M} {a s : Nat} (H1 : M 1 1 = nI a) (ha : a ≤ 6) (hs : s < a) (h : ok_X2_hoursForQueueOf 1 (nI s) M) : ok_X5_station (nI s) 7 M := by
  have v : vp_in (nI s) 6 := pq_vin (by omega) (by omega)
  have hh : ok_X2_hasStation 1 (nI s) M := trivial
  simp (config := {decide := true}) only [ok_X5_station, v, hh, a_hs H1 ha hs, pq_nI (show s < 4000 by omega), h, if_true, if_false, true_implies, not_true_eq_false, not_false_eq_true, false_implies, and_true, true_and]
theorem v_st8 {M : ps_M} {a s : Nat} (H1 : M 1 1 = nI a) (ha : a ≤ 6) (hs : s < a) : fv_X5_station (nI s) 8 M = -2 := by
  simp (config := {decide := true}) only [fv_X5_station, a_hs H1 ha hs, pq_nI (show s < 4000 by omega), if_true, if_false]
theorem o_st8 {M : ps_M} {a s : Nat} (H1 : M 1 1 = nI a) (ha : a ≤ 6) (hs : s < a) : ok_X5_station (nI s) 8 M := by
  have v : vp_in (nI s) 6 := pq_vin (by omega) (by omega)
  have hh : ok_X2_hasStation 1 (nI s) M := trivial
  simp (config := {decide := true}) only [ok_X5_station, v, hh, a_hs H1 ha hs, pq_nI (show s < 4000 by omega), if_true, if_false, true_implies, not_true_eq_false, not_false_eq_true, false_implies, and_true, true_and]
theorem v_stn {M : ps_M} {a : Nat} {x y : Int32} (H1 : M 1 1 = nI a) (hx : x < 0 ∨ nI a ≤ x) : fv_X5_station x y M = -1 ∧ ok_X5_station x y M := by
  have hh : ok_X2_hasStation 1 x M := trivial
  simp (config := {decide := true}) only [fv_X5_station, ok_X5_station, hh, a_hsn H1 hx, if_true, if_false, true_implies, not_true_eq_false, not_false_eq_true, false_implies, and_true, true_and]
theorem v_pa0 {M : ps_M} {a s : Nat} (H1 : M 1 1 = nI a) (ha : a ≤ 6) (hs : s < a) : fv_X5_papers (nI s) 0 M = M (1 + 1 + 1 + 2 * s) 5 := by
  simp (config := {decide := true}) only [fv_X5_papers, a_hs H1 ha hs, pq_nI (show s < 4000 by omega), if_true, if_false]
theorem o_pa0 {M : ps_M} {a s : Nat} (H1 : M 1 1 = nI a) (ha : a ≤ 6) (hs : s < a) : ok_X5_papers (nI s) 0 M := by
  have v : vp_in (nI s) 6 := pq_vin (by omega) (by omega)
  have hh : ok_X2_hasStation 1 (nI s) M := trivial
  have hi : ok_X4_isCounted (1 + 1 + 1 + 2 * s) M := trivial
  simp (config := {decide := true}) only [ok_X5_papers, v, hh, hi, a_hs H1 ha hs, pq_nI (show s < 4000 by omega), if_true, if_false, true_implies, not_true_eq_false, not_false_eq_true, false_implies, and_true, true_and]
theorem v_pa1 {M : ps_M} {a s : Nat} (H1 : M 1 1 = nI a) (ha : a ≤ 6) (hs : s < a) : fv_X5_papers (nI s) 1 M = M (1 + 1 + 1 + 2 * s) 6 := by
  simp (config := {decide := true}) only [fv_X5_papers, a_hs H1 ha hs, pq_nI (show s < 4000 by omega), if_true, if_false]
theorem o_pa1 {M : ps_M} {a s : Nat} (H1 : M 1 1 = nI a) (ha : a ≤ 6) (hs : s < a) : ok_X5_papers (nI s) 1 M := by
  have v : vp_in (nI s) 6 := pq_vin (by omega) (by omega)
  have hh : ok_X2_hasStation 1 (nI s) M := trivial
  have hi : ok_X4_isCounted (1 + 1 + 1 + 2 * s) M := trivial
  simp (config := {decide := true}) only [ok_X5_papers, v, hh, hi, a_hs H1 ha hs, pq_nI (show s < 4000 by omega), if_true, if_false, true_implies, not_true_eq_false, not_false_eq_true, false_implies, and_true, true_and]
theorem v_pa2 {M : ps_M} {a s : Nat} (H1 : M 1 1 = nI a) (ha : a ≤ 6) (hs : s < a) : fv_X5_papers (nI s) 2 M = M (1 + 1 + 1 + 2 * s) 7 := by
  simp (config := {decide := true}) only [fv_X5_papers, a_hs H1 ha hs, pq_nI (show s < 4000 by omega), if_true, if_false]
theorem o_pa2 {M : ps_M} {a s : Nat} (H1 : M 1 1 = nI a) (ha : a ≤ 6) (hs : s < a) : ok_X5_papers (nI s) 2 M := by
  have v : vp_in (nI s) 6 := pq_vin (by omega) (by omega)
  have hh : ok_X2_hasStation 1 (nI s) M := trivial
  have hi : ok_X4_isCounted (1 + 1 + 1 + 2 * s) M := trivial
  simp (config := {decide := true}) only [ok_X5_papers, v, hh, hi, a_hs H1 ha hs, pq_nI (show s < 4000 by omega), if_true, if_false, true_implies, not_true_eq_false, not_false_eq_true, false_implies, and_true, true_and]
theorem v_pa3 {M : ps_M} {a s : Nat} (H1 : M 1 1 = nI a) (ha : a ≤ 6) (hs : s < a) : fv_X5_papers (nI s) 3 M = M (1 + 1 + 1 + 2 * s) 8 := by
  simp (config := {decide := true}) only [fv_X5_papers, a_hs H1 ha hs, pq_nI (show s < 4000 by omega), if_true, if_false]
theorem o_pa3 {M : ps_M} {a s : Nat} (H1 : M 1 1 = nI a) (ha : a ≤ 6) (hs : s < a) : ok_X5_papers (nI s) 3 M := by
  have v : vp_in (nI s) 6 := pq_vin (by omega) (by omega)
  have hh : ok_X2_hasStation 1 (nI s) M := trivial
  have hi : ok_X4_isCounted (1 + 1 + 1 + 2 * s) M := trivial
  simp (config := {decide := true}) only [ok_X5_papers, v, hh, hi, a_hs H1 ha hs, pq_nI (show s < 4000 by omega), if_true, if_false, true_implies, not_true_eq_false, not_false_eq_true, false_implies, and_true, true_and]
theorem v_pa4 {M : ps_M} {a s : Nat} (H1 : M 1 1 = nI a) (ha : a ≤ 6) (hs : s < a) : fv_X5_papers (nI s) 4 M = M (1 + 1 + 1 + 2 * s) 9 := by
  simp (config := {decide := true}) only [fv_X5_papers, a_hs H1 ha hs, pq_nI (show s < 4000 by omega), if_true, if_false]
theorem o_pa4 {M : ps_M} {a s : Nat} (H1 : M 1 1 = nI a) (ha : a ≤ 6) (hs : s < a) : ok_X5_papers (nI s) 4 M := by
  have v : vp_in (nI s) 6 := pq_vin (by omega) (by omega)
  have hh : ok_X2_hasStation 1 (nI s) M := trivial
  have hi : ok_X4_isCounted (1 + 1 + 1 + 2 * s) M := trivial
  simp (config := {decide := true}) only [ok_X5_papers, v, hh, hi, a_hs H1 ha hs, pq_nI (show s < 4000 by omega), if_true, if_false, true_implies, not_true_eq_false, not_false_eq_true, false_implies, and_true, true_and]
theorem v_pa5 {M : ps_M} {a s : Nat} (H1 : M 1 1 = nI a) (ha : a ≤ 6) (hs : s < a) : fv_X5_papers (nI s) 5 M = M (1 + 1 + 1 + 2 * s) 10 := by
  simp (config := {decide := true}) only [fv_X5_papers, a_hs H1 ha hs, pq_nI (show s < 4000 by omega), if_true, if_false]
theorem o_pa5 {M : ps_M} {a s : Nat} (H1 : M 1 1 = nI a) (ha : a ≤ 6) (hs : s < a) : ok_X5_papers (nI s) 5 M := by
  have v : vp_in (nI s) 6 := pq_vin (by omega) (by omega)
  have hh : ok_X2_hasStation 1 (nI s) M := trivial
  have hi : ok_X4_isCounted (1 + 1 + 1 + 2 * s) M := trivial
  simp (config := {decide := true}) only [ok_X5_papers, v, hh, hi, a_hs H1 ha hs, pq_nI (show s < 4000 by omega), if_true, if_false, true_implies, not_true_eq_false, not_false_eq_true, false_implies, and_true, true_and]
theorem v_pa6 {M : ps_M} {a s : Nat} (H1 : M 1 1 = nI a) (ha : a ≤ 6) (hs : s < a) : fv_X5_papers (nI s) 6 M = (if fv_X4_isCounted (1 + 1 + 1 + 2 * s) M = 0 then -5 else M (1 + 1 + 1 + 2 * s) 11) := by
  simp (config := {decide := true}) only [fv_X5_papers, a_hs H1 ha hs, pq_nI (show s < 4000 by omega), if_true, if_false]
theorem o_pa6 {M : ps_M} {a s : Nat} (H1 : M 1 1 = nI a) (ha : a ≤ 6) (hs : s < a) : ok_X5_papers (nI s) 6 M := by
  have v : vp_in (nI s) 6 := pq_vin (by omega) (by omega)
  have hh : ok_X2_hasStation 1 (nI s) M := trivial
  have hi : ok_X4_isCounted (1 + 1 + 1 + 2 * s) M := trivial
  simp (config := {decide := true}) only [ok_X5_papers, v, hh, hi, a_hs H1 ha hs, pq_nI (show s < 4000 by omega), if_true, if_false, true_implies, not_true_eq_false, not_false_eq_true, false_implies, and_true, true_and]
theorem v_pa7 {M : ps_M} {a s : Nat} (H1 : M 1 1 = nI a) (ha : a ≤ 6) (hs : s < a) : fv_X5_papers (nI s) 7 M = (if fv_X4_isCounted (1 + 1 + 1 + 2 * s) M = 0 then -5 else M (1 + 1 + 1 + 2 * s) 11 - M (1 + 1 + 1 + 2 * s) 10 + 100000) := by
  simp (config := {decide := true}) only [fv_X5_papers, a_hs H1 ha hs, pq_nI (show s < 4000 by omega), if_true, if_false]
theorem o_pa7 {M : ps_M} {a s : Nat} (H1 : M 1 1 = nI a) (ha : a ≤ 6) (hs : s < a) : ok_X5_papers (nI s) 7 M := by
  have v : vp_in (nI s) 6 := pq_vin (by omega) (by omega)
  have hh : ok_X2_hasStation 1 (nI s) M := trivial
  have hi : ok_X4_isCounted (1 + 1 + 1 + 2 * s) M := trivial
  simp (config := {decide := true}) only [ok_X5_papers, v, hh, hi, a_hs H1 ha hs, pq_nI (show s < 4000 by omega), if_true, if_false, true_implies, not_true_eq_false, not_false_eq_true, false_implies, and_true, true_and]
theorem v_pa8 {M : ps_M} {a s : Nat} (H1 : M 1 1 = nI a) (ha : a ≤ 6) (hs : s < a) : fv_X5_papers (nI s) 8 M = M (1 + 1 + 1 + 2 * s) 12 := by
  simp (config := {decide := true}) only [fv_X5_papers, a_hs H1 ha hs, pq_nI (show s < 4000 by omega), if_true, if_false]
theorem o_pa8 {M : ps_M} {a s : Nat} (H1 : M 1 1 = nI a) (ha : a ≤ 6) (hs : s < a) : ok_X5_papers (nI s) 8 M := by
  have v : vp_in (nI s) 6 := pq_vin (by omega) (by omega)
  have hh : ok_X2_hasStation 1 (nI s) M := trivial
  have hi : ok_X4_isCounted (1 + 1 + 1 + 2 * s) M := trivial
  simp (config := {decide := true}) only [ok_X5_papers, v, hh, hi, a_hs H1 ha hs, pq_nI (show s < 4000 by omega), if_true, if_false, true_implies, not_true_eq_false, not_false_eq_true, false_implies, and_true, true_and]
theorem v_pa9 {M : ps_M} {a s : Nat} (H1 : M 1 1 = nI a) (ha : a ≤ 6) (hs : s < a) : fv_X5_papers (nI s) 9 M = -2 := by
  simp (config := {decide := true}) only [fv_X5_papers, a_hs H1 ha hs, pq_nI (show s < 4000 by omega), if_true, if_false]
theorem o_pa9 {M : ps_M} {a s : Nat} (H1 : M 1 1 = nI a) (ha : a ≤ 6) (hs : s < a) : ok_X5_papers (nI s) 9 M := by
  have v : vp_in (nI s) 6 := pq_vin (by omega) (by omega)
  have hh : ok_X2_hasStation 1 (nI s) M := trivial
  have hi : ok_X4_isCounted (1 + 1 + 1 + 2 * s) M := trivial
  simp (config := {decide := true}) only [ok_X5_papers, v, hh, hi, a_hs H1 ha hs, pq_nI (show s < 4000 by omega), if_true, if_false, true_implies, not_true_eq_false, not_false_eq_true, false_implies, and_true, true_and]
theorem v_pan {M : ps_M} {a : Nat} {x y : Int32} (H1 : M 1 1 = nI a) (hx : x < 0 ∨ nI a ≤ x) : fv_X5_papers x y M = -1 ∧ ok_X5_papers x y M := by
  have hh : ok_X2_hasStation 1 x M := trivial
  simp (config := {decide := true}) only [fv_X5_papers, ok_X5_papers, hh, a_hsn H1 hx, if_true, if_false, true_implies, not_true_eq_false, not_false_eq_true, false_implies, and_true, true_and]
theorem v_ck0 {M : ps_M} {b c : Nat} (H2 : M 1 2 = nI b) (hb : b ≤ 12) (hc : c < b) : fv_X5_clerk (nI c) 0 M = M (1 + 14 + 1 + c) 0 := by
  simp (config := {decide := true}) only [fv_X5_clerk, a_hc H2 hb hc, pq_nI (show c < 4000 by omega), if_true, if_false]
theorem o_ck0 {M : ps_M} {b c : Nat} (H2 : M 1 2 = nI b) (hb : b ≤ 12) (hc : c < b) : ok_X5_clerk (nI c) 0 M := by
  have v : vp_in (nI c) 12 := pq_vin (by omega) (by omega)
  have hh : ok_X2_hasClerk 1 (nI c) M := trivial
  have hr : ok_X1_rests (1 + 14 + 1 + c) M := trivial
  have hf : ok_X1_isFree (1 + 14 + 1 + c) M := ok_free _ _
  simp (config := {decide := true}) only [ok_X5_clerk, v, hh, hr, hf, a_hc H2 hb hc, pq_nI (show c < 4000 by omega), implies_true, if_true, if_false, true_implies, not_true_eq_false, not_false_eq_true, false_implies, and_true, true_and]
theorem v_ck1 {M : ps_M} {b c : Nat} (H2 : M 1 2 = nI b) (hb : b ≤ 12) (hc : c < b) : fv_X5_clerk (nI c) 1 M = M (1 + 14 + 1 + c) 1 := by
  simp (config := {decide := true}) only [fv_X5_clerk, a_hc H2 hb hc, pq_nI (show c < 4000 by omega), if_true, if_false]
theorem o_ck1 {M : ps_M} {b c : Nat} (H2 : M 1 2 = nI b) (hb : b ≤ 12) (hc : c < b) : ok_X5_clerk (nI c) 1 M := by
  have v : vp_in (nI c) 12 := pq_vin (by omega) (by omega)
  have hh : ok_X2_hasClerk 1 (nI c) M := trivial
  have hr : ok_X1_rests (1 + 14 + 1 + c) M := trivial
  have hf : ok_X1_isFree (1 + 14 + 1 + c) M := ok_free _ _
  simp (config := {decide := true}) only [ok_X5_clerk, v, hh, hr, hf, a_hc H2 hb hc, pq_nI (show c < 4000 by omega), implies_true, if_true, if_false, true_implies, not_true_eq_false, not_false_eq_true, false_implies, and_true, true_and]
theorem v_ck2 {M : ps_M} {b c : Nat} (H2 : M 1 2 = nI b) (hb : b ≤ 12) (hc : c < b) : fv_X5_clerk (nI c) 2 M = M (1 + 14 + 1 + c) 2 := by
  simp (config := {decide := true}) only [fv_X5_clerk, a_hc H2 hb hc, pq_nI (show c < 4000 by omega), if_true, if_false]
theorem o_ck2 {M : ps_M} {b c : Nat} (H2 : M 1 2 = nI b) (hb : b ≤ 12) (hc : c < b) : ok_X5_clerk (nI c) 2 M := by
  have v : vp_in (nI c) 12 := pq_vin (by omega) (by omega)
  have hh : ok_X2_hasClerk 1 (nI c) M := trivial
  have hr : ok_X1_rests (1 + 14 + 1 + c) M := trivial
  have hf : ok_X1_isFree (1 + 14 + 1 + c) M := ok_free _ _
  simp (config := {decide := true}) only [ok_X5_clerk, v, hh, hr, hf, a_hc H2 hb hc, pq_nI (show c < 4000 by omega), implies_true, if_true, if_false, true_implies, not_true_eq_false, not_false_eq_true, false_implies, and_true, true_and]
theorem v_ck3 {M : ps_M} {b c : Nat} (H2 : M 1 2 = nI b) (hb : b ≤ 12) (hc : c < b) : fv_X5_clerk (nI c) 3 M = M (1 + 14 + 1 + c) 3 := by
  simp (config := {decide := true}) only [fv_X5_clerk, a_hc H2 hb hc, pq_nI (show c < 4000 by omega), if_true, if_false]
theorem o_ck3 {M : ps_M} {b c : Nat} (H2 : M 1 2 = nI b) (hb : b ≤ 12) (hc : c < b) : ok_X5_clerk (nI c) 3 M := by
  have v : vp_in (nI c) 12 := pq_vin (by omega) (by omega)
  have hh : ok_X2_hasClerk 1 (nI c) M := trivial
  have hr : ok_X1_rests (1 + 14 + 1 + c) M := trivial
  have hf : ok_X1_isFree (1 + 14 + 1 + c) M := ok_free _ _
  simp (config := {decide := true}) only [ok_X5_clerk, v, hh, hr, hf, a_hc H2 hb hc, pq_nI (show c < 4000 by omega), implies_true, if_true, if_false, true_implies, not_true_eq_false, not_false_eq_true, false_implies, and_true, true_and]
theorem v_ck4 {M : ps_M} {b c : Nat} (H2 : M 1 2 = nI b) (hb : b ≤ 12) (hc : c < b) : fv_X5_clerk (nI c) 4 M = M (1 + 14 + 1 + c) 4 := by
  simp (config := {decide := true}) only [fv_X5_clerk, a_hc H2 hb hc, pq_nI (show c < 4000 by omega), if_true, if_false]
theorem o_ck4 {M : ps_M} {b c : Nat} (H2 : M 1 2 = nI b) (hb : b ≤ 12) (hc : c < b) : ok_X5_clerk (nI c) 4 M := by
  have v : vp_in (nI c) 12 := pq_vin (by omega) (by omega)
  have hh : ok_X2_hasClerk 1 (nI c) M := trivial
  have hr : ok_X1_rests (1 + 14 + 1 + c) M := trivial
  have hf : ok_X1_isFree (1 + 14 + 1 + c) M := ok_free _ _
  simp (config := {decide := true}) only [ok_X5_clerk, v, hh, hr, hf, a_hc H2 hb hc, pq_nI (show c < 4000 by omega), implies_true, if_true, if_false, true_implies, not_true_eq_false, not_false_eq_true, false_implies, and_true, true_and]
theorem v_ck5 {M : ps_M} {b c : Nat} (H2 : M 1 2 = nI b) (hb : b ≤ 12) (hc : c < b) : fv_X5_clerk (nI c) 5 M = (if fv_X1_rests (1 + 14 + 1 + c) M = 0 then 0 else 1) := by
  simp (config := {decide := true}) only [fv_X5_clerk, a_hc H2 hb hc, pq_nI (show c < 4000 by omega), if_true, if_false]
theorem o_ck5 {M : ps_M} {b c : Nat} (H2 : M 1 2 = nI b) (hb : b ≤ 12) (hc : c < b) : ok_X5_clerk (nI c) 5 M := by
  have v : vp_in (nI c) 12 := pq_vin (by omega) (by omega)
  have hh : ok_X2_hasClerk 1 (nI c) M := trivial
  have hr : ok_X1_rests (1 + 14 + 1 + c) M := trivial
  have hf : ok_X1_isFree (1 + 14 + 1 + c) M := ok_free _ _
  simp (config := {decide := true}) only [ok_X5_clerk, v, hh, hr, hf, a_hc H2 hb hc, pq_nI (show c < 4000 by omega), implies_true, if_true, if_false, true_implies, not_true_eq_false, not_false_eq_true, false_implies, and_true, true_and]
theorem v_ck6 {M : ps_M} {b c : Nat} (H2 : M 1 2 = nI b) (hb : b ≤ 12) (hc : c < b) : fv_X5_clerk (nI c) 6 M = (if fv_X1_isFree (1 + 14 + 1 + c) M = 0 then -5 else fv_X2_placeAmongFree 1 (nI c) M) := by
  simp (config := {decide := true}) only [fv_X5_clerk, a_hc H2 hb hc, pq_nI (show c < 4000 by omega), if_true, if_false]
theorem o_ck6 {M : ps_M} {b c : Nat} (H2 : M 1 2 = nI b) (hb : b ≤ 12) (hc : c < b) : ok_X5_clerk (nI c) 6 M := by
  have h : ok_X2_placeAmongFree 1 (nI c) M := (cl_place H2 hb (by omega)).2
  have v : vp_in (nI c) 12 := pq_vin (by omega) (by omega)
  have hh : ok_X2_hasClerk 1 (nI c) M := trivial
  have hr : ok_X1_rests (1 + 14 + 1 + c) M := trivial
  have hf : ok_X1_isFree (1 + 14 + 1 + c) M := ok_free _ _
  simp (config := {decide := true}) only [ok_X5_clerk, v, hh, hr, hf, a_hc H2 hb hc, pq_nI (show c < 4000 by omega), h, implies_true, if_true, if_false, true_implies, not_true_eq_false, not_false_eq_true, false_implies, and_true, true_and]
theorem v_ck7 {M : ps_M} {b c : Nat} (H2 : M 1 2 = nI b) (hb : b ≤ 12) (hc : c < b) : fv_X5_clerk (nI c) 7 M = -2 := by
  simp (config := {decide := true}) only [fv_X5_clerk, a_hc H2 hb hc, pq_nI (show c < 4000 by omega), if_true, if_false]
theorem o_ck7 {M : ps_M} {b c : Nat} (H2 : M 1 2 = nI b) (hb : b ≤ 12) (hc : c < b) : ok_X5_clerk (nI c) 7 M := by
  have v : vp_in (nI c) 12 := pq_vin (by omega) (by omega)
  have hh : ok_X2_hasClerk 1 (nI c) M := trivial
  have hr : ok_X1_rests (1 + 14 + 1 + c) M := trivial
  have hf : ok_X1_isFree (1 + 14 + 1 + c) M := ok_free _ _
  simp (config := {decide := true}) only [ok_X5_clerk, v, hh, hr, hf, a_hc H2 hb hc, pq_nI (show c < 4000 by omega), implies_true, if_true, if_false, true_implies, not_true_eq_false, not_false_eq_true, false_implies, and_true, true_and]
theorem v_ckn {M : ps_M} {b : Nat} {x y : Int32} (H2 : M 1 2 = nI b) (hx : x < 0 ∨ nI b ≤ x) : fv_X5_clerk x y M = -1 ∧ ok_X5_clerk x y M := by
  have hh : ok_X2_hasClerk 1 x M := trivial
  simp (config := {decide := true}) only [fv_X5_clerk, ok_X5_clerk, hh, a_hcn H2 hx, if_true, if_false, true_implies, not_true_eq_false, not_false_eq_true, false_implies, and_true, true_and]
theorem a_wi {x l m : Nat} (M : ps_M) (h1 : l ≤ x) (h2 : x ≤ m) (hm : m < 2147483648) : fv_X5_isWithin (nI x) (nI l) (nI m) M = 1 := by
  unfold fv_X5_isWithin
  rw [if_neg (nI_nlt h1 (by omega)), if_neg (nI_nlt h2 (by omega))]
theorem v_ar {M : ps_M} {a s : Nat} (H1 : M 1 1 = nI a) (ha : a ≤ 6) (hs : s < a) {t : Nat} (ht : t < 15) : fv_X5_arrivals (nI s) (nI t) M = M (1 + 1 + 1 + 2 * s + 1) t ∧ ok_X5_arrivals (nI s) (nI t) M := by
  have v : vp_in (nI s) 6 := pq_vin (by omega) (by omega)
  have v2 : vp_in (nI t) 15 := pq_vin (by omega) (by omega)
  have hh : ok_X2_hasStation 1 (nI s) M := trivial
  have hw : fv_X5_isWithin (nI t) 0 14 M = 1 := a_wi (l := 0) (m := 14) M (by omega) (by omega) (by omega)
  have ho : ok_X5_isWithin (nI t) 0 14 M := trivial
  simp (config := {decide := true}) only [fv_X5_arrivals, ok_X5_arrivals, v, v2, hh, hw, ho, a_hs H1 ha hs, pq_nI (show s < 4000 by omega), pq_nI (show t < 4000 by omega), if_true, if_false, true_implies, not_true_eq_false, not_false_eq_true, false_implies, and_true, true_and]
theorem v_arn {M : ps_M} {a : Nat} {x y : Int32} (H1 : M 1 1 = nI a) (hx : x < 0 ∨ nI a ≤ x) : fv_X5_arrivals x y M = -1 ∧ ok_X5_arrivals x y M := by
  have hh : ok_X2_hasStation 1 x M := trivial
  simp (config := {decide := true}) only [fv_X5_arrivals, ok_X5_arrivals, hh, a_hsn H1 hx, if_true, if_false, true_implies, not_true_eq_false, not_false_eq_true, false_implies, and_true, true_and]
