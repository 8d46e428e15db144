/-! ===== hours pass ===== -/
def HD (P : Nat → Prop) (M : ps_M) (d : Nat) (q : Nat → Int32) (h a b : Nat) : Prop := DX M d q h a b (fun s => pq_S (P s) (pq_B h) (15 - h) (s < a)) (fun c => pq_K a h 0 (c < b))
theorem h_first {P : Nat → Prop} {M N : ps_M} {d h a b : Nat} (hx : HD P M d (N 1) h a b) : ∃ N' : ps_M, ok_X2_letArrive d M ∧ fv_X6_hourPasses N = fv_X6_hourPasses_49 N' ∧ (ok_X6_hourPasses_49 N' → ok_X6_hourPasses N) ∧ FR d M N (fv_X2_letArrive d M) N' ∧ DX (fv_X2_letArrive d M) d (N' 1) h a b (fun s => pq_S (P s) (pq_B (h + 1)) (15 - (h + 1)) (s < a)) (fun c => pq_K a h 0 (c < b)) := by
  have h18 := hx.2.2.1.1
  have ha := hx.2.2.1.2.1
  have c15 : (nI h < (15 : Int32)) ↔ h < 15 := by
    rw [show (15 : Int32) = nI 15 from rfl, pq_lt, pq_nT (by omega), pq_nT (by omega)]; omega
  unfold fv_X2_letArrive ok_X2_letArrive
  rw [hx.1.1]
  by_cases q : h < 15
  · have q' := c15.mpr q
    have hx0 : DX M d (N 1) h a b (fun s => if s < 0 then pq_S (P s) (pq_B (h + 1)) (15 - (h + 1)) (s < a) else pq_S (P s) (pq_B h) (15 - h) (s < a)) (fun c => pq_K a h 0 (c < b)) := DX_mono hx (fun s _ f g r hs => by rw [if_neg (by omega)]; exact hs) (fun c _ f r hc => hc)
    obtain ⟨M', N', i1, i2, i3, i4, i5, i6⟩ := h_arrive q a 0 ps_FU ps_FU M N (by omega) (pq_fu (by omega)) (pq_fu (by omega)) hx0
    have i1' : fv_X2_letArrive_12 ps_FU d 0 M = M' := i1
    rw [if_pos q', i1']
    exact ⟨N', ⟨fun _ => i2, fun _ => trivial⟩, i3, i4, i5, i6⟩
  · have q' : ¬ (nI h < (15 : Int32)) := fun z => q (c15.mp z)
    have w0 : vp_in (0 : Int32) 237 := pq_vin (n := 0) (by omega) (by omega)
    have w1 : vp_in (1 : Int32) 237 := pq_vin (n := 1) (by omega) (by omega)
    have q2 : (15 : Int32) ≤ nI h := by
      rw [show (15 : Int32) = nI 15 from rfl, pq_le, pq_nT (by omega), pq_nT (by omega)]; omega
    rw [if_neg q']
    refine ⟨N, ⟨fun z => absurd z q', fun _ => trivial⟩, ?_, ?_, FR_refl d M N, DX_mono hx (fun s _ f g r hs => S_later hs) (fun c _ f r hc => hc)⟩
    · show fv_X6_hourPasses_2 (1023 + 1) 0 N = _
      rw [fv_X6_hourPasses_2_s, pq_c0, hx.2.1.1, if_pos q2]
      split <;> rfl
    · intro o
      show ok_X6_hourPasses_2 (1023 + 1) 0 N
      rw [ok_X6_hourPasses_2_s, pq_c0, hx.2.1.1]
      exact ⟨w1, fun _ => o, fun _ => ⟨w0, fun _ => o, fun z => absurd q2 z⟩⟩
theorem h_hour {P : Nat → Prop} {M N : ps_M} {d h a b : Nat} (hh : h < 18) (hx : HD P M d (N 1) h a b) : ∃ (v : Int32) (M1 M' N' : ps_M), fv_X2_serveQueues d (fv_X2_changeClerks d (fv_X2_letArrive d M)) = (v, M1) ∧ ps_st (fv_X2_endHourOfClerks d M1) d 0 ((fv_X2_endHourOfClerks d M1) d 0 + 1) = M' ∧ fv_X6_hourPasses N = (v, N') ∧ (ok_X2_letArrive d M ∧ ok_X2_changeClerks d (fv_X2_letArrive d M) ∧ ok_X2_serveQueues d (fv_X2_changeClerks d (fv_X2_letArrive d M)) ∧ ok_X2_endHourOfClerks d M1) ∧ ok_X6_hourPasses N ∧ FR d M N M' N' ∧ HD P M' d (N' 1) (h + 1) a b := by
  have ha := hx.2.2.1.2.1
  have hb := hx.2.2.1.2.2
  obtain ⟨N1, a1, a2, a3, a4, a5⟩ := h_first hx
  have x0 : DX (fv_X2_letArrive d M) d (N1 1) h a b (fun s => pq_S (P s) (pq_B (h + 1)) (15 - (h + 1)) (s < a)) (fun c => pq_K a h (if c < 0 then 1 else 0) (c < b)) := DX_mono a5 (fun s _ f g r hs => hs) (fun c _ f r hc => by rw [if_neg (by omega)]; exact hc)
  obtain ⟨b1, b2, b3, b4⟩ := h_turn b 0 ps_FU ps_FU _ _ (by omega) (pq_fu (by omega)) (pq_fu (by omega)) x0
  have hB := pB_pos (h + 1)
  obtain ⟨v, M1, N2, c1, c2, c3, c4, c5, c6⟩ := h_serve (kk := 15 - (h + 1)) (by omega) hB.2 a 0 ps_FU ps_FU 0 _ _ (by omega) (pq_fu (by omega)) (pq_fu (by omega)) b4
  have x2 : DX M1 d (N2 1) h a b (fun s => pq_S (P s) (pq_B (h + 1)) (15 - (h + 1)) (s < a)) (fun c => if c < 0 then pq_K a (h + 1) 0 (c < b) else pq_K a h 1 (c < b)) := DX_mono c6 (fun s _ f g r hs => hs) (fun c _ f r hc => by rw [if_neg (by omega)]; exact hc)
  obtain ⟨M2, N3, d1, d2, d3, d4, d5, d6⟩ := h_end b 0 ps_FU ps_FU v _ _ (by omega) (pq_fu (by omega)) (pq_fu (by omega)) x2
  have d1' : fv_X2_endHourOfClerks d M1 = M2 := d1
  have e0 : M2 d 0 = nI h := d6.1.1
  have e1 : N3 1 0 = nI h := d6.2.1.1
  refine ⟨v, M1, ps_st M2 d 0 (M2 d 0 + 1), ps_st N3 1 0 (N3 1 0 + 1), c1, by rw [d1'], ?_, ⟨a1, b1, c2, d2⟩, a3 ⟨b2, c4 d4⟩, ?_, ?_⟩
  · rw [a2]
    show fv_X6_hourPasses_57 ps_FU 0 (nI 0) (fv_X6_takesTurns_2 ps_FU (nI 0) N1) = _
    rw [c3]
    exact d3
  · refine FR_trans a4 (FR_trans b3 (FR_trans c5 (FR_trans d5 ⟨fun k hk => ps_st_ne (by omega), fun k hk => ps_st_ne hk⟩)))
  · rw [e0, e1, pq_nIadd1]
    refine DX_hd d6 ⟨pq_stself, ?_, ?_⟩ ⟨pq_stself, ?_, ?_⟩ ⟨by omega, ha, hb⟩ (fun k hk => ps_st_ne hk) (fun i hi => pq_stne (Or.inr (by omega))) (fun s _ f g r hs => hs) (fun c _ f r hc => hc)
    · rw [pq_stne (Or.inr (by omega))]; exact d6.1.2.1
    · rw [pq_stne (Or.inr (by omega))]; exact d6.1.2.2
    · rw [pq_stne (Or.inr (by omega))]; exact d6.2.1.2.1
    · rw [pq_stne (Or.inr (by omega))]; exact d6.2.1.2.2
theorem h_hours {P : Nat → Prop} {d a b t : Nat} (ht : t < 4000) : ∀ (k i n1 n2 h : Nat) (acc : Int32) (M N : ps_M), i + k = t → k < n1 → k < n2 → h + k ≤ 18 → HD P M d (N 1) h a b → ∃ (v : Int32) (M' N' : ps_M), fv_X2_letHoursPass_4 n1 d (nI t) acc (nI i) M = (v, M') ∧ fv_X6_hoursPass_4 n2 (nI t) acc (nI i) N = (v, N') ∧ ok_X2_letHoursPass_4 n1 d (nI t) acc (nI i) M ∧ ok_X6_hoursPass_4 n2 (nI t) acc (nI i) N ∧ FR d M N M' N' ∧ HD P M' d (N' 1) (h + k) a b := by
  intro k
  induction k with
  | zero =>
    intro i n1 n2 h acc M N h1 h2 h3 h4 hx
    cases n1 with
    | zero => omega
    | succ n1 =>
      cases n2 with
      | zero => omega
      | succ n2 =>
        rw [fv_X2_letHoursPass_4_s, ok_X2_letHoursPass_4_s, fv_X6_hoursPass_4_s, ok_X6_hoursPass_4_s]
        simp only [pq_leT (show ¬ i < t by omega) (by omega) (by omega), if_true, true_implies, not_true_eq_false, false_implies, and_true, true_and]
        exact ⟨acc, M, N, rfl, rfl, FR_refl d M N, hx⟩
  | succ k ih =>
    intro i n1 n2 h acc M N h1 h2 h3 h4 hx
    cases n1 with
    | zero => omega
    | succ n1 =>
      cases n2 with
      | zero => omega
      | succ n2 =>
        obtain ⟨v, M1, M2, N2, e1, e2, e3, ⟨e4, e5, e6, e7⟩, e8, e9, e10⟩ := h_hour (by omega) hx
        obtain ⟨v', M', N', i1, i2, i3, i4, i5, i6⟩ := ih (i + 1) n1 n2 (h + 1) (acc + v) M2 N2 (by omega) (by omega) (by omega) (by omega) e10
        rw [fv_X2_letHoursPass_4_s, ok_X2_letHoursPass_4_s, fv_X6_hoursPass_4_s, ok_X6_hoursPass_4_s]
        simp only [pq_leF (show i < t by omega) ht, e1, e2, e3, e4, e5, e6, e7, e8, fv_X2_letHoursPass_38, ok_X2_letHoursPass_38, pq_nIadd1, i1, i2, i3, i4, if_false, false_implies, not_false_eq_true, true_implies, true_and, and_true]
        refine ⟨v', M', N', rfl, rfl, FR_trans e9 i5, ?_⟩
        rw [show h + (k + 1) = h + 1 + k by omega]
        exact i6
theorem h_pass {P : Nat → Prop} {d h a b t : Nat} {M N : ps_M} (ht : h + t ≤ 18) (hx : HD P M d (N 1) h a b) : ∃ (v : Int32) (M' N' : ps_M), fv_X2_letHoursPass d (nI t) M = (v, M') ∧ fv_X6_hoursPass (nI t) N = (v, N') ∧ ok_X2_letHoursPass d (nI t) M ∧ ok_X6_hoursPass (nI t) N ∧ FR d M N M' N' ∧ HD P M' d (N' 1) (h + t) a b :=
  h_hours (by omega) t 0 ps_FU ps_FU h 0 M N (by omega) (pq_fu (by omega)) (pq_fu (by omega)) ht hx
theorem pq_le18 {h t : Nat} (hh : h ≤ 18) (ht : t ≤ 18) : (nI h + nI t ≤ (18 : Int32)) = (h + t ≤ 18) := by
  rw [nI_add, show (18 : Int32) = nI 18 from rfl, pq_le, pq_nT (by omega), pq_nT (by omega)]
  apply propext; omega
theorem sim_pass : pl_sim_pass Rel := by
  intro M N a1 hR
  obtain ⟨h, a, b, hx⟩ := hR.1
  have h18 := hx.2.2.1.1
  obtain ⟨hR1, fM, -, fN, -, -, o1, o2⟩ := Rel_rec hR
  have v0 : vp_in (0 : Int32) 237 := pq_vin (n := 0) (by omega) (by omega)
  unfold fv_X5_pass fv_X6_pass ok_X5_pass ok_X6_pass
  rw [wi_in a1 1 18 M N, pq_c0, hx.1.1, hx.2.1.1]
  rcases in_01 a1 1 18 N with e3 | e3
  · simp only [e3, ok_X6_in, ok_X5_isWithin, if_true, true_implies, not_true_eq_false, false_implies, and_true, true_and]
    exact hR
  obtain ⟨t, ht, et⟩ := in_nat (n := 18) e3 (by decide) (by decide) (by omega)
  subst et
  by_cases q : h + t ≤ 18
  · obtain ⟨v, M', N', i1, i2, i3, i4, i5, i6⟩ := h_pass (P := fun _ => True) (t := t) q (DR_rec hR hx)
    simp only [e3, pq_le18 h18 ht, q, i1, i2, i3, i4, o1, o2, v0, ok_X6_in, ok_X5_isWithin, pq_10, if_true, if_false, true_implies, not_true_eq_false, not_false_eq_true, false_implies, and_true, true_and]
    exact Rel_day hR1 (fun i hi => i5.1 i (by omega)) (fun i hi => i5.2 i hi) i6
  · simp only [e3, pq_le18 h18 ht, q, v0, ok_X6_in, ok_X5_isWithin, pq_10, if_true, if_false, true_implies, not_true_eq_false, not_false_eq_true, false_implies, and_true, true_and]
    exact hR
/-- a trial: the forecast and the trial row, and the row laid back -/
theorem trial_start {M N : ps_M} {h a b : Nat} (hx : DR M 1 (N 1) h a b) : ok_X2_copyFrom 28 1 M ∧ ok_X6_copies 1 0 4 0 N ∧ (∀ k, k < 28 ∨ 55 ≤ k → fv_X2_copyFrom 28 1 M k = M k) ∧ DR (fv_X2_copyFrom 28 1 M) 28 (fv_X6_copies 1 0 4 0 N 1) h a b ∧ (∀ i, i < 237 → fv_X6_copies 1 0 4 0 N 4 i = N 1 i) ∧ (∀ k, k ≠ 4 → fv_X6_copies 1 0 4 0 N k = N k) := by
  obtain ⟨w1, w2⟩ := cp_day (M := M) (d := 28) (e := 1) (by omega)
  obtain ⟨y1, y2, y3⟩ := mo_copies (N := N) (k0 := 1) (k2 := 4) (p := 0) (r := 0) (by omega) (by unfold pm_ln; simp) (by unfold pm_ln; simp) (by unfold pm_ln; simp)
  rw [show nI 0 = (0 : Int32) from rfl] at y1 y2 y3
  refine ⟨w2, y3, fun k hk => w1.1 k (by omega), ?_, fun i hi => ?_, y1⟩
  · rw [y1 1 (by omega)]; exact DR_copy w1 hx
  · rw [y2 i, if_pos (by omega), show 0 + (i - 0) = i by omega]
theorem trial_end {M N M' N' : ps_M} (hR : Rel M N) (hM : ∀ k, k < 28 ∨ 55 ≤ k → M' k = M k) (hN4 : ∀ i, i < 237 → N' 4 i = N 1 i) (hN : ∀ k, k ≠ 1 → k ≠ 4 → N' k = N k) : Rel M' (fv_X6_copies 4 0 1 0 N') ∧ ok_X6_copies 4 0 1 0 N' := by
  obtain ⟨y1, y2, y3⟩ := mo_copies (N := N') (k0 := 4) (k2 := 1) (p := 0) (r := 0) (by omega) (by unfold pm_ln; simp) (by unfold pm_ln; simp) (by unfold pm_ln; simp)
  rw [show nI 0 = (0 : Int32) from rfl] at y1 y2 y3
  refine ⟨?_, y3⟩
  refine Rel_now hR (fun i => ?_) (fun i => ?_) (DE_frame hR.1 (fun k k1 k2 => hM k (by omega)) (fun i hi => ?_))
  · by_cases q : 28 ≤ i ∧ i < 55
    · exact Or.inl (Or.inl q)
    · exact Or.inr (hM i (by omega))
  · by_cases q : i = 1
    · exact Or.inl q
    · by_cases q2 : i = 4
      · exact Or.inr (Or.inl q2)
      · exact Or.inr (Or.inr (Or.inr (Or.inr ((y1 i q).trans (hN i q q2)))))
  · rw [y2 i, if_pos (by omega), show 0 + (i - 0) = i by omega]
    exact hN4 i hi
theorem sim_queueIn : pl_sim_queueIn Rel := by
  intro M N a1 a2 hR
  obtain ⟨h, a, b, hx⟩ := hR.1
  have h18 := hx.2.2.1.1
  obtain ⟨ok6, hsta⟩ := pq_sta hx a1
  have v0 : vp_in (0 : Int32) 237 := pq_vin (n := 0) (by omega) (by omega)
  unfold fv_X5_queueIn fv_X6_queueIn ok_X5_queueIn ok_X6_queueIn
  rw [wi_in a2 0 18 M N, pq_c0, hx.1.1, hx.2.1.1]
  rcases hsta with ⟨e1, e2⟩ | ⟨s, hs, rfl, e1, e2⟩
  · simp only [e1, e2, ok6, ok_X2_hasStation, if_true, true_implies, not_true_eq_false, false_implies, and_true, true_and]
    exact hR
  have hs6 := (t_S hx hs).1
  rcases in_01 a2 0 18 N with e3 | e3
  · simp only [e1, e2, e3, ok6, ok_X2_hasStation, ok_X6_in, ok_X5_isWithin, pq_10, if_true, if_false, true_implies, not_true_eq_false, not_false_eq_true, false_implies, and_true, true_and]
    exact hR
  obtain ⟨t, ht, et⟩ := in_nat (n := 18) e3 (by decide) (by decide) (by omega)
  subst et
  by_cases q : h + t ≤ 18
  · obtain ⟨g1, g2, g3, g4, g5, g6⟩ := trial_start hx
    obtain ⟨v, M', N', i1, i2, i3, i4, i5, i6⟩ := h_pass (P := fun _ => True) (t := t) q g4
    obtain ⟨j1, j2⟩ := trial_end hR (M' := M') (N' := N') (fun k hk => (i5.1 k hk).trans (g3 k hk)) (fun i hi => by rw [i5.2 4 (by omega)]; exact g5 i hi) (fun k k1 k2 => (i5.2 k k1).trans (g6 k k2))
    have v1 : vp_in (nI s) 6 := pq_vin hs6 (by omega)
    have er : M' (28 + 1 + 1 + 2 * s) 1 = pq_sv (N' 1) s 0 := (t_S i6 hs).2.1.1
    simp only [e1, e2, e3, pq_le18 h18 ht, q, i1, i2, i3, i4, g1, g2, j2, v0, v1, er, ok6, ok_X2_hasStation, ok_X6_in, ok_X5_isWithin, pp_of hs6, pp_ofk hs6, pq_nI (show s < 4000 by omega), pq_10, if_true, if_false, true_implies, not_true_eq_false, not_false_eq_true, false_implies, and_true, true_and]
    exact j1
  · simp only [e1, e2, e3, pq_le18 h18 ht, q, v0, ok6, ok_X2_hasStation, ok_X6_in, ok_X5_isWithin, pq_10, if_true, if_false, true_implies, not_true_eq_false, not_false_eq_true, false_implies, and_true, true_and]
    exact hR
