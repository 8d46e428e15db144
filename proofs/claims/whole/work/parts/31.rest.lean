/-! ===== counting, arrivals, text, the record, newcomers ===== -/
theorem DR_rec {M N : ps_M} {h a b : Nat} (hR : Rel M N) (hx : DR M 1 (N 1) h a b) : DR (fv_X3_remember 1 M) 1 ((fv_X6_records N) 1) h a b := by
  obtain ⟨-, fM, -, fN, -, -, -, -⟩ := Rel_rec hR
  exact DX_frame hx (fun k k1 k2 => fM k (by omega) (by omega)) (fun i _ => by rw [fN])
theorem pq_sgap (r x : Int32) : r + (x - r) = x := by rw [Int32.add_comm, Int32.sub_add_cancel]
theorem S_cnt {P : Prop} {B : Int} {k : Nat} {ad : Prop} {f g r : Nat → Int32} (hk : k ≤ 15) (hp : ad) (h : pq_S P B k ad f g r) {x : Int32} (hx : 0 ≤ x.toInt) (h3 : ¬ (r 11 = 3)) : pq_S P B k ad (upd (upd f 11 x) 12 (f 12 + 1)) g (upd (upd r 10 x) 11 (r 11 + 1)) := by
  obtain ⟨⟨e1, e2, e3, e4, e6, e7, e8, e9, e10, e12⟩, har, hq, hst, hc⟩ := h
  refine ⟨?_, fun t ht => ?_, ?_, ?_, ?_⟩
  · simp [upd, e1, e2, e3, e4, e6, e7, e8, e9, e10, e12]
  · rw [upd, if_neg (by omega), upd, if_neg (by omega)]; exact har t ht
  · rw [upd, if_neg (by omega), upd, if_neg (by omega)]; exact hq
  · rw [pq_sf_upd (by omega) k hk, pq_sf_upd (by omega) k hk]
    have u1 : upd (upd r 10 x) 11 (r 11 + 1) 4 = r 4 := by rw [upd, if_neg (by omega), upd, if_neg (by omega)]
    have u2 : upd (upd f 11 x) 12 (f 12 + 1) 5 = f 5 := by rw [upd, if_neg (by omega), upd, if_neg (by omega)]
    have u3 : upd (upd r 10 x) 11 (r 11 + 1) 0 = r 0 := by rw [upd, if_neg (by omega), upd, if_neg (by omega)]
    rw [u1, u2, u3]; exact hst
  · refine Or.inr ⟨hp, ?_, ?_, ?_⟩
    · simp [upd]
    · simp [upd, hx]
    · have u : upd (upd f 11 x) 12 (f 12 + 1) 12 = f 12 + 1 := by simp [upd]
      rw [u]
      rcases hc with ⟨c1, -⟩ | ⟨-, -, -, c1 | c1 | c1⟩
      · rw [c1]; decide
      · rw [c1]; decide
      · rw [c1]; decide
      · rw [e12] at c1; exact absurd c1 h3
theorem sim_countBox : pl_sim_countBox Rel := by
  intro M N a1 a2 hR
  obtain ⟨h, a, b, hx⟩ := hR.1
  obtain ⟨ok6, hsta⟩ := pq_sta hx a1
  obtain ⟨hR1, fM, -, fN, -, -, o1, o2⟩ := Rel_rec hR
  unfold fv_X5_countBox fv_X6_countBox ok_X5_countBox ok_X6_countBox
  rw [wi_in a2 0 99999 M N]
  rcases hsta with ⟨e1, e2⟩ | ⟨s, hs, rfl, e1, e2⟩
  · simp only [e1, e2, ok6, ok_X2_hasStation, if_true, true_implies, not_true_eq_false, false_implies, and_true, true_and]
    exact hR
  obtain ⟨hs6, hS⟩ := t_S hx hs
  rcases in_01 a2 0 99999 N with e3 | e3
  · simp only [e1, e2, e3, ok6, ok_X2_hasStation, ok_X6_in, ok_X5_isWithin, pq_10, if_true, if_false, true_implies, not_true_eq_false, not_false_eq_true, false_implies, and_true, true_and]
    exact hR
  have hb := in_b e3
  have e4 := hS.1.1
  have e5 : M (1 + 1 + 1 + 2 * s) 12 = pq_sv (N 1) s 11 := hS.1.2.2.2.2.2.2.2.2.2
  have v1 : vp_in (nI s) 6 := pq_vin hs6 (by omega)
  have v2 : vp_in (0 : Int32) 237 := pq_vin (n := 0) (by omega) (by omega)
  have e6 : N 1 0 = M 1 0 := by rw [hx.1.1, hx.2.1.1]
  have e7 : (pq_sv (N 1) s 11 = 3) = ¬ (pq_sv (N 1) s 11 < 3) := by
    have hc := hS.2.2.2.2
    rw [e5] at hc
    apply propext
    rcases hc with ⟨c1, -⟩ | ⟨-, -, -, c1 | c1 | c1⟩ <;> rw [c1] <;> decide
  simp only [e1, e2, e3, ok6, ok_X2_hasStation, ok_X6_in, ok_X5_isWithin, pq_c0, pq_10, pq_nI (show s < 4000 by omega), e4, e5, e6, e7, pp_of hs6, pp_ofk hs6, pp_adk hs6, ok_X5_countBox_95, fv_X5_countBox_95, v1, v2, o1, o2, if_true, if_false, true_implies, not_true_eq_false, not_false_eq_true, false_implies, and_true, true_and, implies_true]
  by_cases q0 : M 1 0 < 15
  · rw [if_pos q0, if_pos q0]; exact ⟨rfl, hR⟩
  rw [if_neg q0, if_neg q0]
  by_cases q1 : pq_sv (N 1) s 0 ≤ 0
  · rw [if_pos q1, if_pos q1]
    by_cases q2 : pq_sv (N 1) s 11 < 3
    · rw [if_pos q2, if_neg (fun z => z q2)]
      have hx1 := DR_rec hR hx
      have hS1 := (t_S hx1 hs).2
      rw [fN] at hS1
      have u1 : fv_X6_adds (nI s) 10 (a2 - pq_sv (fv_X6_records N 1) s 10) (fv_X6_records N) = ps_st (fv_X6_records N) 1 (3 + 27 * s + 10) a2 := by
        have := pq_adds (s := s) (j := 10) hs6 (by omega) (a2 - pq_sv (fv_X6_records N 1) s 10) (fv_X6_records N)
        rw [pq_sgap] at this; exact this
      have u2 : ∀ N', fv_X6_adds (nI s) 11 1 N' = ps_st N' 1 (3 + 27 * s + 11) (pq_sv (N' 1) s 11 + 1) := fun N' => pq_adds (s := s) (j := 11) hs6 (by omega) 1 N'
      have u3 : pq_sv (ps_st (fv_X6_records N) 1 (3 + 27 * s + 10) a2 1) s 11 = pq_sv (N 1) s 11 := by
        rw [pq_svset (by omega), if_neg (by omega), fN]
      have u4 : (ps_st (fv_X3_remember 1 M) (1 + 1 + 1 + 2 * s) 11 a2) (1 + 1 + 1 + 2 * s) 12 = (fv_X3_remember 1 M) (1 + 1 + 1 + 2 * s) 12 := pq_stne (Or.inr (by omega))
      have g0 : ((0 : Int32)).toInt = 0 := by decide
      have hn := S_cnt (by omega) hs hS1 (x := a2) (by omega) (fun z => absurd z (by rw [e7]; exact fun z => z q2))
      rw [u1, u2, u3, u4]
      have hd : DR (ps_st (ps_st (fv_X3_remember 1 M) (1 + 1 + 1 + 2 * s) 11 a2) (1 + 1 + 1 + 2 * s) 12 ((fv_X3_remember 1 M) (1 + 1 + 1 + 2 * s) 12 + 1)) 1 (ps_st (ps_st (fv_X6_records N) 1 (3 + 27 * s + 10) a2) 1 (3 + 27 * s + 11) (pq_sv (N 1) s 11 + 1) 1) h a b := by
        refine DX_st hx1 hs6 (fun k k1 k2 => by rw [ps_st_ne k1, ps_st_ne k1]) (fun i hi => by rw [pq_stne (Or.inr (by omega)), pq_stne (Or.inr (by omega))]) (fun s' _ _ f g r h => h) ?_
        rw [ps_st_self, ps_st_self, ps_st_ne (by omega), ps_st_ne (by omega), pq_svupd (by omega), pq_svupd (by omega), fN]
        exact hn
      refine ⟨?_, Rel_day hR1 (fun i hi => (ps_st_ne (by omega)).trans (ps_st_ne (by omega))) (fun i hi => (ps_st_ne hi).trans (ps_st_ne hi)) hd⟩
      rw [pq_stself, pq_svset (by omega), if_pos ⟨rfl, rfl⟩, fM _ (by omega) (by omega), e5]
    · rw [if_neg q2, if_pos q2]; exact ⟨rfl, hR⟩
  · rw [if_neg q1, if_neg q1]; exact ⟨rfl, hR⟩
theorem S_arr {B : Int} {k : Nat} {ad : Prop} {f g r : Nat → Int32} (h : pq_S True B k ad f g r) {t : Nat} (ht : t < 15) {v : Int32} (h0 : 0 ≤ v.toInt) (h1 : v.toInt ≤ 500) : pq_S True B k ad f (upd g t v) (upd r (12 + t) v) := by
  obtain ⟨⟨e1, e2, e3, e4, e6, e7, e8, e9, e10, e12⟩, har, hq, hst, hc⟩ := h
  have u : ∀ j, j < 12 → upd r (12 + t) v j = r j := fun j hj => by rw [upd, if_neg (by omega)]
  refine ⟨?_, fun t' ht' => ?_, ?_, ⟨fun _ => ?_, fun q => absurd trivial q⟩, ?_⟩
  · rw [u 0 (by omega), u 1 (by omega), u 2 (by omega), u 3 (by omega), u 5 (by omega), u 6 (by omega), u 7 (by omega), u 8 (by omega), u 9 (by omega), u 11 (by omega)]
    exact ⟨e1, e2, e3, e4, e6, e7, e8, e9, e10, e12⟩
  · by_cases q : t' = t
    · subst q; simp [upd, h0, h1]
    · rw [upd, if_neg q, upd, if_neg (by omega)]; exact har t' ht'
  · rw [u 0 (by omega)]; exact hq
  · rw [u 4 (by omega)]; exact hst.1 trivial
  · rw [u 10 (by omega)]; exact hc
theorem hour_in {M N : ps_M} {h a b : Nat} {S : Nat → (Nat → Int32) → (Nat → Int32) → (Nat → Int32) → Prop} {K : Nat → (Nat → Int32) → (Nat → Int32) → Prop} (hx : DX M 1 (N 1) h a b S K) (x : Int32) : fv_X5_isHourToCome x M = fv_X6_in x (N 1 0) 14 N := by
  have h18 := hx.2.2.1.1
  unfold fv_X5_isHourToCome fv_X5_isWithin fv_X6_in
  rw [hx.1.1, hx.2.1.1]
  by_cases q : x < nI h
  · rw [if_pos q, if_pos q]
  · rw [if_neg q, if_neg q]
    have g : ¬ x < 0 := by
      rw [pq_lt, pq_nT (by omega)] at q
      rw [pq_lt, Int32.toInt_zero]; omega
    rw [if_neg g]
    by_cases q2 : 14 < x
    · rw [if_pos q2, if_pos rfl]
    · rw [if_neg q2, if_neg (by decide)]
theorem sim_setArrivals : pl_sim_setArrivals Rel := by
  intro M N a1 a2 a3 hR
  obtain ⟨h, a, b, hx⟩ := hR.1
  obtain ⟨ok6, hsta⟩ := pq_sta hx a1
  obtain ⟨hR1, fM, -, fN, -, -, o1, o2⟩ := Rel_rec hR
  have v2 : vp_in (0 : Int32) 237 := pq_vin (n := 0) (by omega) (by omega)
  have o3 : ok_X5_isHourToCome a2 M := ⟨fun _ => trivial, fun _ => ⟨trivial, trivial⟩⟩
  unfold fv_X5_setArrivals fv_X6_setArrivals ok_X5_setArrivals ok_X6_setArrivals
  rw [wi_in a3 0 500 M N, hour_in hx a2, pq_c0]
  rcases hsta with ⟨e1, e2⟩ | ⟨s, hs, rfl, e1, e2⟩
  · simp only [e1, e2, ok6, ok_X2_hasStation, if_true, true_implies, not_true_eq_false, false_implies, and_true, true_and]
    exact hR
  obtain ⟨hs6, hS⟩ := t_S hx hs
  rcases in_01 a2 (N 1 0) 14 N with e3 | e3
  · simp only [e1, e2, e3, o3, v2, ok6, ok_X2_hasStation, ok_X6_in, ok_X5_isWithin, pq_10, if_true, if_false, true_implies, not_true_eq_false, not_false_eq_true, false_implies, and_true, true_and]
    exact hR
  rcases in_01 a3 0 500 N with e4 | e4
  · simp only [e1, e2, e3, e4, o3, v2, ok6, ok_X2_hasStation, ok_X6_in, ok_X5_isWithin, pq_10, if_true, if_false, true_implies, not_true_eq_false, not_false_eq_true, false_implies, and_true, true_and]
    exact hR
  have hb := in_b e4
  have g0 : ((0 : Int32)).toInt = 0 := by decide
  have g5 : ((500 : Int32)).toInt = 500 := by decide
  obtain ⟨t, ht, et⟩ := in_nat (n := 14) e3 (by rw [hx.2.1.1, pq_nT (by have := hx.2.2.1.1; omega)]; omega) (by decide) (by omega)
  subst et
  have v1 : vp_in (nI s) 6 := pq_vin hs6 (by omega)
  have v3 : vp_in (nI t) 15 := pq_vin (by omega) (by omega)
  have e5 := (hS.2.1 t (by omega)).1
  have e6 := pq_of hs6 (show 12 + t < 27 by omega)
  have o6 := pq_ofok hs6 (show 12 + t < 27 by omega)
  have o7 := pq_addsok hs6 (show 12 + t < 27 by omega)
  have e7 : fv_X6_adds (nI s) (nI (12 + t)) (a3 - pq_sv (N 1) s (12 + t)) (fv_X6_records N) = ps_st (fv_X6_records N) 1 (3 + 27 * s + (12 + t)) a3 := by
    rw [pq_adds hs6 (by omega), fN, pq_sgap]
  simp only [e1, e2, e3, e4, e5, e6, e7, o6, o7, o3, v1, v2, v3, o1, o2, ok6, ok_X2_hasStation, ok_X6_in, ok_X5_isWithin, pq_10, pq_12x, pq_nI (show s < 4000 by omega), pq_nI (show t < 4000 by omega), if_true, if_false, true_implies, not_true_eq_false, not_false_eq_true, false_implies, and_true, true_and, implies_true]
  by_cases q : pq_sv (N 1) s (12 + t) = a3
  · rw [if_pos q, if_pos q]; exact ⟨rfl, hR⟩
  · rw [if_neg q, if_neg q]
    have hx1 := DR_rec hR hx
    exact ⟨rfl, Rel_day hR1 (fun i hi => ps_st_ne (by omega)) (fun i hi => ps_st_ne hi) (DX_setA hx1 hs6 (by omega) (S_arr (t_S hx1 hs).2 (by omega) (by omega) (by omega)))⟩
