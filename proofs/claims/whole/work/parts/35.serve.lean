/-! ===== an hour: service, and the end of the hour ===== -/
theorem sV_key {f r : Nat → Int32} {x : Int32} (e1 : f 1 = r 0) (hq : 0 ≤ (r 0).toInt) (hx : 0 ≤ x.toInt) (hfr : (f 5 = r 4 ∧ 0 ≤ (r 4).toInt) ∨ ((r 0).toInt ≤ (f 5).toInt ∧ (r 0).toInt ≤ (r 4).toInt)) : sVf f x = sVr r x ∧ 0 ≤ (sVr r x).toInt ∧ (sVr r x).toInt ≤ (r 0).toInt ∧ (sVr r x).toInt ≤ (r 4).toInt := by
  unfold sVf sVr
  rw [e1]
  have hfr' : ((f 5).toInt = (r 4).toInt ∧ 0 ≤ (r 4).toInt) ∨ ((r 0).toInt ≤ (f 5).toInt ∧ (r 0).toInt ≤ (r 4).toInt) := by
    rcases hfr with ⟨h1, h2⟩ | h1
    · exact Or.inl ⟨by rw [h1], h2⟩
    · exact Or.inr h1
  by_cases p1 : f 5 < x <;> by_cases p2 : r 0 ≤ x <;> by_cases p3 : r 0 ≤ r 4 <;> by_cases p4 : x ≤ r 4 <;> by_cases p5 : f 5 < r 0 <;> by_cases p6 : x < r 0 <;> simp only [p1, p2, p3, p4, p5, p6, if_true, if_false] <;> rw [pq_lt] at p1 p5 p6 <;> rw [pq_le] at p2 p3 p4 <;> first | exact ⟨pq_eq.mpr (by omega), by omega, by omega, by omega⟩ | exact ⟨trivial, by omega, by omega, by omega⟩
theorem S_serve {P : Prop} {B : Int} {k : Nat} {ad : Prop} {f g r : Nat → Int32} (hk : k ≤ 15) (hB : B ≤ 7500) (hS : pq_S P B k ad f g r) {x : Int32} (hx : 0 ≤ x.toInt) : sVf f x = sVr r x ∧ pq_S P B k ad (sF (sVf f x) f) g (sR (sVr r x) r) := by
  obtain ⟨⟨e1, e2, e3, e4, e6, e7, e8, e9, e10, e12⟩, har, hq, hst, hc⟩ := hS
  have hsf := pq_sf_pos har k hk
  obtain ⟨k1, k2, k3, k4⟩ := sV_key (f := f) (r := r) (x := x) e1 hq.1 hx (by
    by_cases p : P
    · exact Or.inl ⟨(hst.1 p).1, (hst.1 p).2.1⟩
    · have := hst.2 p
      exact Or.inr ⟨by omega, by omega⟩)
  refine ⟨k1, ?_⟩
  rw [k1]
  generalize sVr r x = v at k2 k3 k4
  have ew : (r 0 + -v).toInt = (r 0).toInt - v.toInt := by rw [← Int32.sub_eq_add_neg]; exact pq_sub (by omega) (by omega)
  have esf : pq_sf (sR v r) k = pq_sf r k := by
    unfold sR
    rw [pq_sf_upd (by omega) k hk, pq_sf_upd (by omega) k hk, pq_sf_upd (by omega) k hk, pq_sf_upd (by omega) k hk, pq_sf_upd (by omega) k hk, pq_sf_upd (by omega) k hk, pq_sf_upd (by omega) k hk]
  have eta : ∀ t, sR v r (12 + t) = r (12 + t) := fun t => by
    unfold sR
    rw [upd, if_neg (by omega), upd, if_neg (by omega), upd, if_neg (by omega), upd, if_neg (by omega), upd, if_neg (by omega), upd, if_neg (by omega), upd, if_neg (by omega)]
  have r0 : sR v r 0 = r 0 + -v := by simp (config := {decide := true}) only [sR, upd, if_true, if_false]
  have r1 : sR v r 1 = if r 0 + -v ≤ r 1 then r 1 + 0 else r 1 + ((r 0 + -v) - r 1) := by simp (config := {decide := true}) only [sR, upd, if_true, if_false]
  have r2 : sR v r 2 = r 2 + v := by simp (config := {decide := true}) only [sR, upd, if_true, if_false]
  have r3 : sR v r 3 = r 3 + (r 0 + -v) := by simp (config := {decide := true}) only [sR, upd, if_true, if_false]
  have r4 : sR v r 4 = r 4 + -v := by simp (config := {decide := true}) only [sR, upd, if_true, if_false]
  have r5 : sR v r 5 = r 5 + v := by simp (config := {decide := true}) only [sR, upd, if_true, if_false]
  have r6 : sR v r 6 = r 6 := by simp (config := {decide := true}) only [sR, upd, if_true, if_false]
  have r7 : sR v r 7 = r 7 := by simp (config := {decide := true}) only [sR, upd, if_true, if_false]
  have r8 : sR v r 8 = r 8 := by simp (config := {decide := true}) only [sR, upd, if_true, if_false]
  have r9 : sR v r 9 = r 9 + v := by simp (config := {decide := true}) only [sR, upd, if_true, if_false]
  have r10 : sR v r 10 = r 10 := by simp (config := {decide := true}) only [sR, upd, if_true, if_false]
  have r11 : sR v r 11 = r 11 := by simp (config := {decide := true}) only [sR, upd, if_true, if_false]
  have f1 : sF v f 1 = f 1 - v := by simp (config := {decide := true}) only [sF, upd, if_true, if_false]
  have f2 : sF v f 2 = if f 2 < f 1 - v then f 1 - v else f 2 := by simp (config := {decide := true}) only [sF, upd, if_true, if_false]
  have f3 : sF v f 3 = f 3 + v := by simp (config := {decide := true}) only [sF, upd, if_true, if_false]
  have f4 : sF v f 4 = f 4 + (f 1 - v) := by simp (config := {decide := true}) only [sF, upd, if_true, if_false]
  have f5 : sF v f 5 = f 5 - v := by simp (config := {decide := true}) only [sF, upd, if_true, if_false]
  have f6 : sF v f 6 = f 6 + v := by simp (config := {decide := true}) only [sF, upd, if_true, if_false]
  have f7 : sF v f 7 = f 7 := by simp (config := {decide := true}) only [sF, upd, if_true, if_false]
  have f8 : sF v f 8 = f 8 := by simp (config := {decide := true}) only [sF, upd, if_true, if_false]
  have f9 : sF v f 9 = f 9 := by simp (config := {decide := true}) only [sF, upd, if_true, if_false]
  have f10 : sF v f 10 = f 10 + v := by simp (config := {decide := true}) only [sF, upd, if_true, if_false]
  have f11 : sF v f 11 = f 11 := by simp (config := {decide := true}) only [sF, upd, if_true, if_false]
  have f12 : sF v f 12 = f 12 := by simp (config := {decide := true}) only [sF, upd, if_true, if_false]
  refine ⟨?_, fun t ht => ?_, ?_, ⟨fun p => ?_, fun np => ?_⟩, ?_⟩
  · rw [r0, r1, r2, r3, r5, r6, r7, r8, r9, r11, f1, f2, f3, f4, f6, f7, f8, f9, f10, f12, e1, e2, e3, e4, e6, e7, e8, e9, e10, e12, Int32.sub_eq_add_neg]
    refine ⟨rfl, ?_, rfl, rfl, rfl, rfl, rfl, rfl, rfl, rfl⟩
    by_cases q : r 0 + -v ≤ r 1
    · rw [if_pos q, if_neg (by rw [pq_le] at q; rw [pq_lt]; omega), Int32.add_zero]
    · rw [if_neg q, if_pos (by rw [pq_le] at q; rw [pq_lt]; omega), pq_sgap]
  · rw [eta t]; exact har t ht
  · rw [r0, ew]; omega
  · obtain ⟨p1, p2, p3⟩ := hst.1 p
    have e4' : (r 4 + -v).toInt = (r 4).toInt - v.toInt := by rw [← Int32.sub_eq_add_neg]; exact pq_sub (by omega) (by omega)
    rw [r4, f5, p1, e4', Int32.sub_eq_add_neg]
    exact ⟨rfl, by omega, by omega⟩
  · have hn := hst.2 np
    have b1 := Int32.toInt_lt (f 5)
    have b2 := Int32.toInt_lt (r 4)
    have e4' : (r 4 + -v).toInt = (r 4).toInt - v.toInt := by rw [← Int32.sub_eq_add_neg]; exact pq_sub (by omega) (by omega)
    have e5' : (f 5 - v).toInt = (f 5).toInt - v.toInt := pq_sub (by omega) (by omega)
    rw [r4, f5, r0, esf, ew, e4', e5']
    omega
  · rw [r10, f11, f12]; exact hc
theorem h_serve {P : Nat → Prop} {B : Int} {kk : Nat} {e : Int} {d h a b : Nat} (hkk : kk ≤ 15) (hB : B ≤ 7500) : ∀ (k i n1 n2 : Nat) (acc : Int32) (M N : ps_M), i + k = a → k < n1 → k < n2 → DX M d (N 1) h a b (fun s => pq_S (P s) B kk (s < a)) (fun c => pq_K a h e (c < b)) → ∃ (acc' : Int32) (M' N' : ps_M), fv_X2_serveQueues_4 n1 d acc (nI i) M = (acc', M') ∧ ok_X2_serveQueues_4 n1 d acc (nI i) M ∧ fv_X6_hourPasses_57 n2 acc (nI i) N = fv_X6_hourPasses_83 ps_FU acc' 0 N' ∧ (ok_X6_hourPasses_83 ps_FU acc' 0 N' → ok_X6_hourPasses_57 n2 acc (nI i) N) ∧ FR d M N M' N' ∧ DX M' d (N' 1) h a b (fun s => pq_S (P s) B kk (s < a)) (fun c => pq_K a h e (c < b)) := by
  have w1 : vp_in (1 : Int32) 237 := pq_vin (n := 1) (by omega) (by omega)
  intro k
  induction k with
  | zero =>
    intro i n1 n2 acc M N h1 h2 h3 hx
    cases n1 with
    | zero => omega
    | succ n1 =>
      cases n2 with
      | zero => omega
      | succ n2 =>
        have ha := hx.2.2.1.2.1
        rw [fv_X2_serveQueues_4_s, ok_X2_serveQueues_4_s, fv_X6_hourPasses_57_s, ok_X6_hourPasses_57_s, pq_c1, hx.1.2.1, hx.2.1.2.1]
        simp only [pq_leT (show ¬ i < a by omega) (by omega) (by omega), w1, if_true, true_implies, not_true_eq_false, false_implies, and_true, true_and]
        exact ⟨acc, M, N, rfl, rfl, id, FR_refl d M N, hx⟩
  | succ k ih =>
    intro i n1 n2 acc M N h1 h2 h3 hx
    cases n1 with
    | zero => omega
    | succ n1 =>
      cases n2 with
      | zero => omega
      | succ n2 =>
        have ha := hx.2.2.1.2.1
        have hi6 : i < 6 := by omega
        have v1 : vp_in (nI i) 6 := pq_vin hi6 (by omega)
        have hSi := hx.2.2.2.1 i hi6
        obtain ⟨t1, t2, t3⟩ := t_served hx hi6
        have bd := sv_bd hx (s := i)
        obtain ⟨y1, y2, y3, y4⟩ := cl_serve (d + 1 + 1 + 2 * i) (fv_X2_servedAnHourAt d (nI i) M) M
        obtain ⟨z1, z2, z3, z4, z5⟩ := mo_serve hi6 N t3
        obtain ⟨g1, g2⟩ := S_serve hkk hB hSi (x := fv_X6_serveAt (nI i) N) bd.1
        rw [t1] at y1 y2 y3 y4
        have hx2 : DX (fv_X4_serveQueue (d + 1 + 1 + 2 * i) (fv_X6_serveAt (nI i) N) M).2 d ((fv_X6_serves (nI i) N).2 1) h a b (fun s => pq_S (P s) B kk (s < a)) (fun c => pq_K a h e (c < b)) := by
          refine DX_st (S := fun s => pq_S (P s) B kk (s < a)) hx hi6 (fun k k1 k2 => y2 k k1) (fun j hj => z3 j hj) (fun s _ _ f g r hz => hz) ?_
          rw [y3, z4, y2 _ (by omega)]
          exact g2
        have ev : (fv_X4_serveQueue (d + 1 + 1 + 2 * i) (fv_X6_serveAt (nI i) N) M).1 = (fv_X6_serves (nI i) N).1 := by rw [y1, z1]; exact g1
        obtain ⟨acc', M', N', i1, i2, i3, i4, i5, i6⟩ := ih (i + 1) n1 n2 (acc + (fv_X6_serves (nI i) N).1) _ _ (by omega) (by omega) (by omega) hx2
        rw [fv_X2_serveQueues_4_s, ok_X2_serveQueues_4_s, fv_X6_hourPasses_57_s, ok_X6_hourPasses_57_s, pq_c1, hx.1.2.1, hx.2.1.2.1]
        simp only [pq_leF (show i < a by omega) (by omega), pq_nI (show i < 4000 by omega), t1, t2, ev, y4, z5, v1, w1, pq_nIadd1, if_false, false_implies, not_false_eq_true, true_implies, true_and, and_true]
        exact ⟨acc', M', N', i1, i2, i3, i4, FR_trans ⟨fun k hk => y2 k (by omega), z2⟩ i5, i6⟩
