/-! ===== the law's stations ===== -/
def sI (f : Nat → Int) : Nat → Nat → Int
  | 0, _ => 0
  | k + 1, c => f c + sI f k (c + 1)
theorem sI_snoc {f : Nat → Int} : ∀ (k c : Nat), sI f (k + 1) c = sI f k c + f (c + k) := by
  intro k
  induction k with
  | zero => intro c; show f c + 0 = 0 + f (c + 0); rw [Nat.add_zero]; omega
  | succ k ih =>
    intro c
    show f c + sI f (k + 1) (c + 1) = f c + sI f k (c + 1) + f (c + (k + 1))
    rw [ih, show c + 1 + k = c + (k + 1) by omega]; omega
theorem sm_toInt {δ : Nat → Int32} {B : Int} (hB : 0 ≤ B) : ∀ (k c : Nat) (acc : Int32), (∀ i, c ≤ i → i < c + k → 0 ≤ (δ i).toInt ∧ (δ i).toInt ≤ B) → 0 ≤ acc.toInt → acc.toInt + B * (k : Int) ≤ 1000000000 → (pq_sm δ k c acc).toInt = acc.toInt + sI (fun i => (δ i).toInt) k c := by
  intro k
  induction k with
  | zero => intro c acc _ h1 h2; show acc.toInt = acc.toInt + 0; omega
  | succ k ih =>
    intro c acc h h1 h2
    obtain ⟨g1, g2⟩ := h c (by omega) (by omega)
    have hk : B * ((k + 1 : Nat) : Int) = B * (k : Int) + B := by
      rw [show ((k + 1 : Nat) : Int) = (k : Int) + 1 by omega, Int.mul_add, Int.mul_one]
    have hbk : 0 ≤ B * (k : Int) := Int.mul_nonneg hB (by omega)
    rw [hk] at h2
    have e : (acc + δ c).toInt = acc.toInt + (δ c).toInt := pq_add (by omega) (by omega)
    show (pq_sm δ k (c + 1) (acc + δ c)).toInt = acc.toInt + ((δ c).toInt + sI _ k (c + 1))
    rw [ih (c + 1) (acc + δ c) (fun i i1 i2 => h i (by omega) (by omega)) (by omega) (by omega), e]
    omega
theorem cam_sI {g : Nat → Int32} (hh : Nat) : ∀ k : Nat, sI (fun t => (if t < hh then g t else (0 : Int32)).toInt) k 0 = cam g (min k hh) := by
  intro k
  induction k with
  | zero => rw [show min 0 hh = 0 by omega]; rfl
  | succ k ih =>
    rw [sI_snoc, ih, Nat.zero_add]
    by_cases q : k < hh
    · rw [if_pos q, show min (k + 1) hh = k + 1 by omega, show min k hh = k by omega]
      show cam g k + (g k).toInt = (g k).toInt + cam g k
      omega
    · rw [if_neg q, show min (k + 1) hh = min k hh by omega, Int32.toInt_zero]; omega
section STATIONS
variable {M : ps_M} {h a b : Nat}
def sR1 (M : ps_M) (s : Nat) : Int32 := if fv_X4_isCounted (1 + 1 + 1 + 2 * s) M = 0 then 0 else if fv_X4_countAgrees (1 + 1 + 1 + 2 * s) M = 1 then 1 else 0
def sW1 (M : ps_M) (s : Nat) : Int32 := if fv_X4_isCounted (1 + 1 + 1 + 2 * s) M = 0 then 0 else if fv_X4_countAgrees (1 + 1 + 1 + 2 * s) M = 0 then 1 else 0
theorem l_181 {gv : Nat → Int32} (hx : DI M 1 h a b gv) (hg : ∀ s, s < a → gv s = M 197 s) {s : Nat} (hs : s < a) {r : Int32 → Int32 → Int32 → Int32 → Int32 → Int32 → Int32 → Int32 → Int32 → Int32 → ps_M → Int32 × ps_M} {o : Int32 → Int32 → Int32 → Int32 → Int32 → Int32 → Int32 → Int32 → Int32 → Int32 → ps_M → Prop} {x2 x3 x4 x5 x6 x7 x8 x9 x10 came sum due : Int32} (hc : M (1 + 1 + 1 + 2 * s) 1 = came - M (1 + 1 + 1 + 2 * s) 3) (hsum : fv_X4_allArrivals (1 + 1 + 1 + 2 * s) M = sum) (hdue : fv_X2_hoursForQueueOf 1 (nI s) M = due) : fv_L_stations_181 r x2 x3 x4 x5 x6 x7 x8 x9 x10 (nI s) came sum (M (1 + 1 + 1 + 2 * s) 1) (M (1 + 1 + 1 + 2 * s) 10) (if fv_X4_isCounted (1 + 1 + 1 + 2 * s) M = 0 then -5 else M (1 + 1 + 1 + 2 * s) 11) due M = r x2 (x3 + M (1 + 1 + 1 + 2 * s) 1) (x4 + M (1 + 1 + 1 + 2 * s) 3) (x5 + M (1 + 1 + 1 + 2 * s) 5) (x6 + M (1 + 1 + 1 + 2 * s) 6) (x7 + M (1 + 1 + 1 + 2 * s) 10) (x8 + M (1 + 1 + 1 + 2 * s) 4) (x9 + sR1 M s) (x10 + sW1 M s) (nI (s + 1)) M ∧ (o x2 (x3 + M (1 + 1 + 1 + 2 * s) 1) (x4 + M (1 + 1 + 1 + 2 * s) 3) (x5 + M (1 + 1 + 1 + 2 * s) 5) (x6 + M (1 + 1 + 1 + 2 * s) 6) (x7 + M (1 + 1 + 1 + 2 * s) 10) (x8 + M (1 + 1 + 1 + 2 * s) 4) (x9 + sR1 M s) (x10 + sW1 M s) (nI (s + 1)) M → ok_L_stations_181 r o x2 x3 x4 x5 x6 x7 x8 x9 x10 (nI s) came sum (M (1 + 1 + 1 + 2 * s) 1) (M (1 + 1 + 1 + 2 * s) 10) (if fv_X4_isCounted (1 + 1 + 1 + 2 * s) M = 0 then -5 else M (1 + 1 + 1 + 2 * s) 11) due M) := by
  have H1 := hx.1.1.2.1
  have ha := hx.1.2.2.1
  obtain ⟨g1, ⟨g2, g3, g4⟩, g5, ⟨g6, g7⟩, g8, g9, ⟨g10, g11, g12, g13⟩, g14⟩ := p_S hx hs
  have bq := p_q hx hs
  have v6 : vp_in (nI s) 6 := pq_vin (by omega) (by omega)
  have oh := o_hoursFor hx.1 (s := s) (by omega)
  have oa := (cl_arrivals (1 + 1 + 1 + 2 * s) M).2
  have c1 : (M (1 + 1 + 1 + 2 * s) 2 < M (1 + 1 + 1 + 2 * s) 1) = False := eq_false (fun z => by rw [pq_lt] at z; have := g5 trivial; omega)
  have c3 : (M (1 + 1 + 1 + 2 * s) 10 < 0) = False := eq_false (pq_nneg g11)
  have c4 : (M (1 + 1 + 1 + 2 * s) 5 < 0) = False := eq_false (pq_nneg g6)
  have e1 : (M (1 + 1 + 1 + 2 * s) 3 - M (1 + 1 + 1 + 2 * s) 8).toInt = (M (1 + 1 + 1 + 2 * s) 3).toInt - (M (1 + 1 + 1 + 2 * s) 8).toInt := pq_sub (by omega) (by omega)
  have e2 : M (1 + 1 + 1 + 2 * s) 10 = M (1 + 1 + 1 + 2 * s) 3 - M (1 + 1 + 1 + 2 * s) 8 - M (1 + 1 + 1 + 2 * s) 9 := by
    rw [pq_eq, pq_sub (by omega) (by omega), e1]; omega
  have e3 : M (1 + 1 + 1 + 2 * s) 5 + M (1 + 1 + 1 + 2 * s) 6 = M 197 s := by rw [g9, hg s hs]
  have c10 : ((1 : Int32) = 0) = False := by decide
  have c01 : ((0 : Int32) = 1) = False := by decide
  by_cases q : fv_X4_isCounted (1 + 1 + 1 + 2 * s) M = 0
  · have n5 : ((0 : Int32) ≤ -5) = False := by decide
    have n6 : ((-5 : Int32) < 0) = True := by decide
    have f12 : M (1 + 1 + 1 + 2 * s) 12 = 0 := by
      unfold fv_X4_isCounted at q
      by_cases z : M (1 + 1 + 1 + 2 * s) 12 ≤ 0
      · rcases g14 with w | ⟨w | w | w, -⟩
        · exact w
        · rw [w] at z; exact absurd z (by decide)
        · rw [w] at z; exact absurd z (by decide)
        · rw [w] at z; exact absurd z (by decide)
      · rw [if_neg z] at q; exact absurd q (by decide)
    have eR : sR1 M s = 0 := by unfold sR1; rw [if_pos q]
    have eW : sW1 M s = 0 := by unfold sW1; rw [if_pos q]
    rw [eR, eW]
    simp only [q, if_true]
    refine ⟨?_, fun hk => ?_⟩
    · simp only [fv_L_stations_181, fv_L_stations_336, fv_L_stations_352, fv_L_stations_381, fv_L_stations_464, fv_L_stations_465, fv_L_stations_486, fv_L_stations_487, v_st1 H1 ha hs, v_st2 H1 ha hs, v_st3 H1 ha hs, v_st6 H1 ha hs, v_st7 H1 ha hs, v_pa0 H1 ha hs, v_pa1 H1 ha hs, v_pa2 H1 ha hs, v_pa3 H1 ha hs, v_pa4 H1 ha hs, v_pa7 H1 ha hs, v_pa8 H1 ha hs, hc.symm, hsum, hdue, c1, c3, c4, g8.symm, e2.symm, e3, pq_nI (show s < 4000 by omega), n5, n6, f12, q, pq_nIadd1, if_true, if_false]
    · simp only [ok_L_stations_181, ok_L_stations_336, ok_L_stations_352, ok_L_stations_381, ok_L_stations_464, ok_L_stations_465, ok_L_stations_486, ok_L_stations_487, v_st1 H1 ha hs, v_st2 H1 ha hs, v_st3 H1 ha hs, v_st6 H1 ha hs, v_st7 H1 ha hs, v_pa0 H1 ha hs, v_pa1 H1 ha hs, v_pa2 H1 ha hs, v_pa3 H1 ha hs, v_pa4 H1 ha hs, v_pa7 H1 ha hs, v_pa8 H1 ha hs, o_st1 H1 ha hs, o_st2 H1 ha hs, o_st3 H1 ha hs, o_st6 H1 ha hs oa, o_st7 H1 ha hs oh, o_pa0 H1 ha hs, o_pa1 H1 ha hs, o_pa2 H1 ha hs, o_pa3 H1 ha hs, o_pa4 H1 ha hs, o_pa7 H1 ha hs, o_pa8 H1 ha hs, hc.symm, hsum, hdue, c1, c3, c4, g8.symm, e2.symm, e3, pq_nI (show s < 4000 by omega), v6, n5, n6, f12, q, pq_nIadd1, if_true, if_false, true_implies, false_implies, not_true_eq_false, not_false_eq_true, true_and, and_true, implies_true]
      exact hk
  · obtain ⟨f12, f11⟩ : ¬ M (1 + 1 + 1 + 2 * s) 12 = 0 ∧ 0 ≤ (M (1 + 1 + 1 + 2 * s) 11).toInt := by
      unfold fv_X4_isCounted at q
      rcases g14 with w | ⟨w, w2, -⟩
      · exact absurd (by rw [if_pos (by rw [w]; decide)]) q
      · refine ⟨fun z => ?_, w2⟩
        rw [z] at w
        rcases w with w | w | w <;> exact absurd w (by decide)
    have n5 : ((0 : Int32) ≤ M (1 + 1 + 1 + 2 * s) 11) = True := eq_true (by rw [pq_le, Int32.toInt_zero]; exact f11)
    have n6 : (M (1 + 1 + 1 + 2 * s) 11 < 0) = False := eq_false (pq_nneg f11)
    simp only [q, if_false]
    by_cases z : M (1 + 1 + 1 + 2 * s) 11 = M (1 + 1 + 1 + 2 * s) 10
    · have eA : fv_X4_countAgrees (1 + 1 + 1 + 2 * s) M = 1 := by unfold fv_X4_countAgrees; rw [if_pos z]
      have eR : sR1 M s = 1 := by unfold sR1; rw [if_neg q, eA, if_pos rfl]
      have eW : sW1 M s = 0 := by unfold sW1; rw [if_neg q, eA, if_neg (by decide)]
      rw [eR, eW]
      have z' : (M (1 + 1 + 1 + 2 * s) 11 = M (1 + 1 + 1 + 2 * s) 10) = True := eq_true z
      refine ⟨?_, fun hk => ?_⟩
      · simp only [fv_L_stations_181, fv_L_stations_336, fv_L_stations_352, fv_L_stations_381, fv_L_stations_464, fv_L_stations_465, fv_L_stations_486, fv_L_stations_487, v_st1 H1 ha hs, v_st2 H1 ha hs, v_st3 H1 ha hs, v_st6 H1 ha hs, v_st7 H1 ha hs, v_pa0 H1 ha hs, v_pa1 H1 ha hs, v_pa2 H1 ha hs, v_pa3 H1 ha hs, v_pa4 H1 ha hs, v_pa7 H1 ha hs, v_pa8 H1 ha hs, hc.symm, hsum, hdue, c1, c3, c4, g8.symm, e2.symm, e3, pq_nI (show s < 4000 by omega), n5, n6, f12, q, z', pq_nIadd1, if_true, if_false]
      · simp only [ok_L_stations_181, ok_L_stations_336, ok_L_stations_352, ok_L_stations_381, ok_L_stations_464, ok_L_stations_465, ok_L_stations_486, ok_L_stations_487, v_st1 H1 ha hs, v_st2 H1 ha hs, v_st3 H1 ha hs, v_st6 H1 ha hs, v_st7 H1 ha hs, v_pa0 H1 ha hs, v_pa1 H1 ha hs, v_pa2 H1 ha hs, v_pa3 H1 ha hs, v_pa4 H1 ha hs, v_pa7 H1 ha hs, v_pa8 H1 ha hs, o_st1 H1 ha hs, o_st2 H1 ha hs, o_st3 H1 ha hs, o_st6 H1 ha hs oa, o_st7 H1 ha hs oh, o_pa0 H1 ha hs, o_pa1 H1 ha hs, o_pa2 H1 ha hs, o_pa3 H1 ha hs, o_pa4 H1 ha hs, o_pa7 H1 ha hs, o_pa8 H1 ha hs, hc.symm, hsum, hdue, c1, c3, c4, g8.symm, e2.symm, e3, pq_nI (show s < 4000 by omega), v6, n5, n6, f12, q, z', pq_nIadd1, if_true, if_false, true_implies, false_implies, not_true_eq_false, not_false_eq_true, true_and, and_true, implies_true]
        exact hk
    · have eA : fv_X4_countAgrees (1 + 1 + 1 + 2 * s) M = 0 := by unfold fv_X4_countAgrees; rw [if_neg z]
      have eR : sR1 M s = 0 := by unfold sR1; rw [if_neg q, eA, if_neg (by decide)]
      have eW : sW1 M s = 1 := by unfold sW1; rw [if_neg q, eA, if_pos rfl]
      rw [eR, eW]
      have z' : (M (1 + 1 + 1 + 2 * s) 11 = M (1 + 1 + 1 + 2 * s) 10) = False := eq_false z
      refine ⟨?_, fun hk => ?_⟩
      · simp only [fv_L_stations_181, fv_L_stations_336, fv_L_stations_352, fv_L_stations_381, fv_L_stations_464, fv_L_stations_465, fv_L_stations_486, fv_L_stations_487, v_st1 H1 ha hs, v_st2 H1 ha hs, v_st3 H1 ha hs, v_st6 H1 ha hs, v_st7 H1 ha hs, v_pa0 H1 ha hs, v_pa1 H1 ha hs, v_pa2 H1 ha hs, v_pa3 H1 ha hs, v_pa4 H1 ha hs, v_pa7 H1 ha hs, v_pa8 H1 ha hs, hc.symm, hsum, hdue, c1, c3, c4, g8.symm, e2.symm, e3, pq_nI (show s < 4000 by omega), n5, n6, f12, q, z', pq_nIadd1, if_true, if_false]
      · simp only [ok_L_stations_181, ok_L_stations_336, ok_L_stations_352, ok_L_stations_381, ok_L_stations_464, ok_L_stations_465, ok_L_stations_486, ok_L_stations_487, v_st1 H1 ha hs, v_st2 H1 ha hs, v_st3 H1 ha hs, v_st6 H1 ha hs, v_st7 H1 ha hs, v_pa0 H1 ha hs, v_pa1 H1 ha hs, v_pa2 H1 ha hs, v_pa3 H1 ha hs, v_pa4 H1 ha hs, v_pa7 H1 ha hs, v_pa8 H1 ha hs, o_st1 H1 ha hs, o_st2 H1 ha hs, o_st3 H1 ha hs, o_st6 H1 ha hs oa, o_st7 H1 ha hs oh, o_pa0 H1 ha hs, o_pa1 H1 ha hs, o_pa2 H1 ha hs, o_pa3 H1 ha hs, o_pa4 H1 ha hs, o_pa7 H1 ha hs, o_pa8 H1 ha hs, hc.symm, hsum, hdue, c1, c3, c4, g8.symm, e2.symm, e3, pq_nI (show s < 4000 by omega), v6, n5, n6, f12, q, z', pq_nIadd1, if_true, if_false, true_implies, false_implies, not_true_eq_false, not_false_eq_true, true_and, and_true, implies_true]
        exact hk
end STATIONS
