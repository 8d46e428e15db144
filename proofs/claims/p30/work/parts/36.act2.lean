/-! ===== the law's act ===== -/
set_option maxHeartbeats 4000000 in
theorem x_act {M : ps_M} {n h a b : Nat} {H : Nat → ps_M} {k : Prop} {S : ps_M} (hS : ST M n H k S) (hx : DI M 1 h a b (M 197)) (h0 : 0 < a) (hb0 : 0 < b) (x y : Int32) : ok_L_act x y M ∧ AL M n H k S h a b (fv_L_act x y M) := by
  have H1 := hx.1.1.2.1
  have H2 := hx.1.1.2.2
  have ha := hx.1.2.2.1
  have hb := hx.1.2.2.2
  obtain ⟨s, hs, es, os⟩ := up_spec y (m := a) h0 (by omega)
  obtain ⟨t, ht, et, ot⟩ := up_spec (y >>> ((3 : Int32) &&& 31)) (m := a) h0 (by omega)
  obtain ⟨c, hc, ec, oc⟩ := up_spec (y >>> ((6 : Int32) &&& 31)) (m := b) hb0 (by omega)
  obtain ⟨p, hp, ep, op⟩ := up_spec (x >>> ((4 : Int32) &&& 31)) (m := 120) (by omega) (by omega)
  obtain ⟨w, hw, ew, ow⟩ := up_spec x (m := 11) (by omega) (by omega)
  obtain ⟨t5, h5, e5, o5⟩ := up_spec (y >>> ((10 : Int32) &&& 31)) (m := 15) (by omega) (by omega)
  obtain ⟨p2, h2, e2, o2⟩ := up_spec (x >>> ((4 : Int32) &&& 31)) (m := 200) (by omega) (by omega)
  obtain ⟨p9, h9, e9, o9⟩ := up_spec (x >>> ((4 : Int32) &&& 31)) (m := 9) (by omega) (by omega)
  obtain ⟨p4, h4, e4, o4⟩ := up_spec (x >>> ((5 : Int32) &&& 31)) (m := 4) (by omega) (by omega)
  rw [show nI 120 = (120 : Int32) from rfl] at ep op
  rw [show nI 11 = (11 : Int32) from rfl] at ew ow
  rw [show nI 15 = (15 : Int32) from rfl] at e5 o5
  rw [show nI 200 = (200 : Int32) from rfl] at e2 o2
  rw [show nI 9 = (9 : Int32) from rfl] at e9 o9
  rw [show nI 4 = (4 : Int32) from rfl] at e4 o4
  have one : ∀ j : Nat, (1 : Int32) + nI j = nI (1 + j) := fun j => nI_add 1 j
  unfold fv_L_act ok_L_act
  simp only [v_count1, v_count2, o_count1, o_count2, H1, H2, es, os, et, ot, ec, oc, ep, op, ew, ow, e5, o5, e2, o2, e9, o9, e4, o4, one, true_and, and_true]
  rcases (show w = 0 ∨ w = 1 ∨ w = 2 ∨ w = 3 ∨ w = 4 ∨ w = 5 ∨ w = 6 ∨ w = 7 ∨ w = 8 ∨ w = 9 ∨ w = 10 by omega) with rfl | rfl | rfl | rfl | rfl | rfl | rfl | rfl | rfl | rfl | rfl
  · simp only [show (nI 0 = (0 : Int32)) = True from by decide, if_true, if_false, true_implies, not_true_eq_false, not_false_eq_true, false_implies, and_true, true_and, implies_true]
    obtain ⟨r1, r2⟩ := x_setArrivals hS hx hs h5 (show p2 ≤ 500 by omega)
    exact ⟨r1, AL_of r2⟩
  · simp only [show (nI 1 = (0 : Int32)) = False from by decide, show (nI 1 = (1 : Int32)) = True from by decide, if_true, if_false, true_implies, not_true_eq_false, not_false_eq_true, false_implies, and_true, true_and, implies_true]
    obtain ⟨r1, r2⟩ := x_setArrivals hS hx hs h5 (show p2 ≤ 500 by omega)
    exact ⟨r1, AL_of r2⟩
  · simp only [show (nI 2 = (0 : Int32)) = False from by decide, show (nI 2 = (1 : Int32)) = False from by decide, show (nI 2 = (2 : Int32)) = True from by decide, if_true, if_false, true_implies, not_true_eq_false, not_false_eq_true, false_implies, and_true, true_and, implies_true]
    obtain ⟨r1, r2⟩ := x_assign hS hx hc hs
    exact ⟨r1, AL_of r2⟩
  · simp only [show (nI 3 = (0 : Int32)) = False from by decide, show (nI 3 = (1 : Int32)) = False from by decide, show (nI 3 = (2 : Int32)) = False from by decide, show (nI 3 = (3 : Int32)) = True from by decide, if_true, if_false, true_implies, not_true_eq_false, not_false_eq_true, false_implies, and_true, true_and, implies_true]
    obtain ⟨r1, r2⟩ := x_assign hS hx hc hs
    exact ⟨r1, AL_of r2⟩
  · simp only [show (nI 4 = (0 : Int32)) = False from by decide, show (nI 4 = (1 : Int32)) = False from by decide, show (nI 4 = (2 : Int32)) = False from by decide, show (nI 4 = (3 : Int32)) = False from by decide, show (nI 4 = (4 : Int32)) = True from by decide, if_true, if_false, true_implies, not_true_eq_false, not_false_eq_true, false_implies, and_true, true_and, implies_true]
    obtain ⟨r1, r2⟩ := x_relieve hS hx hc
    exact ⟨r1, AL_of r2⟩
  · simp only [show (nI 5 = (0 : Int32)) = False from by decide, show (nI 5 = (1 : Int32)) = False from by decide, show (nI 5 = (2 : Int32)) = False from by decide, show (nI 5 = (3 : Int32)) = False from by decide, show (nI 5 = (4 : Int32)) = False from by decide, show (nI 5 = (5 : Int32)) = True from by decide, if_true, if_false, true_implies, not_true_eq_false, not_false_eq_true, false_implies, and_true, true_and, implies_true]
    obtain ⟨r1, r2, r3⟩ := l_supply hS hx hs (show 1 ≤ 1 + p by omega) (show 1 + p ≤ 9999 by omega)
    exact ⟨⟨r1, r2⟩, r3⟩
  · simp only [show (nI 6 = (0 : Int32)) = False from by decide, show (nI 6 = (1 : Int32)) = False from by decide, show (nI 6 = (2 : Int32)) = False from by decide, show (nI 6 = (3 : Int32)) = False from by decide, show (nI 6 = (4 : Int32)) = False from by decide, show (nI 6 = (5 : Int32)) = False from by decide, show (nI 6 = (6 : Int32)) = True from by decide, if_true, if_false, true_implies, not_true_eq_false, not_false_eq_true, false_implies, and_true, true_and, implies_true]
    obtain ⟨r1, r2, r3⟩ := l_supply hS hx hs (show 1 ≤ 1 + p by omega) (show 1 + p ≤ 9999 by omega)
    exact ⟨⟨r1, r2⟩, r3⟩
  · simp only [show (nI 7 = (0 : Int32)) = False from by decide, show (nI 7 = (1 : Int32)) = False from by decide, show (nI 7 = (2 : Int32)) = False from by decide, show (nI 7 = (3 : Int32)) = False from by decide, show (nI 7 = (4 : Int32)) = False from by decide, show (nI 7 = (5 : Int32)) = False from by decide, show (nI 7 = (6 : Int32)) = False from by decide, show (nI 7 = (7 : Int32)) = True from by decide, if_true, if_false, true_implies, not_true_eq_false, not_false_eq_true, false_implies, and_true, true_and, implies_true]
    obtain ⟨r1, r2, r3⟩ := l_move hS hx hs ht (show 1 ≤ 1 + p by omega) (show 1 + p ≤ 9999 by omega)
    exact ⟨⟨r1, r2⟩, r3⟩
  · simp only [show (nI 8 = (0 : Int32)) = False from by decide, show (nI 8 = (1 : Int32)) = False from by decide, show (nI 8 = (2 : Int32)) = False from by decide, show (nI 8 = (3 : Int32)) = False from by decide, show (nI 8 = (4 : Int32)) = False from by decide, show (nI 8 = (5 : Int32)) = False from by decide, show (nI 8 = (6 : Int32)) = False from by decide, show (nI 8 = (7 : Int32)) = False from by decide, show (nI 8 = (8 : Int32)) = True from by decide, if_true, if_false, true_implies, not_true_eq_false, not_false_eq_true, false_implies, and_true, true_and, implies_true]
    obtain ⟨r1, r2⟩ := x_spoil hS hx hs (show 1 ≤ 1 + p9 by omega) (show 1 + p9 ≤ 9999 by omega)
    exact ⟨r1, AL_of r2⟩
  · simp only [show (nI 9 = (0 : Int32)) = False from by decide, show (nI 9 = (1 : Int32)) = False from by decide, show (nI 9 = (2 : Int32)) = False from by decide, show (nI 9 = (3 : Int32)) = False from by decide, show (nI 9 = (4 : Int32)) = False from by decide, show (nI 9 = (5 : Int32)) = False from by decide, show (nI 9 = (6 : Int32)) = False from by decide, show (nI 9 = (7 : Int32)) = False from by decide, show (nI 9 = (8 : Int32)) = False from by decide, show (nI 9 = (9 : Int32)) = True from by decide, if_true, if_false, true_implies, not_true_eq_false, not_false_eq_true, false_implies, and_true, true_and, implies_true]
    obtain ⟨r1, r2⟩ := x_carryOff hS hx hs (show 1 ≤ 1 + p9 by omega) (show 1 + p9 ≤ 9999 by omega)
    exact ⟨r1, AL_of r2⟩
  · simp only [show (nI 10 = (0 : Int32)) = False from by decide, show (nI 10 = (1 : Int32)) = False from by decide, show (nI 10 = (2 : Int32)) = False from by decide, show (nI 10 = (3 : Int32)) = False from by decide, show (nI 10 = (4 : Int32)) = False from by decide, show (nI 10 = (5 : Int32)) = False from by decide, show (nI 10 = (6 : Int32)) = False from by decide, show (nI 10 = (7 : Int32)) = False from by decide, show (nI 10 = (8 : Int32)) = False from by decide, show (nI 10 = (9 : Int32)) = False from by decide, if_true, if_false, true_implies, not_true_eq_false, not_false_eq_true, false_implies, and_true, true_and, implies_true]
    by_cases q : ((x >>> ((4 : Int32) &&& 31)) &&& (1 : Int32)) = 0
    · simp only [q, if_true, if_false, true_implies, not_true_eq_false, not_false_eq_true, false_implies, and_true, true_and, implies_true]
      obtain ⟨r1, r2⟩ := x_find hS hx hs (show 1 ≤ 1 + p4 by omega) (show 1 + p4 ≤ 9999 by omega)
      exact ⟨⟨r1, trivial⟩, AL_of r2⟩
    · simp only [q, if_true, if_false, true_implies, not_true_eq_false, not_false_eq_true, false_implies, and_true, true_and, implies_true]
      have e : fv_X5_papers (nI s) 5 M = M (1 + 1 + 1 + 2 * s) 10 := v_pa5 H1 ha hs
      have o : ok_X5_papers (nI s) 5 M := o_pa5 H1 ha hs
      obtain ⟨g1, ⟨g2, g3, g4⟩, g5, g6, g7, g8, ⟨g9, g10, g11, g12⟩, g13⟩ := p_S hx hs
      have bq := p_q hx hs
      simp only [e, o, if_true, if_false, true_implies, not_true_eq_false, not_false_eq_true, false_implies, and_true, true_and, implies_true]
      have key : ∀ z : Int32, z = 0 ∨ z = 1 → ok_X5_countBox (nI s) (M (1 + 1 + 1 + 2 * s) 10 + z) M ∧ AL M n H k S h a b (fv_X5_countBox (nI s) (M (1 + 1 + 1 + 2 * s) 10 + z) M) := fun z hz => by
        have ez : (M (1 + 1 + 1 + 2 * s) 10 + z).toInt = (M (1 + 1 + 1 + 2 * s) 10).toInt + z.toInt := by
          rcases hz with rfl | rfl
          · exact pq_add (by rw [Int32.toInt_zero]; omega) (by rw [Int32.toInt_zero]; omega)
          · exact pq_add (y := 1) (by show -2147483648 ≤ (M (1 + 1 + 1 + 2 * s) 10).toInt + 1; omega) (by show (M (1 + 1 + 1 + 2 * s) 10).toInt + 1 ≤ 2147483647; omega)
        have bz : 0 ≤ z.toInt ∧ z.toInt ≤ 1 := by rcases hz with rfl | rfl <;> decide
        obtain ⟨r1, r2⟩ := x_countBox hS hx hs (x := M (1 + 1 + 1 + 2 * s) 10 + z) (by omega) (by omega)
        exact ⟨r1, AL_of r2⟩
      exact key _ (bit_01 _)
