/-! ===== the law's fails ===== -/
theorem lg_self (x : Int64) : lg_cmp x x = 0 := by
  unfold lg_cmp
  rw [if_neg (show ¬ x < x from Int64.lt_irrefl), if_pos rfl]
theorem nI_self (a : Nat) : nI a ≤ nI a := by rw [pq_le]; exact Int.le_refl _
section FAILS
variable {M : ps_M} {h a b n : Nat} {gv : Nat → Int32} {x : Int64}
theorem fl_657 (hx : DI M 1 h a b gv) (hn : M 84 1 = nI n) (hm : (fv_L_mark M).1 = x) : fv_L_fails_652 x (nI n) M = (1, (fv_L_mark M).2) ∧ ok_L_fails_652 x (nI n) M := by
  obtain ⟨-, m2, m3⟩ := e_mark (EQ.rfl (M := M) (d := 1)) hx.1
  have e84 : (fv_L_mark M).2 84 1 = nI n := by rw [m3 84 (by omega)]; exact hn
  have c10 : ((1 : Int32) = 0) = False := by decide
  simp only [fv_L_fails_652, ok_L_fails_652, fv_L_fails_657, ok_L_fails_657, hm, lg_self, c10, v_count14, o_count14, e84, m2, if_true, if_false, true_implies, not_true_eq_false, not_false_eq_true, false_implies, and_true, true_and, implies_true, and_self]
theorem fl_635 (hx : DI M 1 h a b gv) (hn : M 84 1 = nI n) (hm : (fv_L_mark M).1 = x) : fv_L_fails_635 x (nI n) (nI b) M = (1, (fv_L_mark M).2) ∧ ok_L_fails_635 x (nI n) (nI b) M := by
  obtain ⟨g1, g2⟩ := fl_657 hx hn hm
  have hb := hx.1.2.2.2
  by_cases q : b = 0
  · have c : (nI b = 0) = True := by rw [q]; exact eq_true rfl
    simp only [fv_L_fails_635, ok_L_fails_635, c, g1, g2, if_true, if_false, true_implies, not_true_eq_false, not_false_eq_true, false_implies, and_true, true_and, implies_true, and_self]
  · have c : (nI b = 0) = False := eq_false (fun z => q ((pq_inj (t := 0) (by omega) (by omega)).mp z))
    have e1 : fv_X5_clerk 0 7 M = -2 := v_ck7 (c := 0) hx.1.1.2.2 hb (by omega)
    have e2 : ok_X5_clerk 0 7 M := o_ck7 (c := 0) hx.1.1.2.2 hb (by omega)
    simp only [fv_L_fails_635, ok_L_fails_635, c, e1, e2, g1, g2, if_true, if_false, true_implies, not_true_eq_false, not_false_eq_true, false_implies, and_true, true_and, implies_true, and_self]
theorem fl_567 (hx : DI M 1 h a b gv) (hn : M 84 1 = nI n) (hm : (fv_L_mark M).1 = x) (h0 : 0 < a) : fv_L_fails_567 x (nI n) (nI b) (nI h) M = (1, (fv_L_mark M).2) ∧ ok_L_fails_567 x (nI n) (nI b) (nI h) M := by
  obtain ⟨g1, g2⟩ := fl_635 hx hn hm
  have H1 := hx.1.1.2.1
  have ha := hx.1.2.2.1
  have hh := hx.1.2.1
  have e1 : fv_X5_station 0 8 M = -2 := v_st8 (s := 0) H1 ha h0
  have e2 : ok_X5_station 0 8 M := o_st8 (s := 0) H1 ha h0
  have e3 : fv_X5_papers 0 9 M = -2 := v_pa9 (s := 0) H1 ha h0
  have e4 : ok_X5_papers 0 9 M := o_pa9 (s := 0) H1 ha h0
  obtain ⟨e5, e6⟩ := z0_arr H1 ha h0
  obtain ⟨e7, e8⟩ := z0_queue H1 ha h0
  by_cases q : h = 0
  · have c : (nI h = 0) = True := by rw [q]; exact eq_true rfl
    simp only [fv_L_fails_567, ok_L_fails_567, c, e1, e2, e3, e4, e5, e6, e7, e8, g1, g2, if_true, if_false, true_implies, not_true_eq_false, not_false_eq_true, false_implies, and_true, true_and, implies_true, and_self]
  · have c : (nI h = 0) = False := eq_false (fun z => q ((pq_inj (t := 0) (by omega) (by omega)).mp z))
    have e19 : (19 : Int32) - nI h = nI (19 - h) := by
      rw [pq_eq, show (19 : Int32) = nI 19 from rfl, pk_sub_toInt (by omega) (by omega), pq_nT (by omega)]; omega
    have e9 : fv_X5_queueIn 0 (nI (19 - h)) M = (-4, M) ∧ ok_X5_queueIn 0 (nI (19 - h)) M := z_queueInN (s := 0) hx.1.1.1 H1 ha h0 hh (by omega) (by omega)
    simp only [fv_L_fails_567, ok_L_fails_567, c, e19, e1, e2, e3, e4, e5, e6, e7, e8, e9.1, e9.2, g1, g2, if_true, if_false, true_implies, not_true_eq_false, not_false_eq_true, false_implies, and_true, true_and, implies_true, and_self]
theorem fl_532 (hx : DI M 1 h a b gv) (hn : M 84 1 = nI n) (hm : (fv_L_mark M).1 = x) (h0 : 0 < a) : fv_L_fails_532 x (nI n) (nI b) (nI h) (-2) M = (1, (fv_L_mark M).2) ∧ ok_L_fails_532 x (nI n) (nI b) (nI h) (-2) M := by
  obtain ⟨g1, g2⟩ := fl_567 hx hn hm h0
  have H1 := hx.1.1.2.1
  have ha := hx.1.2.2.1
  have hh := hx.1.2.1
  obtain ⟨e1, e2⟩ := z0_count H1 ha h0
  by_cases q : 14 < h
  · have c : ((14 : Int32) < nI h) = True := eq_true (nI_lt (a := 14) q (by omega))
    simp only [fv_L_fails_532, ok_L_fails_532, c, e1, e2, g1, g2, if_true, if_false, true_implies, not_true_eq_false, not_false_eq_true, false_implies, and_true, true_and, implies_true, and_self]
  · have c : ((14 : Int32) < nI h) = False := eq_false (nI_nlt (b := h) (a := 14) (by omega) (by omega))
    obtain ⟨e3, e4⟩ := z0_early H1 ha h0 (by rw [hx.1.1.1]; exact nI_lt (b := 15) (by omega) (by omega))
    simp only [fv_L_fails_532, ok_L_fails_532, c, e1, e2, e3, e4, g1, g2, if_true, if_false, true_implies, not_true_eq_false, not_false_eq_true, false_implies, and_true, true_and, implies_true, and_self]
theorem fl_448 (hx : DI M 1 h a b gv) (hn : M 84 1 = nI n) (hm : (fv_L_mark M).1 = x) (h0 : 0 < a) : fv_L_fails_448 x (nI n) (nI b) (nI h) (-2) M = (1, (fv_L_mark M).2) ∧ ok_L_fails_448 x (nI n) (nI b) (nI h) (-2) M := by
  obtain ⟨g1, g2⟩ := fl_532 hx hn hm h0
  have H1 := hx.1.1.2.1
  have ha := hx.1.2.2.1
  obtain ⟨e1, e2⟩ := z0_supply0 H1 ha h0
  obtain ⟨e3, e4⟩ := z0_supply10000 H1 ha h0
  obtain ⟨e5, e6⟩ := z0_move H1 ha h0
  obtain ⟨e7, e8⟩ := z0_spoil0 H1 ha h0
  obtain ⟨e9, e10⟩ := z0_spoil9 hx h0
  obtain ⟨e11, e12⟩ := z0_carryOff0 H1 ha h0
  obtain ⟨e13, e14⟩ := z0_find10000 H1 ha h0
  simp only [fv_L_fails_448, ok_L_fails_448, fv_L_fails_484, ok_L_fails_484, e1, e2, e3, e4, e5, e6, e7, e8, e9, e10, e11, e12, e13, e14, g1, g2, if_true, if_false, true_implies, not_true_eq_false, not_false_eq_true, false_implies, and_true, true_and, implies_true, and_self]
theorem fl_398 (hx : DI M 1 h a b gv) (hn : M 84 1 = nI n) (hm : (fv_L_mark M).1 = x) : fv_L_fails_398 x (nI n) (nI a) (nI b) (nI h) 1 M = (1, (fv_L_mark M).2) ∧ ok_L_fails_398 x (nI n) (nI a) (nI b) (nI h) 1 M := by
  have H1 := hx.1.1.2.1
  have ha := hx.1.2.2.1
  have hh := hx.1.2.1
  have c10 : ((1 : Int32) = 0) = False := by decide
  by_cases q : a = 0
  · obtain ⟨g1, g2⟩ := fl_635 hx hn hm
    have c : (nI a = 0) = True := by rw [q]; exact eq_true rfl
    simp only [fv_L_fails_398, ok_L_fails_398, c, c10, g1, g2, if_true, if_false, true_implies, not_true_eq_false, not_false_eq_true, false_implies, and_true, true_and, implies_true, and_self]
  · have h0 : 0 < a := by omega
    obtain ⟨g1, g2⟩ := fl_448 hx hn hm h0
    have c : (nI a = 0) = False := eq_false (fun z => q ((pq_inj (t := 0) (by omega) (by omega)).mp z))
    obtain ⟨e1, e2⟩ := z_set0 H1 ha h0 (y := nI h - 1) 1 (z_hourlow hx.1.1.1 hh)
    obtain ⟨e3, e4⟩ := z_set0 H1 ha h0 (y := 15) 1 (z_hour15 hx.1.1.1)
    obtain ⟨e5, e6⟩ := z_set501 H1 ha h0 14
    simp only [fv_L_fails_398, ok_L_fails_398, c, c10, e1, e2, e3, e4, e5, e6, g1, g2, if_true, if_false, true_implies, not_true_eq_false, not_false_eq_true, false_implies, and_true, true_and, implies_true, and_self]
theorem fl_254 (hx : DI M 1 h a b gv) (hn : M 84 1 = nI n) (hm : (fv_L_mark M).1 = x) : fv_L_fails_254 x (nI n) (nI a) (nI b) (nI h) M = (1, (fv_L_mark M).2) ∧ ok_L_fails_254 x (nI n) (nI a) (nI b) (nI h) M := by
  obtain ⟨g1, g2⟩ := fl_398 hx hn hm
  have H1 := hx.1.1.2.1
  have ha := hx.1.2.2.1
  have hb := hx.1.2.2.2
  have c10 : ((1 : Int32) = 0) = False := by decide
  have m1 : (-1 : Int32) < 0 := by decide
  obtain ⟨e1, e2⟩ := v_stn (y := 0) H1 (Or.inr (nI_self a))
  obtain ⟨e3, e4⟩ := v_pan (x := -1) (y := 0) H1 (Or.inl m1)
  obtain ⟨e5, e6⟩ := v_ckn (y := 0) hx.1.1.2.2 (Or.inr (nI_self b))
  obtain ⟨e7, e8⟩ := v_arn (y := 0) H1 (Or.inr (nI_self a))
  obtain ⟨e9, e10⟩ := z_freeN M
  obtain ⟨e11, -, e12⟩ := p_freeAt hx (x := 12) (by omega)
  have e12 : fv_X5_free 12 M = -5 := e12 (by have := sN_b (f := FP M) b 0; show sN _ b 0 ≤ 12; omega)
  have e11 : ok_X5_free 12 M := e11
  obtain ⟨e13, e14⟩ := z_busyN M
  obtain ⟨e15, -, e16⟩ := p_busyAt hx (x := a) (by omega)
  have e16 := e16 (by omega)
  obtain ⟨e17, e18⟩ := z_queueIn H1 (Or.inr (nI_self a)) 0
  obtain ⟨e19, e20⟩ := z_lacks H1 (Or.inr (nI_self a))
  simp only [fv_L_fails_254, ok_L_fails_254, fv_L_fails_259, ok_L_fails_259, c10, e1, e2, e3, e4, e5, e6, e7, e8, e9, e10, e11, e12, e13, e14, e15, e16, e17, e18, e19, e20, v_count16, o_count16, v_count1n, o_count1n, g1, g2, if_true, if_false, true_implies, not_true_eq_false, not_false_eq_true, false_implies, and_true, true_and, implies_true, and_self]
theorem fl_39 (hx : DI M 1 h a b gv) (hn : M 84 1 = nI n) (hm : (fv_L_mark M).1 = x) : fv_L_fails_39 x (nI n) (nI a) (nI b) (nI h) (-2) M = (1, (fv_L_mark M).2) ∧ ok_L_fails_39 x (nI n) (nI a) (nI b) (nI h) (-2) M := by
  obtain ⟨g1, g2⟩ := fl_254 hx hn hm
  have H1 := hx.1.1.2.1
  have H2 := hx.1.1.2.2
  have hh := hx.1.2.1
  have ia := nI_self a
  have ib := nI_self b
  have m1 : (-1 : Int32) < 0 := by decide
  obtain ⟨a1, a2⟩ := z_addClerk1 M
  obtain ⟨a3, a4⟩ := z_addClerk2 M
  obtain ⟨a5, a6⟩ := z_addClerk3 M
  obtain ⟨e1, e2⟩ := z_setArrivals H1 (Or.inr ia) 14 1
  obtain ⟨e3, e4⟩ := z_assign1 H2 (Or.inr ib) 0
  obtain ⟨e5, e6⟩ := z_assign2 H1 (Or.inr ia) 0
  obtain ⟨e7, e8⟩ := z_relieve H2 (Or.inr ib)
  obtain ⟨e9, e10⟩ := z_pass0 M
  obtain ⟨e11, e12⟩ := z_pass19 M
  obtain ⟨e13, e14⟩ := z_supply H1 (Or.inr ia) 1
  obtain ⟨e15, e16⟩ := z_move1 H1 (Or.inr ia) 0 1
  obtain ⟨e17, e18⟩ := z_move2 H1 (Or.inr ia) 0 1
  obtain ⟨e19, e20⟩ := z_spoil H1 (Or.inr ia) 1
  obtain ⟨e21, e22⟩ := z_carryOff (x := -1) H1 (Or.inl m1) 1
  obtain ⟨e23, e24⟩ := z_find H1 (Or.inr ia) 1
  obtain ⟨e25, e26⟩ := z_countBox H1 (Or.inr ia) 1
  obtain ⟨e27, e28⟩ := z_readArrivals H1 (Or.inr ia) 14
  have g231 : fv_L_fails_231 x (nI n) (nI a) (nI b) (nI h) (-1) M = (1, (fv_L_mark M).2) ∧ ok_L_fails_231 x (nI n) (nI a) (nI b) (nI h) (-1) M := by
    by_cases q : h = 0
    · have c : (nI h = 0) = True := by rw [q]; exact eq_true rfl
      simp only [fv_L_fails_231, ok_L_fails_231, c, g1, g2, if_true, if_false, true_implies, not_true_eq_false, not_false_eq_true, false_implies, and_true, true_and, implies_true, and_self]
    · have c : (nI h = 0) = False := eq_false (fun z => q ((pq_inj (t := 0) (by omega) (by omega)).mp z))
      have e19 : (19 : Int32) - nI h = nI (19 - h) := by
        rw [pq_eq, show (19 : Int32) = nI 19 from rfl, pk_sub_toInt (by omega) (by omega), pq_nT (by omega)]; omega
      obtain ⟨w1, w2⟩ := z_passN (t := 19 - h) hx.1.1.1 hh (by omega) (by omega) (by omega)
      simp only [fv_L_fails_231, ok_L_fails_231, c, e19, w1, w2, g1, g2, if_true, if_false, true_implies, not_true_eq_false, not_false_eq_true, false_implies, and_true, true_and, implies_true, and_self]
  obtain ⟨k1, k2⟩ := g231
  have g187 : fv_L_fails_187 x (nI n) (nI a) (nI b) (nI h) (-1) M = (1, (fv_L_mark M).2) ∧ ok_L_fails_187 x (nI n) (nI a) (nI b) (nI h) (-1) M := by
    simp only [fv_L_fails_187, ok_L_fails_187, e21, e22, e23, e24, e25, e26, e27, e28, k1, k2, if_true, if_false, true_implies, not_true_eq_false, not_false_eq_true, false_implies, and_true, true_and, implies_true, and_self]
  obtain ⟨j1, j2⟩ := g187
  have g88 : fv_L_fails_88 x (nI n) (nI a) (nI b) (nI h) (-1) M = (1, (fv_L_mark M).2) ∧ ok_L_fails_88 x (nI n) (nI a) (nI b) (nI h) (-1) M := by
    simp only [fv_L_fails_88, ok_L_fails_88, fv_L_fails_140, ok_L_fails_140, e3, e4, e5, e6, e7, e8, e9, e10, e11, e12, e13, e14, e15, e16, e17, e18, e19, e20, j1, j2, if_true, if_false, true_implies, not_true_eq_false, not_false_eq_true, false_implies, and_true, true_and, implies_true, and_self]
  obtain ⟨i1, i2⟩ := g88
  simp only [fv_L_fails_39, ok_L_fails_39, a1, a2, a3, a4, a5, a6, e1, e2, i1, i2, if_true, if_false, true_implies, not_true_eq_false, not_false_eq_true, false_implies, and_true, true_and, implies_true, and_self]
end FAILS
theorem x_fails {M : ps_M} {h a b n : Nat} {gv : Nat → Int32} (hx : DI M 1 h a b gv) (hn : M 84 1 = nI n) : ok_L_fails M ∧ (fv_L_fails M).1 = 1 ∧ (∀ i, i ≠ 82 → (fv_L_fails M).2 i = M i) := by
  obtain ⟨m1, m2, m3⟩ := e_mark (EQ.rfl (M := M) (d := 1)) hx.1
  have hE : EQ (fv_L_mark M).2 1 M 1 := EQ_frame (fun k k1 k2 => m3 k (by omega))
  have hx' := DI_EQ hE hx
  have hn' : (fv_L_mark M).2 84 1 = nI n := by rw [m3 84 (by omega)]; exact hn
  have hm' : (fv_L_mark (fv_L_mark M).2).1 = (fv_L_mark M).1 := (e_mark hE hx'.1).1
  obtain ⟨a1, a2⟩ := z_addClerk0 (fv_L_mark M).2
  obtain ⟨f1, f2⟩ := fl_39 hx' hn' hm'
  have f3 := (e_mark (EQ.rfl (M := (fv_L_mark M).2) (d := 1)) hx'.1).2.2
  obtain ⟨Y, hY⟩ : ∃ Y, (fv_L_mark (fv_L_mark M).2).2 = Y := ⟨_, rfl⟩
  rw [hY] at f1
  have f3 : ∀ i, i ≠ 82 → Y i = (fv_L_mark M).2 i := by rw [← hY]; exact f3
  have e : fv_L_fails M = (1, Y) := by
    unfold fv_L_fails
    simp only [v_count14, v_count1, v_count2, v_count0, a1, hn', hx'.1.1.1, hx'.1.1.2.1, hx'.1.1.2.2]
    exact f1
  refine ⟨?_, congrArg Prod.fst e, fun i hi => (congrFun (congrArg Prod.snd e) i).trans ((f3 i hi).trans (m3 i hi))⟩
  unfold ok_L_fails
  simp only [v_count14, v_count1, v_count2, v_count0, o_count14, o_count1, o_count2, o_count0, a1, a2, m2, hn', hx'.1.1.1, hx'.1.1.2.1, hx'.1.1.2.2, true_and]
  exact f2
