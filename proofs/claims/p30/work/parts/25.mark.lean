/-! ===== the mark: the same of the same days ===== -/
section MARK
variable {M N : ps_M} {h a b : Nat}
theorem m152 (hE : EQ M 1 N 1) (hM : HD M 1 h a b) {r r' : Int64 → Int32 → ps_M → Int64 × ps_M} {o : Int64 → Int32 → ps_M → Prop} {c : Nat} (hc : c < b) : ∀ (k i n : Nat) (x : Int64), i + k = 7 → k < n → ∃ x' : Int64, fv_L_mark_152 r n x (nI c) (nI i) M = r x' (nI (c + 1)) M ∧ fv_L_mark_152 r' n x (nI c) (nI i) N = r' x' (nI (c + 1)) N ∧ (o x' (nI (c + 1)) M → ok_L_mark_152 r o n x (nI c) (nI i) M) := by
  intro k
  induction k with
  | zero =>
    intro i n x h1 h2
    cases n with
    | zero => omega
    | succ n =>
      rw [fv_L_mark_152_s, fv_L_mark_152_s, ok_L_mark_152_s, show i = 7 by omega, show (7 : Int32) = nI 7 from rfl]
      simp only [pq_leT (show ¬ 7 < 7 by omega) (by omega) (by omega), pq_nIadd1, if_true, if_false, true_implies, false_implies, not_true_eq_false, not_false_eq_true, true_and, and_true]
      exact ⟨x, rfl, rfl, id⟩
  | succ k ih =>
    intro i n x h1 h2
    cases n with
    | zero => omega
    | succ n =>
      obtain ⟨g1, g2⟩ := e_clerk hE hM hc (k := i) (by omega)
      rw [fv_L_mark_152_s, fv_L_mark_152_s, ok_L_mark_152_s, show (7 : Int32) = nI 7 from rfl]
      simp only [pq_leF (show i < 7 by omega) (by omega), pq_nIadd1, g1, g2, if_true, if_false, true_implies, false_implies, not_true_eq_false, not_false_eq_true, true_and, and_true]
      exact ih (i + 1) n _ (by omega) (by omega)
theorem m104 (hE : EQ M 1 N 1) (hM : HD M 1 h a b) {r r' : Int64 → Int32 → ps_M → Int64 × ps_M} {o : Int64 → Int32 → ps_M → Prop} {c : Nat} (hc : c < a) : ∀ (k i n : Nat) (x : Int64), i + k = 15 → k < n → ∃ x' : Int64, fv_L_mark_104 r n x (nI c) (nI i) M = r x' (nI (c + 1)) M ∧ fv_L_mark_104 r' n x (nI c) (nI i) N = r' x' (nI (c + 1)) N ∧ (o x' (nI (c + 1)) M → ok_L_mark_104 r o n x (nI c) (nI i) M) := by
  intro k
  induction k with
  | zero =>
    intro i n x h1 h2
    cases n with
    | zero => omega
    | succ n =>
      rw [fv_L_mark_104_s, fv_L_mark_104_s, ok_L_mark_104_s, show i = 15 by omega, show (15 : Int32) = nI 15 from rfl]
      simp only [pq_leT (show ¬ 15 < 15 by omega) (by omega) (by omega), pq_nIadd1, if_true, if_false, true_implies, false_implies, not_true_eq_false, not_false_eq_true, true_and, and_true]
      exact ⟨x, rfl, rfl, id⟩
  | succ k ih =>
    intro i n x h1 h2
    cases n with
    | zero => omega
    | succ n =>
      obtain ⟨g1, g2⟩ := e_arrivals hE hM hc (t := i) (by omega)
      rw [fv_L_mark_104_s, fv_L_mark_104_s, ok_L_mark_104_s, show (15 : Int32) = nI 15 from rfl]
      simp only [pq_leF (show i < 15 by omega) (by omega), pq_nIadd1, g1, g2, if_true, if_false, true_implies, false_implies, not_true_eq_false, not_false_eq_true, true_and, and_true]
      exact ih (i + 1) n _ (by omega) (by omega)
theorem m45 (hE : EQ M 1 N 1) (hM : HD M 1 h a b) {r r' : Int64 → Int32 → ps_M → Int64 × ps_M} {o : Int64 → Int32 → ps_M → Prop} {c : Nat} (hc : c < a) : ∀ (k i n : Nat) (x : Int64), i + k = 8 → k < n → ∃ x' : Int64, fv_L_mark_45 r n x (nI c) (nI i) M = r x' (nI (c + 1)) M ∧ fv_L_mark_45 r' n x (nI c) (nI i) N = r' x' (nI (c + 1)) N ∧ (o x' (nI (c + 1)) M → ok_L_mark_45 r o n x (nI c) (nI i) M) := by
  intro k
  induction k with
  | zero =>
    intro i n x h1 h2
    cases n with
    | zero => omega
    | succ n =>
      obtain ⟨g1, g2⟩ := e_papers hE hM hc (k := 8) (by omega)
      rw [show nI 8 = (8 : Int32) from rfl] at g1 g2
      obtain ⟨x', i1, i2, i3⟩ := m104 hE hM (r := r) (r' := r') (o := o) hc 15 0 ps_FU ((31 : Int64) * x + (fv_X5_papers (nI c) 8 N).toInt64) (by omega) (pq_fu (by omega))
      rw [fv_L_mark_45_s, fv_L_mark_45_s, ok_L_mark_45_s, show i = 8 by omega]
      have c8 : ((8 : Int32) ≤ nI 8) = True := pq_leT (b := 8) (c := 8) (by omega) (by omega) (by omega)
      simp only [c8, g1, g2, if_true, if_false, true_implies, false_implies, not_true_eq_false, not_false_eq_true, true_and, and_true]
      exact ⟨x', i1, i2, i3⟩
  | succ k ih =>
    intro i n x h1 h2
    cases n with
    | zero => omega
    | succ n =>
      obtain ⟨g1, g2⟩ := e_station hE hM hc (k := i) (by omega)
      obtain ⟨g3, g4⟩ := e_papers hE hM hc (k := i) (by omega)
      have c8 : ((8 : Int32) ≤ nI i) = False := pq_leF (b := 8) (c := i) (by omega) (by omega)
      rw [fv_L_mark_45_s, fv_L_mark_45_s, ok_L_mark_45_s]
      simp only [c8, pq_nIadd1, g1, g2, g3, g4, if_true, if_false, true_implies, false_implies, not_true_eq_false, not_false_eq_true, true_and, and_true]
      exact ih (i + 1) n _ (by omega) (by omega)
theorem m140 (hE : EQ M 1 N 1) (hM : HD M 1 h a b) : ∀ (k c n : Nat) (x : Int64), c + k = b → k < n → ∃ x' : Int64, fv_L_mark_140 n x (nI c) M = (x', M) ∧ fv_L_mark_140 n x (nI c) N = (x', N) ∧ ok_L_mark_140 n x (nI c) M := by
  have hN := HD_EQ hE hM
  have hlim := hM.2.2.2
  intro k
  induction k with
  | zero =>
    intro c n x h1 h2
    cases n with
    | zero => omega
    | succ n =>
      rw [fv_L_mark_140_s, fv_L_mark_140_s, ok_L_mark_140_s, v_count2, v_count2, hM.1.2.2, hN.1.2.2, show c = b by omega]
      simp only [pq_leT (show ¬ b < b by omega) (by omega) (by omega), o_count2, if_true, if_false, true_implies, false_implies, not_true_eq_false, not_false_eq_true, true_and, and_true]
      exact ⟨x, rfl, rfl⟩
  | succ k ih =>
    intro c n x h1 h2
    cases n with
    | zero => omega
    | succ n =>
      obtain ⟨x1, i1, i2, i3⟩ := m152 hE hM (r := fun a1 a3 M => fv_L_mark_140 n a1 a3 M) (r' := fun a1 a3 M => fv_L_mark_140 n a1 a3 M) (o := fun a1 a3 M => ok_L_mark_140 n a1 a3 M) (c := c) (by omega) 7 0 ps_FU x (by omega) (pq_fu (by omega))
      obtain ⟨x2, j1, j2, j3⟩ := ih (c + 1) n x1 (by omega) (by omega)
      rw [fv_L_mark_140_s, fv_L_mark_140_s, ok_L_mark_140_s, v_count2, v_count2, hM.1.2.2, hN.1.2.2]
      simp only [pq_leF (show c < b by omega) (by omega), o_count2, if_true, if_false, true_implies, false_implies, not_true_eq_false, not_false_eq_true, true_and, and_true]
      exact ⟨x2, i1.trans j1, i2.trans j2, i3 j3⟩
theorem m33 (hE : EQ M 1 N 1) (hM : HD M 1 h a b) : ∀ (k c n : Nat) (x : Int64), c + k = a → k < n → ∃ x' : Int64, fv_L_mark_33 n x (nI c) M = (x', M) ∧ fv_L_mark_33 n x (nI c) N = (x', N) ∧ ok_L_mark_33 n x (nI c) M := by
  have hN := HD_EQ hE hM
  have hlim := hM.2.2.1
  intro k
  induction k with
  | zero =>
    intro c n x h1 h2
    cases n with
    | zero => omega
    | succ n =>
      rw [fv_L_mark_33_s, fv_L_mark_33_s, ok_L_mark_33_s, v_count1, v_count1, hM.1.2.1, hN.1.2.1, show c = a by omega]
      simp only [pq_leT (show ¬ a < a by omega) (by omega) (by omega), o_count1, if_true, if_false, true_implies, false_implies, not_true_eq_false, not_false_eq_true, true_and, and_true]
      exact m140 hE hM b 0 ps_FU x (by omega) (pq_fu (by have := hM.2.2.2; omega))
  | succ k ih =>
    intro c n x h1 h2
    cases n with
    | zero => omega
    | succ n =>
      obtain ⟨x1, i1, i2, i3⟩ := m45 hE hM (r := fun a1 a3 M => fv_L_mark_33 n a1 a3 M) (r' := fun a1 a3 M => fv_L_mark_33 n a1 a3 M) (o := fun a1 a3 M => ok_L_mark_33 n a1 a3 M) (c := c) (by omega) 8 0 ps_FU x (by omega) (pq_fu (by omega))
      obtain ⟨x2, j1, j2, j3⟩ := ih (c + 1) n x1 (by omega) (by omega)
      rw [fv_L_mark_33_s, fv_L_mark_33_s, ok_L_mark_33_s, v_count1, v_count1, hM.1.2.1, hN.1.2.1]
      simp only [pq_leF (show c < a by omega) (by omega), o_count1, if_true, if_false, true_implies, false_implies, not_true_eq_false, not_false_eq_true, true_and, and_true]
      exact ⟨x2, i1.trans j1, i2.trans j2, i3 j3⟩
theorem m6 : ∀ (k i n : Nat) (x : Int64) (M N : ps_M), EQ M 1 N 1 → HD M 1 h a b → i + k = 14 → k < n → ∃ (x' : Int64) (M' N' : ps_M), fv_L_mark_6 n x (nI i) M = (x', M') ∧ fv_L_mark_6 n x (nI i) N = (x', N') ∧ ok_L_mark_6 n x (nI i) M ∧ (∀ i, i ≠ 82 → M' i = M i) := by
  intro k
  induction k with
  | zero =>
    intro i n x M N hE hM h1 h2
    cases n with
    | zero => omega
    | succ n =>
      obtain ⟨x', i1, i2, i3⟩ := m33 hE hM a 0 ps_FU x (by omega) (pq_fu (by have := hM.2.2.1; omega))
      have c8 : ((14 : Int32) ≤ nI 14) = True := pq_leT (b := 14) (c := 14) (by omega) (by omega) (by omega)
      rw [fv_L_mark_6_s, fv_L_mark_6_s, ok_L_mark_6_s, show i = 14 by omega]
      simp only [c8, if_true, if_false, true_implies, false_implies, not_true_eq_false, not_false_eq_true, true_and, and_true]
      exact ⟨x', M, N, i1, i2, i3, fun _ _ => rfl⟩
  | succ k ih =>
    intro i n x M N hE hM h1 h2
    cases n with
    | zero => omega
    | succ n =>
      obtain ⟨g1, g2, g3⟩ := e_count hE hM (k := i) (by omega)
      obtain ⟨-, -, g4⟩ := e_count hE.symm (HD_EQ hE hM) (k := i) (by omega)
      have c8 : ((14 : Int32) ≤ nI i) = False := pq_leF (b := 14) (c := i) (by omega) (by omega)
      have hE1 : EQ (fv_X5_count (nI i) M).2 1 M 1 := EQ_frame (fun k k1 k2 => g3 k (by omega))
      have hE2 : EQ (fv_X5_count (nI i) N).2 1 N 1 := EQ_frame (fun k k1 k2 => g4 k (by omega))
      obtain ⟨x', M', N', i1, i2, i3, i4⟩ := ih (i + 1) n ((31 : Int64) * x + (fv_X5_count (nI i) M).1.toInt64) _ _ ((hE1.trans hE).trans hE2.symm) (HD_EQ hE1.symm hM) (by omega) (by omega)
      rw [fv_L_mark_6_s, fv_L_mark_6_s, ok_L_mark_6_s]
      simp only [c8, pq_nIadd1, ← g1, g2, if_true, if_false, true_implies, false_implies, not_true_eq_false, not_false_eq_true, true_and, and_true]
      exact ⟨x', M', N', i1, i2, i3, fun j hj => (i4 j hj).trans (g3 j hj)⟩
end MARK
theorem e_mark {M N : ps_M} {h a b : Nat} (hE : EQ M 1 N 1) (hM : HD M 1 h a b) : (fv_L_mark M).1 = (fv_L_mark N).1 ∧ ok_L_mark M ∧ (∀ i, i ≠ 82 → (fv_L_mark M).2 i = M i) := by
  obtain ⟨x', M', N', i1, i2, i3, i4⟩ := m6 14 0 ps_FU 17 M N hE hM (by omega) (pq_fu (by omega))
  have e1 : fv_L_mark M = (x', M') := i1
  have e2 : fv_L_mark N = (x', N') := i2
  rw [e1, e2]
  exact ⟨rfl, i3, i4⟩
