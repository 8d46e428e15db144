/-! ===== arrivals read from the text ===== -/
theorem gr_loop {M : ps_M} {K : Nat} (hK : K ≤ 30) : ∀ (k i n : Nat) (x : Int32), i + k = K → k < n → (fv_X0_greatestNumber_4 n (nI K) x (nI i) M ≤ 500 ↔ (x ≤ 500 ∧ ∀ j, i ≤ j → j < K → M 196 j ≤ 500)) ∧ ok_X0_greatestNumber_4 n (nI K) x (nI i) M := by
  intro k
  induction k with
  | zero =>
    intro i n x h1 h2
    cases n with
    | zero => omega
    | succ n =>
      rw [fv_X0_greatestNumber_4_s, ok_X0_greatestNumber_4_s]
      simp only [pq_leT (show ¬ i < K by omega) (show K < 4000 by omega) (show i < 4000 by omega), if_true, true_implies, not_true_eq_false, false_implies, and_true]
      exact ⟨fun h => ⟨h, fun j j1 j2 => absurd j1 (by omega)⟩, fun h => h.1⟩
  | succ k ih =>
    intro i n x h1 h2
    cases n with
    | zero => omega
    | succ n =>
      have v1 : vp_in (nI i) 30 := pq_vin (by omega) (by omega)
      obtain ⟨i1, i2⟩ := ih (i + 1) n (if x < M 196 i then M 196 i else x) (by omega) (by omega)
      rw [fv_X0_greatestNumber_4_s, ok_X0_greatestNumber_4_s]
      simp only [pq_leF (show i < K by omega) (show K < 4000 by omega), pq_nI (show i < 4000 by omega), pq_nIadd1, v1, i2, if_false, false_implies, not_false_eq_true, true_implies, and_true]
      rw [i1]
      constructor
      · rintro ⟨a1, a2⟩
        by_cases q : x < M 196 i
        · rw [if_pos q] at a1
          refine ⟨by rw [pq_lt] at q; rw [pq_le] at a1 ⊢; omega, fun j j1 j2 => ?_⟩
          by_cases e : j = i
          · rw [e]; exact a1
          · exact a2 j (by omega) j2
        · rw [if_neg q] at a1
          refine ⟨a1, fun j j1 j2 => ?_⟩
          by_cases e : j = i
          · rw [e]; rw [pq_lt] at q; rw [pq_le] at a1 ⊢; omega
          · exact a2 j (by omega) j2
      · rintro ⟨a1, a2⟩
        refine ⟨?_, fun j j1 j2 => a2 j (by omega) j2⟩
        by_cases q : x < M 196 i
        · rw [if_pos q]; exact a2 i (by omega) (by omega)
        · rw [if_neg q]; exact a1
