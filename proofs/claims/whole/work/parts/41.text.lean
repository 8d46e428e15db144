/-! ===== the text of arrivals ===== -/
def TX (M N : ps_M) (n : Nat) : Prop := n ≤ 60 ∧ M 194 2 = nI n ∧ N 0 7 = nI n ∧ ∀ i, i < n → M 195 i = N 5 i ∧ 0 ≤ (N 5 i).toInt
def RD (M : ps_M) (w : Nat → Int32) (n k p K : Nat) (v : Int32) : Prop := ∀ (f : Nat) (Mx : ps_M), n - p < f → (∀ i, i ≠ 196 → Mx i = M i) → Mx 196 k = v → (∀ j, j < k → Mx 196 j = w j) → (fv_X0_readNumbers_11 f (nI k) (nI p) Mx).1 = nI K ∧ (∀ i, i ≠ 196 → (fv_X0_readNumbers_11 f (nI k) (nI p) Mx).2 i = M i) ∧ (∀ j, j < K → (fv_X0_readNumbers_11 f (nI k) (nI p) Mx).2 196 j = w j) ∧ ok_X0_readNumbers_11 f (nI k) (nI p) Mx
def RES (M N : ps_M) (n k p : Nat) (v cls : Int32) (ref : Int32 × ps_M) : Prop := (∀ i, i ≠ 0 → i ≠ 6 → ref.2 i = N i) ∧ (∀ j, j ≠ 9 → ref.2 0 j = N 0 j) ∧ (∀ j, j < k → ref.2 6 j = N 6 j) ∧ ((∃ q, q ≤ n ∧ cls = nI q ∧ ref.1 = nI q) ∨ (cls = -1 ∧ ref.1 = -5 ∧ ∃ K, k < K ∧ K ≤ 30 ∧ ref.2 0 9 = nI K ∧ (∀ j, k ≤ j → j < K → 0 ≤ (ref.2 6 j).toInt ∧ (ref.2 6 j).toInt ≤ 999) ∧ RD M (ref.2 6) n k p K v))
theorem dg_in (c : Int32) (M N : ps_M) : fv_X0_isDigit c M = fv_X6_in c 48 57 N := rfl
theorem sg_at {M N : ps_M} {n p : Nat} (ht : TX M N n) (hp : p < n) : fv_X6_signAt (nI p) N = M 195 p ∧ ok_X6_signAt (nI p) N := by
  obtain ⟨h1, h2, h3, h4⟩ := ht
  unfold fv_X6_signAt ok_X6_signAt
  rw [h3, pq_nI (by omega)]
  have e : (nI n ≤ nI p) = False := pq_leF hp (by omega)
  have v1 : vp_in (nI p) 60 := pq_vin (by omega) (by omega)
  simp only [e, v1, if_false, false_implies, not_false_eq_true, true_implies, and_true]
  exact (h4 p hp).1.symm
theorem sg_end {M N : ps_M} {n : Nat} (ht : TX M N n) : fv_X6_signAt (nI n) N = -5 ∧ ok_X6_signAt (nI n) N := by
  obtain ⟨h1, h2, h3, h4⟩ := ht
  unfold fv_X6_signAt ok_X6_signAt
  rw [h3]
  have e : (nI n ≤ nI n) = True := pq_leT (by omega) (by omega) (by omega)
  simp only [e, if_true, true_implies, not_true_eq_false, false_implies, and_true]
/-- a number is laid down -/
def nst (N : ps_M) (k : Nat) (v : Int32) : ps_M := ps_st (ps_st N 6 k v) 0 9 (nI (k + 1))
theorem nst_tx {M N : ps_M} {n k : Nat} {v : Int32} (ht : TX M N n) : TX M (nst N k v) n := by
  obtain ⟨h1, h2, h3, h4⟩ := ht
  unfold nst
  refine ⟨h1, h2, ?_, fun i hi => ?_⟩
  · rw [pq_stne (Or.inr (by omega)), ps_st_ne (by omega)]; exact h3
  · rw [ps_st_ne (by omega), ps_st_ne (by omega)]; exact h4 i hi
theorem nst_9 {N : ps_M} {k : Nat} {v : Int32} : nst N k v 0 9 = nI (k + 1) := pq_stself
theorem nst_f {N : ps_M} {k : Nat} {v : Int32} : (∀ i, i ≠ 0 → i ≠ 6 → nst N k v i = N i) ∧ (∀ j, j ≠ 9 → nst N k v 0 j = N 0 j) ∧ (∀ j, j ≠ k → nst N k v 6 j = N 6 j) ∧ nst N k v 6 k = v := by
  unfold nst
  refine ⟨fun i i1 i2 => (ps_st_ne i1).trans (ps_st_ne i2), fun j hj => by rw [pq_stne (Or.inr hj), ps_st_ne (by omega)], fun j hj => by rw [ps_st_ne (by omega), pq_stne (Or.inr hj)], by rw [ps_st_ne (by omega), pq_stself]⟩
theorem f93 {M N : ps_M} {n k p : Nat} {v : Int32} (rec9 : Int32 → Int32 → ps_M → Int32 × ps_M) (okr9 : Int32 → Int32 → ps_M → Prop) (ht : TX M N n) (hk : N 0 9 = nI k) (hk30 : k < 30) (hp : p ≤ n) : (p = n → fv_X6_faultOf_93 rec9 (nI p) v N = rec9 (nI p) 0 (nst N k v) ∧ (okr9 (nI p) 0 (nst N k v) → ok_X6_faultOf_93 rec9 okr9 (nI p) v N)) ∧ (p < n → M 195 p = 44 → fv_X6_faultOf_93 rec9 (nI p) v N = rec9 (nI (p + 1)) 1 (nst N k v) ∧ (okr9 (nI (p + 1)) 1 (nst N k v) → ok_X6_faultOf_93 rec9 okr9 (nI p) v N)) ∧ (p < n → ¬ (M 195 p = 44) → fv_X6_faultOf_93 rec9 (nI p) v N = (nI p, nst N k v) ∧ ok_X6_faultOf_93 rec9 okr9 (nI p) v N) := by
  have hn := ht.1
  have e0 : (ps_st N 6 k v) 0 9 = nI k := by rw [ps_st_ne (by omega)]; exact hk
  have e1 : ps_st (ps_st N 6 k v) 0 9 (nI (k + 1)) = nst N k v := rfl
  have e2 : nst N k v 0 7 = nI n := (nst_tx ht).2.2.1
  have v6 : vp_in (nI k) 60 := pq_vin (by omega) (by omega)
  have z : ∀ x : Int32, x + 0 = x := Int32.add_zero
  unfold fv_X6_faultOf_93 ok_X6_faultOf_93 fv_X6_faultOf_126 ok_X6_faultOf_126 fv_X6_faultOf_143 ok_X6_faultOf_143
  rw [hk, pq_nI (by omega), e0, pq_nIadd1, e1, e2]
  refine ⟨fun hpn => ?_, fun hlt hc => ?_, fun hlt hc => ?_⟩
  · have l : (nI n ≤ nI p) = True := pq_leT (by omega) (by omega) (by omega)
    simp only [l, v6, z, if_true, true_implies, not_true_eq_false, false_implies, and_true, true_and]
    exact id
  · have l : (nI n ≤ nI p) = False := pq_leF hlt (by omega)
    obtain ⟨s1, s2⟩ := sg_at (nst_tx (k := k) (v := v) ht) hlt
    rw [hc] at s1
    simp only [l, v6, s1, s2, pq_10, pq_nIadd1, if_true, if_false, true_implies, not_true_eq_false, not_false_eq_true, false_implies, and_true, true_and]
    exact id
  · have l : (nI n ≤ nI p) = False := pq_leF hlt (by omega)
    obtain ⟨s1, s2⟩ := sg_at (nst_tx (k := k) (v := v) ht) hlt
    have hc2 : ¬ (fv_X6_signAt (nI p) (nst N k v) = 44) := by rw [s1]; exact hc
    simp only [l, v6, hc2, s2, pq_10, if_true, if_false, true_implies, not_true_eq_false, not_false_eq_true, false_implies, and_true, true_and]
    try trivial
