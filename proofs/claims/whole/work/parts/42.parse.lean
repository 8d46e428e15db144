/-! ===== the two readers of the text, sign by sign ===== -/
theorem RES_fault {M N N' : ps_M} {n k p q : Nat} {v : Int32} (hq : q ≤ n) (h1 : ∀ i, i ≠ 0 → i ≠ 6 → N' i = N i) (h2 : ∀ j, j ≠ 9 → N' 0 j = N 0 j) (h3 : ∀ j, j < k → N' 6 j = N 6 j) : RES M N n k p v (nI q) (nI q, N') := ⟨h1, h2, h3, Or.inl ⟨q, hq, rfl, rfl⟩⟩
theorem rd_end {M : ps_M} {w : Nat → Int32} {n k : Nat} {v : Int32} (hn : n ≤ 60) (hM : M 194 2 = nI n) (hw : w k = v) : RD M w n k n (k + 1) v := by
  intro f Mx hf h1 h2 h3
  cases f with
  | zero => omega
  | succ f =>
    have l : (nI n ≤ nI n) = True := pq_leT (by omega) (by omega) (by omega)
    rw [fv_X0_readNumbers_11_s, ok_X0_readNumbers_11_s, h1 194 (by omega), hM]
    simp only [l, if_true, true_implies, not_true_eq_false, false_implies, and_true, pq_nIadd1]
    refine ⟨trivial, h1, fun j hj => ?_⟩
    by_cases e : j = k
    · rw [e, h2, hw]
    · exact h3 j (by omega)
theorem rd_digit {M : ps_M} {w : Nat → Int32} {n k p K : Nat} {v v' : Int32} (hn : n ≤ 60) (hM : M 194 2 = nI n) (hp : p < n) (hk : k < 30) (hc : ¬ (M 195 p = 44)) (hv : v' = v * 10 + (M 195 p - 48)) (h : RD M w n k (p + 1) K v') : RD M w n k p K v := by
  intro f Mx hf h1 h2 h3
  cases f with
  | zero => omega
  | succ f =>
    have l : (nI n ≤ nI p) = False := pq_leF hp (by omega)
    have v1 : vp_in (nI p) 60 := pq_vin (by omega) (by omega)
    have v2 : vp_in (nI k) 30 := pq_vin hk (by omega)
    obtain ⟨i1, i2, i3, i4⟩ := h f (ps_st Mx 196 k v') (by omega) (fun i hi => (ps_st_ne hi).trans (h1 i hi)) pq_stself (fun j hj => by rw [pq_stne (Or.inr (by omega))]; exact h3 j hj)
    rw [fv_X0_readNumbers_11_s, ok_X0_readNumbers_11_s, h1 194 (by omega), h1 195 (by omega), hM, pq_nI (by omega), pq_nI (by omega), h2, ← hv]
    simp only [l, hc, v1, v2, pq_nIadd1, if_false, false_implies, not_false_eq_true, true_implies, true_and]
    exact ⟨i1, i2, i3, i4⟩
theorem rd_comma {M : ps_M} {w : Nat → Int32} {n k p K : Nat} {v : Int32} (hn : n ≤ 60) (hM : M 194 2 = nI n) (hp : p < n) (hk : k + 1 < 30) (hc : M 195 p = 44) (hw : w k = v) (h : RD M w n (k + 1) (p + 1) K 0) : RD M w n k p K v := by
  intro f Mx hf h1 h2 h3
  cases f with
  | zero => omega
  | succ f =>
    have l : (nI n ≤ nI p) = False := pq_leF hp (by omega)
    have l30 : ((30 : Int32) ≤ nI (k + 1)) = False := by
      apply eq_false
      rw [show (30 : Int32) = nI 30 from rfl, pq_le, pq_nT (by omega), pq_nT (by omega)]; omega
    have v1 : vp_in (nI p) 60 := pq_vin (by omega) (by omega)
    have v2 : vp_in (nI (k + 1)) 30 := pq_vin hk (by omega)
    obtain ⟨i1, i2, i3, i4⟩ := h f (ps_st Mx 196 (k + 1) 0) (by omega) (fun i hi => (ps_st_ne hi).trans (h1 i hi)) pq_stself (fun j hj => by
      rw [pq_stne (Or.inr (by omega))]
      by_cases e : j = k
      · rw [e, h2, hw]
      · exact h3 j (by omega))
    rw [fv_X0_readNumbers_11_s, ok_X0_readNumbers_11_s, h1 194 (by omega), h1 195 (by omega), hM, pq_nI (by omega), pq_nIadd1, pq_nI (show k + 1 < 4000 by omega)]
    simp only [l, hc, l30, v1, v2, pq_nIadd1, if_true, if_false, true_implies, not_true_eq_false, false_implies, not_false_eq_true, true_and, and_true]
    exact ⟨i1, i2, i3, i4⟩
def Cst (M : ps_M) (n p : Nat) : Prop := ∀ (k : Nat) (N : ps_M), TX M N n → N 0 9 = nI k → 2 * k ≤ p → ∀ f1 f2, n - p < f1 → n - p + 1 < f2 → RES M N n k p 0 (fv_X0_fault_6 f1 0 0 (nI p) M) (fv_X6_faultOf_9 f2 (nI p) 1 N) ∧ ok_X0_fault_6 f1 0 0 (nI p) M ∧ ok_X6_faultOf_9 f2 (nI p) 1 N
def Cmd (M : ps_M) (n p : Nat) : Prop := ∀ (k g : Nat) (z v : Int32) (N : ps_M), TX M N n → N 0 9 = nI k → 2 * k + 1 ≤ p → ((z = 1 ∧ v = 0 ∧ g = 1) ∨ (z = 0 ∧ 0 < v.toInt ∧ ((g = 1 ∧ v.toInt ≤ 9) ∨ (g = 2 ∧ v.toInt ≤ 99) ∨ (g = 3 ∧ v.toInt ≤ 999)))) → ∀ f1 f2 f3, n - p < f1 → n - p < f2 → n - p < f3 → RES M N n k p v (fv_X0_fault_6 f1 (nI g) z (nI p) M) (fv_X6_faultOf_45 (fun a1 a2 M => fv_X6_faultOf_9 f2 a1 a2 M) f3 (nI p) v (nI (g - 1)) N) ∧ ok_X0_fault_6 f1 (nI g) z (nI p) M ∧ ok_X6_faultOf_45 (fun a1 a2 M => fv_X6_faultOf_9 f2 a1 a2 M) (fun a1 a2 M => ok_X6_faultOf_9 f2 a1 a2 M) f3 (nI p) v (nI (g - 1)) N
theorem cst_end {M : ps_M} {n : Nat} (hM : M 194 2 = nI n) : Cst M n n := by
  intro k N ht hk h2 f1 f2 hf1 hf2
  have hn := ht.1
  cases f1 with
  | zero => omega
  | succ f1 =>
    cases f2 with
    | zero => omega
    | succ f2 =>
      have l : (nI n ≤ nI n) = True := pq_leT (by omega) (by omega) (by omega)
      obtain ⟨s1, s2⟩ := sg_end ht
      have i0 : fv_X6_in (-5) 48 57 N = 0 := by unfold fv_X6_in; decide
      rw [fv_X0_fault_6_s, ok_X0_fault_6_s, fv_X6_faultOf_9_s, ok_X6_faultOf_9_s, hM, s1]
      simp only [l, i0, s2, pq_10, ok_X6_in, if_true, if_false, true_implies, not_true_eq_false, false_implies, not_false_eq_true, true_and, and_true]
      exact RES_fault (Nat.le_refl n) (fun _ _ _ => rfl) (fun _ _ => rfl) (fun _ _ => rfl)
theorem cmd_end {M : ps_M} {n : Nat} (hM : M 194 2 = nI n) : Cmd M n n := by
  intro k g z v N ht hk h2 hg f1 f2 f3 hf1 hf2 hf3
  have hn := ht.1
  cases f1 with
  | zero => omega
  | succ f1 =>
    cases f2 with
    | zero => omega
    | succ f2 =>
      cases f3 with
      | zero => omega
      | succ f3 =>
        have l : (nI n ≤ nI n) = True := pq_leT (by omega) (by omega) (by omega)
        have hg3 : 1 ≤ g ∧ g ≤ 3 := by omega
        have g0 : (nI g = (0 : Int32)) = False := eq_false (fun e => by
          rw [show (0 : Int32) = nI 0 from rfl, pq_inj (by omega) (by omega)] at e; omega)
        obtain ⟨s1, s2⟩ := sg_end ht
        have i0 : fv_X6_in (-5) 48 57 N = 0 := by unfold fv_X6_in; decide
        obtain ⟨e1, e2⟩ := (f93 (v := v) (fun a1 a2 M => fv_X6_faultOf_9 (f2 + 1) a1 a2 M) (fun a1 a2 M => ok_X6_faultOf_9 (f2 + 1) a1 a2 M) ht hk (by omega) (Nat.le_refl n)).1 rfl
        rw [fv_X6_faultOf_9_s, if_pos rfl] at e1
        have o1 : ok_X6_faultOf_93 (fun a1 a2 M => fv_X6_faultOf_9 (f2 + 1) a1 a2 M) (fun a1 a2 M => ok_X6_faultOf_9 (f2 + 1) a1 a2 M) (nI n) v N := e2 (by rw [ok_X6_faultOf_9_s]; exact ⟨fun _ => trivial, fun z => absurd rfl z⟩)
        have e3 : fv_X6_faultOf_45 (fun a1 a2 M => fv_X6_faultOf_9 (f2 + 1) a1 a2 M) (f3 + 1) (nI n) v (nI (g - 1)) N = (-5, nst N k v) := by
          rw [fv_X6_faultOf_45_s, s1, i0, if_pos rfl, e1]
          split
          · rfl
          · split <;> rfl
        have o3 : ok_X6_faultOf_45 (fun a1 a2 M => fv_X6_faultOf_9 (f2 + 1) a1 a2 M) (fun a1 a2 M => ok_X6_faultOf_9 (f2 + 1) a1 a2 M) (f3 + 1) (nI n) v (nI (g - 1)) N := by
          rw [ok_X6_faultOf_45_s, s1, i0]
          exact ⟨fun _ => o1, fun _ => ⟨fun _ => o1, fun _ => ⟨s2, trivial, fun _ => o1, fun z => absurd rfl z⟩⟩⟩
        obtain ⟨t1, t2, t3, t4⟩ := nst_f (N := N) (k := k) (v := v)
        rw [e3]
        refine ⟨⟨t1, t2, fun j hj => t3 j (by omega), Or.inr ⟨?_, rfl, k + 1, by omega, by omega, nst_9 (N := N) (k := k) (v := v), fun j j1 j2 => ?_, rd_end hn hM t4⟩⟩, ?_, o3⟩
        · rw [fv_X0_fault_6_s, hM]
          simp only [l, g0, if_true, if_false]
        · rw [show j = k by omega]
          show 0 ≤ (nst N k v 6 k).toInt ∧ (nst N k v 6 k).toInt ≤ 999
          rw [t4]
          rcases hg with ⟨-, h, -⟩ | h
          · rw [h]; decide
          · omega
        · rw [ok_X0_fault_6_s, hM]
          simp only [l, if_true, true_implies, not_true_eq_false, false_implies, and_true]
