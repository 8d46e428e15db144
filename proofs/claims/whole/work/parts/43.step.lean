/-! ===== one sign further ===== -/
theorem cst_step {M : ps_M} {n p : Nat} (hM : M 194 2 = nI n) (hp : p < n) (h : Cmd M n (p + 1)) : Cst M n p := by
  intro k N ht hk h2 f1 f2 hf1 hf2
  have hn := ht.1
  cases f1 with
  | zero => omega
  | succ f1 =>
    cases f2 with
    | zero => omega
    | succ f2 =>
      have l : (nI n ≤ nI p) = False := pq_leF hp (by omega)
      have v1 : vp_in (nI p) 60 := pq_vin (by omega) (by omega)
      obtain ⟨s1, s2⟩ := sg_at ht hp
      have n03 : ((0 : Int32) = 3) = False := by decide
      rw [fv_X0_fault_6_s, ok_X0_fault_6_s, fv_X6_faultOf_9_s, ok_X6_faultOf_9_s, hM, s1, pq_nI (by omega), dg_in _ M N]
      rcases in_01 (M 195 p) 48 57 N with dg | dg
      · have ef : (if M 195 p = 44 then nI p else nI p) = nI p := by split <;> rfl
        simp only [l, v1, s2, dg, pq_10, ef, ok_X6_in, ok_X0_isDigit, if_true, if_false, true_implies, not_true_eq_false, false_implies, not_false_eq_true, true_and, and_true, implies_true]
        exact RES_fault (by omega) (fun _ _ _ => rfl) (fun _ _ => rfl) (fun _ _ => rfl)
      · have hb := in_b dg
        have g48 : ((48 : Int32)).toInt = 48 := by decide
        have g57 : ((57 : Int32)).toInt = 57 := by decide
        have g44 : ((44 : Int32)).toInt = 44 := by decide
        have ev : (M 195 p - 48).toInt = (M 195 p).toInt - 48 := by rw [pq_sub (by omega) (by omega), g48]
        have c44 : ¬ (M 195 p = 44) := fun e => by rw [e, g44] at hb; omega
        have z1 : (0 : Int32) + 1 = nI 1 := by decide
        have key : ∀ z : Int32, ((z = 1 ∧ M 195 p - 48 = 0) ∨ (z = 0 ∧ 0 < (M 195 p - 48).toInt)) → RES M N n k p 0 (fv_X0_fault_6 f1 (nI 1) z (nI (p + 1)) M) (fv_X6_faultOf_45 (fun a1 a2 M => fv_X6_faultOf_9 f2 a1 a2 M) ps_FU (nI (p + 1)) (M 195 p - 48) 0 N) ∧ ok_X0_fault_6 f1 (nI 1) z (nI (p + 1)) M ∧ ok_X6_faultOf_45 (fun a1 a2 M => fv_X6_faultOf_9 f2 a1 a2 M) (fun a1 a2 M => ok_X6_faultOf_9 f2 a1 a2 M) ps_FU (nI (p + 1)) (M 195 p - 48) 0 N := by
          intro z hz
          have hh := h k 1 z (M 195 p - 48) N ht hk (by omega) (by
            rcases hz with ⟨a, b⟩ | ⟨a, b⟩
            · exact Or.inl ⟨a, b, rfl⟩
            · exact Or.inr ⟨a, b, Or.inl ⟨rfl, by omega⟩⟩) f1 f2 ps_FU (by omega) (by omega) (by unfold ps_FU; omega)
          rw [show (nI (1 - 1) : Int32) = 0 from rfl] at hh
          obtain ⟨⟨r1, r2, r3, r4⟩, r5, r6⟩ := hh
          refine ⟨⟨r1, r2, r3, ?_⟩, r5, r6⟩
          rcases r4 with r4 | ⟨a1, a2, K, a3, a4, a5, a6, a7⟩
          · exact Or.inl r4
          · exact Or.inr ⟨a1, a2, K, a3, a4, a5, a6, rd_digit hn hM hp (by omega) c44 (by rw [Int32.zero_mul, Int32.zero_add]) a7⟩
        by_cases c48 : M 195 p = 48
        · obtain ⟨k1, k2, k3⟩ := key 1 (Or.inl ⟨rfl, by rw [c48]; decide⟩)
          rw [← z1] at k1 k2
          simp only [l, v1, s2, dg, pq_10, n03, fv_X0_fault_57, ok_X0_fault_57, pq_nIadd1, ok_X6_in, ok_X0_isDigit, if_true, if_false, true_implies, not_true_eq_false, false_implies, not_false_eq_true, true_and, and_true, implies_true]
          rw [if_pos c48]
          exact ⟨k1, ⟨fun _ => k2, fun z => absurd c48 z⟩, k3⟩
        · obtain ⟨k1, k2, k3⟩ := key 0 (Or.inr ⟨rfl, by
            rw [ev]
            have : ¬ ((M 195 p).toInt = 48) := fun e => c48 (pq_eq.mpr (by rw [e, g48]))
            omega⟩)
          rw [← z1] at k1 k2
          simp only [l, v1, s2, dg, pq_10, n03, c48, fv_X0_fault_56, ok_X0_fault_56, fv_X0_fault_57, ok_X0_fault_57, pq_nIadd1, ok_X6_in, ok_X0_isDigit, k2, k3, if_true, if_false, true_implies, not_true_eq_false, false_implies, not_false_eq_true, true_and, and_true, implies_true]
          exact k1
