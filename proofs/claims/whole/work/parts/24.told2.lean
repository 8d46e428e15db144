/-! ===== the busiest stations; sums over stations ===== -/
theorem pq_accE {α : Type} (W : Nat → Int32 → Int32 → α) (O : Nat → Int32 → Int32 → Prop) (E9 : Int32 → α) (OE : Int32 → Prop) (b : Nat) (δ : Nat → Int32) (hs : ∀ (n c : Nat) (acc : Int32), c < b → W (n + 1) acc (nI c) = W n (acc + δ c) (nI (c + 1)) ∧ (O n (acc + δ c) (nI (c + 1)) → O (n + 1) acc (nI c))) (he : ∀ (n : Nat) (acc : Int32), W (n + 1) acc (nI b) = E9 acc ∧ (OE acc → O (n + 1) acc (nI b))) : ∀ (k c n : Nat) (acc : Int32), c + k = b → k < n → W n acc (nI c) = E9 (pq_sm δ k c acc) ∧ (OE (pq_sm δ k c acc) → O n acc (nI c)) := by
  intro k
  induction k with
  | zero =>
    intro c n acc h1 h2
    cases n with
    | zero => omega
    | succ n => rw [show c = b by omega]; exact he n acc
  | succ k ih =>
    intro c n acc h1 h2
    cases n with
    | zero => omega
    | succ n =>
      obtain ⟨e1, e2⟩ := hs n c acc (by omega)
      obtain ⟨e3, e4⟩ := ih (c + 1) n (acc + δ c) (by omega) (by omega)
      exact ⟨e1.trans e3, fun q => e2 (e4 q)⟩
theorem mo_busy {N : ps_M} {a : Nat} (H1 : N 1 1 = nI a) (ha : a ≤ 6) {c0 : Nat} (h0 : c0 < 6) (x : Int32) (rec9 : Int32 → Int32 → ps_M → Int32) (okr9 : Int32 → Int32 → ps_M → Prop) : fv_X6_busiest_24 rec9 ps_FU x (nI c0) 0 0 N = (if pq_sm (fun c => if pq_sv (N 1) c0 0 < pq_sv (N 1) c 0 then 1 else if pq_sv (N 1) c 0 = pq_sv (N 1) c0 0 then (if nI c0 ≤ nI c then 0 else 1) else 0) a 0 0 = x then nI c0 else rec9 x (nI (c0 + 1)) N) ∧ ((¬ pq_sm (fun c => if pq_sv (N 1) c0 0 < pq_sv (N 1) c 0 then 1 else if pq_sv (N 1) c 0 = pq_sv (N 1) c0 0 then (if nI c0 ≤ nI c then 0 else 1) else 0) a 0 0 = x → okr9 x (nI (c0 + 1)) N) → ok_X6_busiest_24 rec9 okr9 ps_FU x (nI c0) 0 0 N) := by
  have v2 : vp_in (1 : Int32) 237 := pq_vin (n := 1) (by omega) (by omega)
  have key := pq_accE (fun n acc y => fv_X6_busiest_24 rec9 n x (nI c0) acc y N) (fun n acc y => ok_X6_busiest_24 rec9 okr9 n x (nI c0) acc y N) (fun r => if r = x then nI c0 else rec9 x (nI (c0 + 1)) N) (fun r => ¬ r = x → okr9 x (nI (c0 + 1)) N) a (fun c => if pq_sv (N 1) c0 0 < pq_sv (N 1) c 0 then 1 else if pq_sv (N 1) c 0 = pq_sv (N 1) c0 0 then (if nI c0 ≤ nI c then 0 else 1) else 0) ?_ ?_ a 0 ps_FU 0 (by omega) (pq_fu (by omega))
  · exact key
  · intro n c acc hc
    have e1 : fv_X6_of (nI c) 0 N = pq_sv (N 1) c 0 := pq_of (j := 0) (by omega) (by omega) N
    have o1 : ok_X6_of (nI c) 0 N := pq_ofok (j := 0) (by omega) (by omega) N
    have e2 : fv_X6_of (nI c0) 0 N = pq_sv (N 1) c0 0 := pq_of (j := 0) (by omega) (by omega) N
    have o2 : ok_X6_of (nI c0) 0 N := pq_ofok (j := 0) (by omega) (by omega) N
    rw [fv_X6_busiest_24_s, ok_X6_busiest_24_s, pq_c1, H1]
    rcases Classical.propComplete (pq_sv (N 1) c0 0 < pq_sv (N 1) c 0) with m0 | m0 <;> rcases Classical.propComplete (pq_sv (N 1) c 0 = pq_sv (N 1) c0 0) with m1 | m1 <;> rcases Classical.propComplete (nI c0 ≤ nI c) with m2 | m2 <;> simp only [m0, m1, m2, pq_leF hc (by omega), pq_nIadd1, e1, o1, e2, o2, v2, fv_X6_busiest_74, ok_X6_busiest_74, fv_X6_busiest_78, ok_X6_busiest_78, fv_X6_busiest_79, ok_X6_busiest_79, if_true, if_false, true_implies, false_implies, not_true_eq_false, not_false_eq_true, true_and, and_true, and_self, imp_self, eq_self, Int32.add_zero, implies_true]
  · intro n acc
    rw [fv_X6_busiest_24_s, ok_X6_busiest_24_s, pq_c1, H1]
    simp only [pq_leT (show ¬ a < a by omega) (by omega) (by omega), v2, pq_nIadd1, if_true, if_false, true_implies, false_implies, not_true_eq_false, not_false_eq_true, true_and, and_true, and_self, imp_self, eq_self, implies_true]
theorem t_busiest {M N : ps_M} {h a b : Nat} {B : Int} {kk : Nat} {P : Nat → Prop} {K : Nat → (Nat → Int32) → (Nat → Int32) → Prop} (hB : B ≤ 100000) (hx : DX M 1 (N 1) h a b (fun s => pq_S (P s) B kk (s < a)) K) (x : Int32) : ∀ (k s n1 n2 : Nat), s + k = a → k < n1 → k < n2 → fv_X5_busiest_9 n1 x (nI s) M = fv_X6_busiest_9 n2 x (nI s) N ∧ ok_X5_busiest_9 n1 x (nI s) M ∧ ok_X6_busiest_9 n2 x (nI s) N := by
  have ha := hx.2.2.1.2.1
  have v2 : vp_in (1 : Int32) 237 := pq_vin (n := 1) (by omega) (by omega)
  intro k
  induction k with
  | zero =>
    intro c n1 n2 h1 h2 h3
    cases n1 with
    | zero => omega
    | succ n1 =>
      cases n2 with
      | zero => omega
      | succ n2 =>
        rw [fv_X5_busiest_9_s, fv_X6_busiest_9_s, ok_X5_busiest_9_s, ok_X6_busiest_9_s, pq_c1, hx.1.2.1, hx.2.1.2.1]
        simp only [pq_leT (show ¬ c < a by omega) (by omega) (by omega), v2, if_true, true_implies, not_true_eq_false, false_implies, and_true]
  | succ k ih =>
    intro c n1 n2 h1 h2 h3
    cases n1 with
    | zero => omega
    | succ n1 =>
      cases n2 with
      | zero => omega
      | succ n2 =>
        obtain ⟨i1, i2, i3⟩ := ih (c + 1) n1 n2 (by omega) (by omega) (by omega)
        obtain ⟨p1, p2⟩ := cl_byQueue hx.1.2.1 ha (c0 := c) (by omega)
        obtain ⟨q1, q2⟩ := mo_busy hx.2.1.2.1 ha (c0 := c) (by omega) x (fun a1 a2 M => fv_X6_busiest_9 n2 a1 a2 M) (fun a1 a2 M => ok_X6_busiest_9 n2 a1 a2 M)
        have e : pq_sm (fun s => if 0 < M (1 + 1 + 1 + 2 * s) 1 - M (1 + 1 + 1 + 2 * c) 1 then 1 else if M (1 + 1 + 1 + 2 * s) 1 - M (1 + 1 + 1 + 2 * c) 1 = 0 then (if nI c ≤ nI s then 0 else 1) else 0) a 0 0 = pq_sm (fun s => if pq_sv (N 1) c 0 < pq_sv (N 1) s 0 then 1 else if pq_sv (N 1) s 0 = pq_sv (N 1) c 0 then (if nI c ≤ nI s then 0 else 1) else 0) a 0 0 := pq_sm_congr _ _ _ (fun s _ hs => t_byQueue hB hx (by omega) (by omega))
        rw [e] at p1
        rw [fv_X5_busiest_9_s, fv_X6_busiest_9_s, ok_X5_busiest_9_s, ok_X6_busiest_9_s, pq_c1, hx.1.2.1, hx.2.1.2.1]
        simp only [pq_leF (show c < a by omega) (by omega), pq_nIadd1, v2, p1, p2, i1, i2, if_false, false_implies, true_and, not_false_eq_true, true_implies, implies_true, and_self, and_true]
        exact ⟨q1.symm, q2 (fun _ => i3)⟩
/-! the total station -/
theorem t_sumloop {M : ps_M} {a : Nat} (ha : a ≤ 6) : ∀ (k c n : Nat) (Mx : ps_M), c + k = a → k < n → (∀ i, i ≠ 82 → Mx i = M i) → (∀ i, i ≠ 82 → fv_X4_becomeSumOf_32 n 82 2 (nI a) (nI c) Mx i = M i) ∧ (∀ j, (j = 1 ∨ j = 3 ∨ j = 4 ∨ j = 5 ∨ j = 6 ∨ j = 10) → fv_X4_becomeSumOf_32 n 82 2 (nI a) (nI c) Mx 82 j = pq_sm (fun s => M (2 + 1 + 2 * s) j) k c (Mx 82 j)) ∧ ok_X4_becomeSumOf_32 n 82 2 (nI a) (nI c) Mx := by
  intro k
  induction k with
  | zero =>
    intro c n Mx h1 h2 h3
    cases n with
    | zero => omega
    | succ n =>
      rw [fv_X4_becomeSumOf_32_s, ok_X4_becomeSumOf_32_s, show c = a by omega]
      simp only [pq_leT (show ¬ a < a by omega) (by omega) (by omega), if_true, true_implies, not_true_eq_false, false_implies, and_true]
      exact ⟨h3, fun j _ => rfl⟩
  | succ k ih =>
    intro c n Mx h1 h2 h3
    cases n with
    | zero => omega
    | succ n =>
      have v1 : vp_in (nI c) 6 := pq_vin (by omega) (by omega)
      rw [fv_X4_becomeSumOf_32_s, ok_X4_becomeSumOf_32_s]
      simp only [pq_leF (show c < a by omega) (by omega), pq_nI (show c < 4000 by omega), pq_nIadd1, v1, fv_X4_becomeSumOf_67, ok_X4_becomeSumOf_67, fv_X4_becomeSumOf_97, ok_X4_becomeSumOf_97, fv_X4_becomeSumOf_127, ok_X4_becomeSumOf_127, if_false, false_implies, true_and, not_false_eq_true, true_implies, and_true]
      have hne : 2 + 1 + 2 * c ≠ 82 := by omega
      generalize hg : ps_st _ 82 10 _ = Mz
      obtain ⟨i1, i2, i3⟩ := ih (c + 1) n Mz (by omega) (by omega) (fun i hi => by
        rw [← hg]
        simp only [ps_st_ne hi]
        exact h3 i hi)
      refine ⟨i1, fun j hj => ?_, i3⟩
      rw [i2 j hj]
      show pq_sm _ k (c + 1) _ = pq_sm _ k (c + 1) (Mx 82 j + M (2 + 1 + 2 * c) j)
      congr 1
      rw [← hg]
      rcases hj with rfl | rfl | rfl | rfl | rfl | rfl <;> simp [ps_st, hne, h3 _ hne]
theorem t_total {M : ps_M} {a : Nat} (H1 : M 1 1 = nI a) (ha : a ≤ 6) : (∀ i, i ≠ 82 → fv_X5_total M i = M i) ∧ (∀ j, (j = 1 ∨ j = 3 ∨ j = 4 ∨ j = 5 ∨ j = 6 ∨ j = 10) → fv_X5_total M 82 j = pq_sm (fun s => M (1 + 1 + 1 + 2 * s) j) a 0 0) ∧ ok_X5_total M := by
  obtain ⟨Mz, hg⟩ : ∃ Mz, Mz = (ps_st (ps_st (ps_st (ps_st (ps_st (ps_st M 82 1 0) 82 3 0) 82 4 0) 82 5 0) 82 6 0) 82 10 0) := ⟨_, rfl⟩
  have hz : ∀ i, i ≠ 82 → Mz i = M i := fun i hi => by
    rw [hg]; simp only [ps_st_ne hi]
  obtain ⟨i1, i2, i3⟩ := t_sumloop (M := M) ha a 0 ps_FU Mz (by omega) (pq_fu (by omega)) hz
  have e : fv_X5_total M = fv_X4_becomeSumOf_32 ps_FU 82 2 (nI a) (nI 0) Mz := by
    rw [hg]; unfold fv_X5_total fv_X4_becomeSumOf fv_X4_becomeSumOf_30; rw [H1]; rfl
  refine ⟨fun i hi => by rw [e]; exact i1 i hi, fun j hj => ?_, ?_⟩
  · rw [e, i2 j hj]
    have hz0 : Mz 82 j = 0 := by
      rw [hg]; rcases hj with rfl | rfl | rfl | rfl | rfl | rfl <;> simp [ps_st]
    rw [hz0]
  · unfold ok_X5_total ok_X4_becomeSumOf ok_X4_becomeSumOf_30
    rw [H1, ← hg]
    exact ⟨i3, trivial⟩
