/-! ===== the free ones and the busiest stations, by their places ===== -/
def FP (M : ps_M) (c : Nat) : Bool := decide (¬ fv_X1_isFree (1 + 14 + 1 + c) M = 0)
def FL (M : ps_M) (i j : Nat) : Bool := decide ((M (1 + 14 + 1 + i) 4).toInt < (M (1 + 14 + 1 + j) 4).toInt ∨ ((M (1 + 14 + 1 + i) 4).toInt = (M (1 + 14 + 1 + j) 4).toInt ∧ i < j))
def QL (M : ps_M) (i j : Nat) : Bool := decide ((M (1 + 1 + 1 + 2 * j) 1).toInt < (M (1 + 1 + 1 + 2 * i) 1).toInt ∨ ((M (1 + 1 + 1 + 2 * i) 1).toInt = (M (1 + 1 + 1 + 2 * j) 1).toInt ∧ i < j))
theorem OR_FL (M : ps_M) (n : Nat) : OR n (FL M) := by
  refine ⟨fun i _ => ?_, fun i j k _ _ _ h1 h2 => ?_, fun i j _ _ h => ?_⟩
  · exact decide_eq_false (by omega)
  · have h1 := of_decide_eq_true h1
    have h2 := of_decide_eq_true h2
    exact decide_eq_true (by omega)
  · by_cases q : (M (1 + 14 + 1 + i) 4).toInt < (M (1 + 14 + 1 + j) 4).toInt ∨ ((M (1 + 14 + 1 + i) 4).toInt = (M (1 + 14 + 1 + j) 4).toInt ∧ i < j)
    · exact Or.inl (decide_eq_true q)
    · exact Or.inr (decide_eq_true (by omega))
theorem OR_QL (M : ps_M) (n : Nat) : OR n (QL M) := by
  refine ⟨fun i _ => ?_, fun i j k _ _ _ h1 h2 => ?_, fun i j _ _ h => ?_⟩
  · exact decide_eq_false (by omega)
  · have h1 := of_decide_eq_true h1
    have h2 := of_decide_eq_true h2
    exact decide_eq_true (by omega)
  · by_cases q : (M (1 + 1 + 1 + 2 * j) 1).toInt < (M (1 + 1 + 1 + 2 * i) 1).toInt ∨ ((M (1 + 1 + 1 + 2 * i) 1).toInt = (M (1 + 1 + 1 + 2 * j) 1).toInt ∧ i < j)
    · exact Or.inl (decide_eq_true q)
    · exact Or.inr (decide_eq_true (by omega))
section PLACE
variable {M : ps_M} {h a b : Nat} {gv : Nat → Int32}
theorem p_K (hx : DI M 1 h a b gv) {c : Nat} (hc : c < b) : KI a h 0 1 (M (1 + 14 + 1 + c)) := by
  have hb := hx.1.2.2.2
  exact (hx.2.2 c (by omega)).1 hc
theorem p_S (hx : DI M 1 h a b gv) {s : Nat} (hs : s < a) : SI True h (gv s) (M (1 + 1 + 1 + 2 * s)) (M (1 + 1 + 1 + 2 * s + 1)) := by
  have ha := hx.1.2.2.1
  exact (hx.2.1 s (by omega)).1 hs
theorem p_before (hx : DI M 1 h a b gv) {i j : Nat} (hi : i < b) (hj : j < b) : fv_X2_comesBefore 1 (nI i) (nI j) M = nI (bN (FL M i j)) := by
  have hb := hx.1.2.2.2
  have hh := hx.1.2.1
  have k1 := p_K hx hi
  have k2 := p_K hx hj
  have b1 := k1.2.2.2.2.1
  have b2 := k2.2.2.2.2.1
  have c1 := k1.2.2.2.1
  have c2 := k2.2.2.2.1
  have es : (M (1 + 14 + 1 + i) 4 - M (1 + 14 + 1 + j) 4).toInt = (M (1 + 14 + 1 + i) 4).toInt - (M (1 + 14 + 1 + j) 4).toInt := pq_sub (by omega) (by omega)
  unfold fv_X2_comesBefore
  rw [pq_nI (show i < 4000 by omega), pq_nI (show j < 4000 by omega)]
  by_cases q1 : M (1 + 14 + 1 + i) 4 - M (1 + 14 + 1 + j) 4 < 0
  · rw [if_pos q1]
    rw [pq_lt, es, Int32.toInt_zero] at q1
    rw [show FL M i j = true from decide_eq_true (by omega)]
    rfl
  · rw [if_neg q1]
    rw [pq_lt, es, Int32.toInt_zero] at q1
    by_cases q2 : M (1 + 14 + 1 + i) 4 - M (1 + 14 + 1 + j) 4 = 0
    · rw [if_pos q2]
      rw [pq_eq, es, Int32.toInt_zero] at q2
      by_cases q3 : nI j ≤ nI i
      · rw [if_pos q3]
        rw [nI_leI (by omega) (by omega)] at q3
        rw [show FL M i j = false from decide_eq_false (by omega)]
        rfl
      · rw [if_neg q3]
        rw [nI_leI (by omega) (by omega)] at q3
        rw [show FL M i j = true from decide_eq_true (by omega)]
        rfl
    · rw [if_neg q2]
      rw [pq_eq, es, Int32.toInt_zero] at q2
      rw [show FL M i j = false from decide_eq_false (by omega)]
      rfl
theorem p_place (hx : DI M 1 h a b gv) {c : Nat} (hc : c < b) : fv_X2_placeAmongFree 1 (nI c) M = nI (rk b (FP M) (FL M) c) := by
  have hb := hx.1.2.2.2
  rw [(cl_place hx.1.1.2.2 hb (by omega)).1, show (0 : Int32) = nI 0 from rfl, sm_sN (f := fun j => bN (FP M j && FL M j c)) b 0 0 (fun j _ hj => ?_), Nat.zero_add]
  · rfl
  · rw [p_before hx (by omega) hc]
    unfold FP
    by_cases q : fv_X1_isFree (1 + 14 + 1 + j) M = nI 0
    · rw [if_pos q, decide_eq_false (fun z => z q)]
      rfl
    · rw [if_neg q, decide_eq_true (p := ¬ fv_X1_isFree (1 + 14 + 1 + j) M = 0) q, Bool.true_and]
      cases FL M j c <;> rfl
theorem p_free (hx : DI M 1 h a b gv) : fv_X2_freeClerks 1 M = nI (nP b (FP M)) := by
  have hb := hx.1.2.2.2
  rw [(cl_freeClerks hx.1.1.2.2 hb).1, show (0 : Int32) = nI 0 from rfl, sm_sN (f := fun j => bN (FP M j)) b 0 0 (fun j _ hj => ?_), Nat.zero_add]
  · rfl
  · unfold FP
    by_cases q : fv_X1_isFree (1 + 14 + 1 + j) M = nI 0
    · rw [if_pos q, decide_eq_false (fun z => z q)]
      rfl
    · rw [if_neg q, decide_eq_true (p := ¬ fv_X1_isFree (1 + 14 + 1 + j) M = 0) q]
      rfl
theorem p_freeloop (hx : DI M 1 h a b gv) {x : Nat} (hxx : x < 4000) : ∀ (k c n : Nat), c + k = b → k < n → ok_X5_free_9 n (nI x) (nI c) M ∧ (∀ i, c ≤ i → i < b → FP M i = true → rk b (FP M) (FL M) i = x → fv_X5_free_9 n (nI x) (nI c) M = nI i) ∧ ((∀ i, c ≤ i → i < b → FP M i = true → ¬ rk b (FP M) (FL M) i = x) → fv_X5_free_9 n (nI x) (nI c) M = -5) := by
  have hb := hx.1.2.2.2
  intro k
  induction k with
  | zero =>
    intro c n h1 h2
    cases n with
    | zero => omega
    | succ n =>
      have hcb : c = b := by omega
      subst hcb
      rw [fv_X5_free_9_s, ok_X5_free_9_s, hx.1.1.2.2]
      simp only [pq_leT (show ¬ c < c by omega) (by omega) (by omega), if_true, true_implies, not_true_eq_false, false_implies, and_true]
      refine ⟨trivial, fun i i1 i2 => absurd i2 (by omega), fun _ => trivial⟩
  | succ k ih =>
    intro c n h1 h2
    cases n with
    | zero => omega
    | succ n =>
      have hcb : c < b := by omega
      have v1 : vp_in (nI c) 12 := pq_vin (by omega) (by omega)
      have f2 := ok_free (1 + 14 + 1 + c) M
      have o2 := (cl_place hx.1.1.2.2 hb (c0 := c) (by omega)).2
      obtain ⟨i1, i2, i3⟩ := ih (c + 1) n (by omega) (by omega)
      have rb : rk b (FP M) (FL M) c < 4000 := by have := sN_b (f := fun j => FP M j && FL M j c) b 0; show sN _ b 0 < 4000; omega
      rw [fv_X5_free_9_s, ok_X5_free_9_s, hx.1.1.2.2]
      simp only [pq_leF hcb (by omega), pq_nI (show c < 4000 by omega), pq_nIadd1, v1, f2, o2, p_place hx hcb, pq_inj rb hxx, if_false, false_implies, not_false_eq_true, true_implies, true_and]
      by_cases q : fv_X1_isFree (1 + 14 + 1 + c) M = 0
      · have hF : FP M c = false := decide_eq_false (fun z => z q)
        simp only [q, if_true, true_implies, not_true_eq_false, false_implies, and_true]
        refine ⟨i1, fun i j1 j2 j3 j4 => ?_, fun z => i3 (fun i j1 j2 j3 => z i (by omega) j2 j3)⟩
        have : i ≠ c := fun y => by rw [y, hF] at j3; exact absurd j3 (by decide)
        exact i2 i (by omega) j2 j3 j4
      · have hF : FP M c = true := decide_eq_true q
        simp only [q, if_false, false_implies, not_false_eq_true, true_implies, true_and]
        by_cases z : rk b (FP M) (FL M) c = x
        · simp only [z, if_true, not_true_eq_false, false_implies, implies_true, and_true, true_and]
          refine ⟨fun i j1 j2 j3 j4 => ?_, fun y => absurd z (y c (by omega) hcb hF)⟩
          rw [rk_inj (OR_FL M b) hcb j2 hF j3 (z.trans j4.symm)]
        · simp only [z, if_false, not_false_eq_true, true_implies, false_implies, true_and]
          refine ⟨i1, fun i j1 j2 j3 j4 => ?_, fun y => i3 (fun i j1 j2 j3 => y i (by omega) j2 j3)⟩
          have : i ≠ c := fun y => by rw [y] at j4; exact z j4
          exact i2 i (by omega) j2 j3 j4
theorem p_freeAt (hx : DI M 1 h a b gv) {x : Nat} (hxx : x < 4000) : ok_X5_free (nI x) M ∧ (∀ i, i < b → FP M i = true → rk b (FP M) (FL M) i = x → fv_X5_free (nI x) M = nI i) ∧ (nP b (FP M) ≤ x → fv_X5_free (nI x) M = -5) := by
  have hb := hx.1.2.2.2
  have c0 : (0 : Int32) ≤ nI x := nI_pos' (by omega)
  obtain ⟨i1, i2, i3⟩ := p_freeloop hx hxx b 0 ps_FU (by omega) (pq_fu (by omega))
  have e : fv_X5_free (nI x) M = fv_X5_free_9 ps_FU (nI x) (nI 0) M := by
    unfold fv_X5_free
    rw [if_pos c0]
    rfl
  rw [e]
  refine ⟨⟨fun _ => i1, fun z => absurd c0 z⟩, fun i => i2 i (by omega), fun z => i3 (fun i _ j2 j3 j4 => ?_)⟩
  have := rk_bd (OR_FL M b) j2 j3
  omega
/-! stations -/
theorem p_q (hx : DI M 1 h a b gv) {s : Nat} (hs : s < a) : 0 ≤ (M (1 + 1 + 1 + 2 * s) 1).toInt ∧ (M (1 + 1 + 1 + 2 * s) 1).toInt ≤ 7500 ∧ 0 ≤ (M (1 + 1 + 1 + 2 * s) 3).toInt ∧ (M (1 + 1 + 1 + 2 * s) 3).toInt ≤ 7500 := by
  obtain ⟨g1, ⟨g2, g3, g4⟩, -⟩ := p_S hx hs
  have b1 := cam_bd g1 (min h 15) (by omega)
  omega
theorem p_byQueue (hx : DI M 1 h a b gv) {c : Nat} (hc : c < a) : fv_X2_placeByQueue 1 (nI c) M = nI (rk a (fun _ => true) (QL M) c) := by
  have ha := hx.1.2.2.1
  rw [(cl_byQueue hx.1.1.2.1 ha (by omega)).1, show (0 : Int32) = nI 0 from rfl, sm_sN (f := fun j => bN (true && QL M j c)) a 0 0 (fun j _ hj => ?_), Nat.zero_add]
  · rfl
  · have b1 := p_q hx hc
    have b2 := p_q hx (s := j) (by omega)
    have es : (M (1 + 1 + 1 + 2 * j) 1 - M (1 + 1 + 1 + 2 * c) 1).toInt = (M (1 + 1 + 1 + 2 * j) 1).toInt - (M (1 + 1 + 1 + 2 * c) 1).toInt := pq_sub (by omega) (by omega)
    rw [show nI 0 = (0 : Int32) from rfl, Bool.true_and]
    by_cases q1 : 0 < M (1 + 1 + 1 + 2 * j) 1 - M (1 + 1 + 1 + 2 * c) 1
    · rw [if_pos q1]
      rw [pq_lt, es, Int32.toInt_zero] at q1
      rw [show QL M j c = true from decide_eq_true (by omega)]
      rfl
    · rw [if_neg q1]
      rw [pq_lt, es, Int32.toInt_zero] at q1
      by_cases q2 : M (1 + 1 + 1 + 2 * j) 1 - M (1 + 1 + 1 + 2 * c) 1 = 0
      · rw [if_pos q2]
        rw [pq_eq, es, Int32.toInt_zero] at q2
        by_cases q3 : nI c ≤ nI j
        · rw [if_pos q3]
          rw [nI_leI (by omega) (by omega)] at q3
          rw [show QL M j c = false from decide_eq_false (by omega)]
          rfl
        · rw [if_neg q3]
          rw [nI_leI (by omega) (by omega)] at q3
          rw [show QL M j c = true from decide_eq_true (by omega)]
          rfl
      · rw [if_neg q2]
        rw [pq_eq, es, Int32.toInt_zero] at q2
        rw [show QL M j c = false from decide_eq_false (by omega)]
        rfl
theorem p_busyloop (hx : DI M 1 h a b gv) {x : Nat} (hxx : x < 4000) : ∀ (k c n : Nat), c + k = a → k < n → ok_X5_busiest_9 n (nI x) (nI c) M ∧ (∀ i, c ≤ i → i < a → rk a (fun _ => true) (QL M) i = x → fv_X5_busiest_9 n (nI x) (nI c) M = nI i) ∧ ((∀ i, c ≤ i → i < a → ¬ rk a (fun _ => true) (QL M) i = x) → fv_X5_busiest_9 n (nI x) (nI c) M = -5) := by
  have ha := hx.1.2.2.1
  intro k
  induction k with
  | zero =>
    intro c n h1 h2
    cases n with
    | zero => omega
    | succ n =>
      have hcb : c = a := by omega
      subst hcb
      rw [fv_X5_busiest_9_s, ok_X5_busiest_9_s, hx.1.1.2.1]
      simp only [pq_leT (show ¬ c < c by omega) (by omega) (by omega), if_true, true_implies, not_true_eq_false, false_implies, and_true]
      refine ⟨trivial, fun i i1 i2 => absurd i2 (by omega), fun _ => trivial⟩
  | succ k ih =>
    intro c n h1 h2
    cases n with
    | zero => omega
    | succ n =>
      have hcb : c < a := by omega
      have o2 := (cl_byQueue hx.1.1.2.1 ha (c0 := c) (by omega)).2
      obtain ⟨i1, i2, i3⟩ := ih (c + 1) n (by omega) (by omega)
      have rb : rk a (fun _ => true) (QL M) c < 4000 := by have : rk a (fun _ => true) (QL M) c ≤ a := sN_b (f := fun j => true && QL M j c) a 0; omega
      rw [fv_X5_busiest_9_s, ok_X5_busiest_9_s, hx.1.1.2.1]
      simp only [pq_leF hcb (by omega), pq_nIadd1, o2, p_byQueue hx hcb, pq_inj rb hxx, if_false, false_implies, not_false_eq_true, true_implies, true_and]
      by_cases z : rk a (fun _ => true) (QL M) c = x
      · simp only [z, if_true, not_true_eq_false, false_implies, implies_true, and_true, true_and]
        refine ⟨fun i j1 j2 j4 => ?_, fun y => absurd z (y c (by omega) hcb)⟩
        rw [rk_inj (OR_QL M a) hcb j2 rfl rfl (z.trans j4.symm)]
      · simp only [z, if_false, not_false_eq_true, true_implies, false_implies, true_and]
        refine ⟨i1, fun i j1 j2 j4 => ?_, fun y => i3 (fun i j1 j2 => y i (by omega) j2)⟩
        have : i ≠ c := fun y => by rw [y] at j4; exact z j4
        exact i2 i (by omega) j2 j4
theorem p_busyAt (hx : DI M 1 h a b gv) {x : Nat} (hxx : x < 4000) : ok_X5_busiest (nI x) M ∧ (∀ i, i < a → rk a (fun _ => true) (QL M) i = x → fv_X5_busiest (nI x) M = nI i) ∧ (a ≤ x → fv_X5_busiest (nI x) M = -5) := by
  have ha := hx.1.2.2.1
  have c0 : (0 : Int32) ≤ nI x := nI_pos' (by omega)
  obtain ⟨i1, i2, i3⟩ := p_busyloop hx hxx a 0 ps_FU (by omega) (pq_fu (by omega))
  have e : fv_X5_busiest (nI x) M = fv_X5_busiest_9 ps_FU (nI x) (nI 0) M := by
    unfold fv_X5_busiest
    rw [if_pos c0]
    rfl
  rw [e]
  refine ⟨⟨fun _ => i1, fun z => absurd c0 z⟩, fun i => i2 i (by omega), fun z => i3 (fun i _ j2 j4 => ?_)⟩
  have h1 := rk_bd (OR_QL M a) (P := fun _ => true) j2 rfl
  have h2 : nP a (fun _ => true) = a := (sN_const 1 a 0).trans (Nat.mul_one a)
  omega
end PLACE
