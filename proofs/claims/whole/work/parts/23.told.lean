/-! ===== what is told is the same ===== -/
theorem pq_ne5 {s : Nat} (h : s < 4000) : ¬ ((-5 : Int32) = nI s) := by
  intro e
  have := congrArg Int32.toInt e
  rw [pq_nT h, show ((-5 : Int32)).toInt = -5 from by decide] at this
  omega
theorem pq_ne1 {s : Nat} (h : s < 4000) : ¬ ((-1 : Int32) = nI s) := by
  intro e
  have := congrArg Int32.toInt e
  rw [pq_nT h, show ((-1 : Int32)).toInt = -1 from by decide] at this
  omega
theorem pq_inj {s t : Nat} (hs : s < 4000) (ht : t < 4000) : nI s = nI t ↔ s = t := nI_eq (by omega) (by omega)
theorem K_duty {a h : Nat} {e : Int} {f r : Nat → Int32} (ha : a ≤ 6) (k : pq_K a h e True f r) {s : Nat} (hs : s < 6) : (f 2 = nI s ↔ r 2 = nI s) := by
  rcases k.2.1 with ⟨h1, h2, -⟩ | ⟨-, t, ht, h1, h2⟩
  · rw [h1, h2 trivial]
    exact ⟨fun q => absurd q (pq_ne5 (by omega)), fun q => absurd q (pq_ne1 (by omega))⟩
  · rw [h1, h2]
theorem K_off {a h : Nat} {e : Int} {f r : Nat → Int32} (ha : a ≤ 6) (k : pq_K a h e True f r) : (f 2 = -5 ↔ r 2 = -1) := by
  rcases k.2.1 with ⟨h1, h2, -⟩ | ⟨-, t, ht, h1, h2⟩
  · exact ⟨fun _ => h2 trivial, fun _ => h1⟩
  · rw [h1, h2]
    exact ⟨fun q => absurd q.symm (pq_ne5 (by omega)), fun q => absurd q.symm (pq_ne1 (by omega))⟩
theorem K_true {a h : Nat} {e : Int} {f r : Nat → Int32} {P : Prop} (hp : P) (k : pq_K a h e P f r) : pq_K a h e True f r := by
  rw [show P = True from eq_true hp] at k; exact k
theorem K_free {a h : Nat} {e : Int} {M N : ps_M} {k c : Nat} (ha : a ≤ 6) (hc : c < 12) (hk : pq_K a h e True (M k) (pq_kv (N 1) c)) : fv_X1_isFree k M = fv_X6_isFree (nI c) N ∧ (fv_X6_isFree (nI c) N = 0 ∨ fv_X6_isFree (nI c) N = 1) := by
  have e2 : fv_X6_ofClerk (nI c) 2 N = pq_kv (N 1) c 2 := pq_ofK (j := 2) hc (by omega) N
  have e5 : fv_X6_ofClerk (nI c) 5 N = pq_kv (N 1) c 5 := pq_ofK (j := 5) hc (by omega) N
  have ho := K_off ha hk
  have h5 := hk.1.2.2.2.2
  have hr := hk.2.2.2.2.2
  unfold fv_X1_isFree fv_X6_isFree fv_X1_isOnDuty fv_X1_rests
  rw [e2, e5, h5]
  by_cases h2 : M k 2 = -5
  · rw [if_pos h2, if_pos rfl, if_pos (ho.mp h2)]
    rcases hr with q | q | q <;> rw [q] <;> decide
  · rw [if_neg h2, if_neg (by decide), if_neg (fun q => h2 (ho.mpr q))]
    exact ⟨rfl, Or.inl rfl⟩
section TOLD
variable {M N : ps_M} {d h a b : Nat} {e : Int} {S : Nat → (Nat → Int32) → (Nat → Int32) → (Nat → Int32) → Prop}
theorem t_K (hx : DX M d (N 1) h a b S (fun c => pq_K a h e (c < b))) {c : Nat} (hc : c < b) : c < 12 ∧ pq_K a h e True (M (d + 14 + 1 + c)) (pq_kv (N 1) c) := by
  have hb := hx.2.2.1.2.2
  exact ⟨by omega, K_true hc (hx.2.2.2.2 c (by omega))⟩
theorem t_served (hx : DX M d (N 1) h a b S (fun c => pq_K a h e (c < b))) {s : Nat} (hs : s < 6) : fv_X2_servedAnHourAt d (nI s) M = fv_X6_serveAt (nI s) N ∧ ok_X2_servedAnHourAt d (nI s) M ∧ ok_X6_serveAt (nI s) N := by
  have ha := hx.2.2.1.2.1
  obtain ⟨h1, h2⟩ := cl_served hx.1.2.2 hx.2.2.1.2.2 (nI s)
  obtain ⟨h3, h4⟩ := mo_served hx.2.1.2.2 hx.2.2.1.2.2 (nI s)
  refine ⟨?_, h2, h4⟩
  rw [h1, h3]
  refine pq_sm_congr _ _ _ (fun c _ hc => ?_)
  obtain ⟨_, k⟩ := t_K hx (c := c) (by omega)
  have := K_duty ha k hs
  by_cases q : M (d + 14 + 1 + c) 2 = nI s
  · rw [if_pos q, if_pos (this.mp q), k.1.1]
  · rw [if_neg q, if_neg (fun z => q (this.mpr z))]
theorem t_clerksAt (hx : DX M d (N 1) h a b S (fun c => pq_K a h e (c < b))) {s : Nat} (hs : s < 6) : fv_X2_clerksAt d (nI s) M = fv_X6_onDutyAt (nI s) N ∧ ok_X2_clerksAt d (nI s) M ∧ ok_X6_onDutyAt (nI s) N := by
  have ha := hx.2.2.1.2.1
  obtain ⟨h1, h2⟩ := cl_clerksAt hx.1.2.2 hx.2.2.1.2.2 (nI s)
  obtain ⟨h3, h4⟩ := mo_onDutyAt hx.2.1.2.2 hx.2.2.1.2.2 (nI s)
  refine ⟨?_, h2, h4⟩
  rw [h1, h3]
  refine pq_sm_congr _ _ _ (fun c _ hc => ?_)
  obtain ⟨_, k⟩ := t_K hx (c := c) (by omega)
  have := K_duty ha k hs
  by_cases q : M (d + 14 + 1 + c) 2 = nI s
  · rw [if_pos q, if_pos (this.mp q)]
  · rw [if_neg q, if_neg (fun z => q (this.mpr z))]
theorem t_onDuty (hx : DX M d (N 1) h a b S (fun c => pq_K a h e (c < b))) : fv_X2_clerksOnDuty d M = fv_X6_overClerks 0 N ∧ ok_X2_clerksOnDuty d M ∧ ok_X6_overClerks 0 N := by
  have ha := hx.2.2.1.2.1
  obtain ⟨h1, h2⟩ := cl_onDuty hx.1.2.2 hx.2.2.1.2.2
  obtain ⟨h3, h4⟩ := mo_over0 hx.2.1.2.2 hx.2.2.1.2.2
  refine ⟨?_, h2, h4⟩
  rw [h1, h3]
  refine pq_sm_congr _ _ _ (fun c _ hc => ?_)
  obtain ⟨_, k⟩ := t_K hx (c := c) (by omega)
  have := K_off ha k
  unfold fv_X1_isOnDuty
  by_cases q : M (d + 14 + 1 + c) 2 = -5
  · rw [if_pos q, if_pos rfl, if_pos (this.mp q)]
  · rw [if_neg q, if_neg (by decide), if_neg (fun z => q (this.mpr z))]
theorem t_freeClerks (hx : DX M d (N 1) h a b S (fun c => pq_K a h e (c < b))) : fv_X2_freeClerks d M = fv_X6_overClerks 1 N ∧ ok_X2_freeClerks d M ∧ ok_X6_overClerks 1 N := by
  have ha := hx.2.2.1.2.1
  obtain ⟨h1, h2⟩ := cl_freeClerks hx.1.2.2 hx.2.2.1.2.2
  obtain ⟨h3, h4⟩ := mo_over1 hx.2.1.2.2 hx.2.2.1.2.2
  refine ⟨?_, h2, h4⟩
  rw [h1, h3]
  refine pq_sm_congr _ _ _ (fun c _ hc => ?_)
  obtain ⟨hc12, k⟩ := t_K hx (c := c) (by omega)
  rw [(K_free ha hc12 k).1]
theorem t_worked (hx : DX M d (N 1) h a b S (fun c => pq_K a h e (c < b))) : fv_X2_hoursWorked d M = fv_X6_overClerks 2 N ∧ ok_X2_hoursWorked d M ∧ ok_X6_overClerks 2 N := by
  obtain ⟨h1, h2⟩ := cl_worked hx.1.2.2 hx.2.2.1.2.2
  obtain ⟨h3, h4⟩ := mo_over2 hx.2.1.2.2 hx.2.2.1.2.2
  refine ⟨?_, h2, h4⟩
  rw [h1, h3]
  refine pq_sm_congr _ _ _ (fun c _ hc => ?_)
  obtain ⟨hc12, k⟩ := t_K hx (c := c) (by omega)
  exact k.1.2.2.2.1
/-- who comes before whom -/
theorem t_before (hx : DX M d (N 1) h a b S (fun c => pq_K a h e (c < b))) {c c0 : Nat} (hc : c < b) (hc0 : c0 < b) : fv_X2_comesBefore d (nI c) (nI c0) M = if pq_kv (N 1) c 4 < pq_kv (N 1) c0 4 then 1 else if pq_kv (N 1) c 4 = pq_kv (N 1) c0 4 then (if nI c0 ≤ nI c then 0 else 1) else 0 := by
  have hh := hx.2.2.1.1
  obtain ⟨g1, k1⟩ := t_K hx hc
  obtain ⟨g2, k2⟩ := t_K hx hc0
  have b1 := k1.2.2.2.2.1
  have b2 := k2.2.2.2.2.1
  have e1 := k1.1.2.2.2.1
  have e2 := k2.1.2.2.2.1
  unfold fv_X2_comesBefore
  rw [pq_nI (show c < 4000 by omega), pq_nI (show c0 < 4000 by omega), e1, e2]
  have es : (pq_kv (N 1) c 4 - pq_kv (N 1) c0 4).toInt = (pq_kv (N 1) c 4).toInt - (pq_kv (N 1) c0 4).toInt := pq_sub (by omega) (by omega)
  have l1 : (pq_kv (N 1) c 4 - pq_kv (N 1) c0 4 < 0) ↔ pq_kv (N 1) c 4 < pq_kv (N 1) c0 4 := by
    rw [pq_lt, pq_lt, es, Int32.toInt_zero]; omega
  have l2 : (pq_kv (N 1) c 4 - pq_kv (N 1) c0 4 = 0) ↔ pq_kv (N 1) c 4 = pq_kv (N 1) c0 4 := by
    rw [pq_eq, pq_eq (x := pq_kv (N 1) c 4), es, Int32.toInt_zero]; omega
  by_cases q1 : pq_kv (N 1) c 4 < pq_kv (N 1) c0 4
  · rw [if_pos (l1.mpr q1), if_pos q1]
  · rw [if_neg (fun z => q1 (l1.mp z)), if_neg q1]
    by_cases q2 : pq_kv (N 1) c 4 = pq_kv (N 1) c0 4
    · rw [if_pos (l2.mpr q2), if_pos q2]
    · rw [if_neg (fun z => q2 (l2.mp z)), if_neg q2]
theorem t_place (hx : DX M d (N 1) h a b S (fun c => pq_K a h e (c < b))) {c0 : Nat} (hc0 : c0 < b) : fv_X2_placeAmongFree d (nI c0) M = fv_X6_aheadOf (nI c0) N ∧ ok_X2_placeAmongFree d (nI c0) M ∧ ok_X6_aheadOf (nI c0) N := by
  have ha := hx.2.2.1.2.1
  have hb := hx.2.2.1.2.2
  obtain ⟨h1, h2⟩ := cl_place hx.1.2.2 hb (c0 := c0) (by omega)
  obtain ⟨h3, h4⟩ := mo_ahead hx.2.1.2.2 hb (c0 := c0) (by omega)
  refine ⟨?_, h2, h4⟩
  rw [h1, h3]
  refine pq_sm_congr _ _ _ (fun c _ hc => ?_)
  obtain ⟨hc12, k⟩ := t_K hx (c := c) (by omega)
  rw [(K_free ha hc12 k).1, t_before hx (by omega) hc0]
  by_cases q0 : fv_X6_isFree (nI c) N = 0
  · rw [if_pos q0, if_pos q0]
  · rw [if_neg q0, if_neg q0]
    by_cases q1 : pq_kv (N 1) c 4 < pq_kv (N 1) c0 4
    · rw [if_pos q1]; rfl
    · rw [if_neg q1]
      by_cases q2 : pq_kv (N 1) c 4 = pq_kv (N 1) c0 4
      · rw [if_pos q2]
        by_cases q3 : nI c0 ≤ nI c
        · rw [if_pos q3]; rfl
        · rw [if_neg q3]; rfl
      · rw [if_neg q2]; rfl
/-- the free clerk at a place -/
theorem t_free {M N : ps_M} {h a b : Nat} {e : Int} {S : Nat → (Nat → Int32) → (Nat → Int32) → (Nat → Int32) → Prop} (hx : DX M 1 (N 1) h a b S (fun c => pq_K a h e (c < b))) (x : Int32) : ∀ (k c n1 n2 : Nat), c + k = b → k < n1 → k < n2 → fv_X5_free_9 n1 x (nI c) M = fv_X6_freeAt_2 n2 x (nI c) N ∧ ok_X5_free_9 n1 x (nI c) M ∧ ok_X6_freeAt_2 n2 x (nI c) N := by
  have ha := hx.2.2.1.2.1
  have hb := hx.2.2.1.2.2
  have v2 : vp_in (2 : Int32) 237 := pq_vin (n := 2) (by omega) (by omega)
  intro k
  induction k with
  | zero =>
    intro c n1 n2 h1 h2 h3
    cases n1 with
    | zero => omega
    | succ n1 =>
      cases n2 with
      | zero => omega
      | succ n2 =>
        rw [fv_X5_free_9_s, fv_X6_freeAt_2_s, ok_X5_free_9_s, ok_X6_freeAt_2_s, pq_c2, hx.1.2.2, hx.2.1.2.2]
        simp only [pq_leT (show ¬ c < b by omega) (by omega) (by omega), v2, if_true, true_implies, not_true_eq_false, false_implies, and_true]
  | succ k ih =>
    intro c n1 n2 h1 h2 h3
    cases n1 with
    | zero => omega
    | succ n1 =>
      cases n2 with
      | zero => omega
      | succ n2 =>
        obtain ⟨i1, i2, i3⟩ := ih (c + 1) n1 n2 (by omega) (by omega) (by omega)
        obtain ⟨hc12, kk⟩ := t_K hx (c := c) (by omega)
        obtain ⟨p1, p2, p3⟩ := t_place hx (c0 := c) (by omega)
        have f1 := (K_free ha hc12 kk).1
        have f2 := ok_free (1 + 14 + 1 + c) M
        have f3 := ok_freeM hc12 N
        have v1 : vp_in (nI c) 12 := pq_vin (by omega) (by omega)
        rw [fv_X5_free_9_s, fv_X6_freeAt_2_s, ok_X5_free_9_s, ok_X6_freeAt_2_s, pq_c2, hx.1.2.2, hx.2.1.2.2]
        simp only [pq_leF (show c < b by omega) (by omega), pq_nI (show c < 4000 by omega), pq_nIadd1, v1, v2, f1, f2, f3, p1, p2, p3, i1, i2, i3, if_false, false_implies, true_and, not_false_eq_true, true_implies, implies_true, and_self, and_true]
/-! stations -/
theorem t_S {B : Int} {kk : Nat} {P : Nat → Prop} {K : Nat → (Nat → Int32) → (Nat → Int32) → Prop} (hx : DX M d (N 1) h a b (fun s => pq_S (P s) B kk (s < a)) K) {s : Nat} (hs : s < a) : s < 6 ∧ pq_S (P s) B kk (s < a) (M (d + 1 + 1 + 2 * s)) (M (d + 1 + 1 + 2 * s + 1)) (pq_sv (N 1) s) := by
  have ha := hx.2.2.1.2.1
  exact ⟨by omega, hx.2.2.2.1 s (by omega)⟩
theorem t_counted {B : Int} {kk : Nat} {P : Nat → Prop} {K : Nat → (Nat → Int32) → (Nat → Int32) → Prop} (hx : DX M d (N 1) h a b (fun s => pq_S (P s) B kk (s < a)) K) {x : Int32} (hxx : x = 0 ∨ x = 1) : fv_X2_stationsCounted d x M = fv_X6_countedAs x N ∧ ok_X2_stationsCounted d x M ∧ ok_X6_countedAs x N := by
  obtain ⟨h1, h2⟩ := cl_counted hx.1.2.1 hx.2.2.1.2.1 x
  obtain ⟨h3, h4⟩ := mo_counted hx.2.1.2.1 hx.2.2.1.2.1 x
  refine ⟨?_, h2, h4⟩
  rw [h1, h3]
  refine pq_sm_congr _ _ _ (fun s _ hs => ?_)
  obtain ⟨hs6, k⟩ := t_S hx (s := s) (by omega)
  obtain ⟨⟨-, -, -, -, -, -, -, -, e9, e11⟩, -, -, -, ct⟩ := k
  unfold fv_X4_isCounted fv_X4_countAgrees
  rcases ct with ⟨g1, g2, -⟩ | ⟨-, g1, g2, g3⟩
  · rw [if_pos (show M (d + 1 + 1 + 2 * s) 12 ≤ 0 by rw [g1]; decide), if_pos rfl, if_pos (g2 (by omega))]
  · have n1 : ¬ M (d + 1 + 1 + 2 * s) 12 ≤ 0 := by rcases g3 with q | q | q <;> rw [q] <;> decide
    have n2 : ¬ pq_sv (N 1) s 10 = -1 := by
      intro q
      rw [q] at g2
      exact absurd g2 (by decide)
    rw [if_neg n1, if_neg (by decide), if_neg n2, g1, e9]
/-- who has the longer queue -/
theorem t_byQueue {B : Int} {kk : Nat} {P : Nat → Prop} {K : Nat → (Nat → Int32) → (Nat → Int32) → Prop} (hB : B ≤ 100000) (hx : DX M d (N 1) h a b (fun s => pq_S (P s) B kk (s < a)) K) {s s0 : Nat} (hs : s < a) (hs0 : s0 < a) : (if 0 < M (d + 1 + 1 + 2 * s) 1 - M (d + 1 + 1 + 2 * s0) 1 then (1 : Int32) else if M (d + 1 + 1 + 2 * s) 1 - M (d + 1 + 1 + 2 * s0) 1 = 0 then (if nI s0 ≤ nI s then 0 else 1) else 0) = if pq_sv (N 1) s0 0 < pq_sv (N 1) s 0 then 1 else if pq_sv (N 1) s 0 = pq_sv (N 1) s0 0 then (if nI s0 ≤ nI s then 0 else 1) else 0 := by
  obtain ⟨g1, k1⟩ := t_S hx hs
  obtain ⟨g2, k2⟩ := t_S hx hs0
  have b1 := k1.2.2.1
  have b2 := k2.2.2.1
  rw [k1.1.1, k2.1.1]
  have es : (pq_sv (N 1) s 0 - pq_sv (N 1) s0 0).toInt = (pq_sv (N 1) s 0).toInt - (pq_sv (N 1) s0 0).toInt := pq_sub (by omega) (by omega)
  have l1 : (0 < pq_sv (N 1) s 0 - pq_sv (N 1) s0 0) ↔ pq_sv (N 1) s0 0 < pq_sv (N 1) s 0 := by
    rw [pq_lt, pq_lt, es, Int32.toInt_zero]; omega
  have l2 : (pq_sv (N 1) s 0 - pq_sv (N 1) s0 0 = 0) ↔ pq_sv (N 1) s 0 = pq_sv (N 1) s0 0 := by
    rw [pq_eq, pq_eq (x := pq_sv (N 1) s 0), es, Int32.toInt_zero]; omega
  by_cases q1 : pq_sv (N 1) s0 0 < pq_sv (N 1) s 0
  · rw [if_pos (l1.mpr q1), if_pos q1]
  · rw [if_neg (fun z => q1 (l1.mp z)), if_neg q1]
    by_cases q2 : pq_sv (N 1) s 0 = pq_sv (N 1) s0 0
    · rw [if_pos (l2.mpr q2), if_pos q2]
    · rw [if_neg (fun z => q2 (l2.mp z)), if_neg q2]
end TOLD
