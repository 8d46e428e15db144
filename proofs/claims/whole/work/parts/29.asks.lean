/-! ===== what is asked ===== -/
theorem in_nat {x l h : Int32} {N : ps_M} {n : Nat} (e : fv_X6_in x l h N = 1) (hl : 0 ≤ l.toInt) (hh : h.toInt = (n : Int)) (hn : n < 3000) : ∃ t, t ≤ n ∧ x = nI t := by
  have hb := in_b e
  rcases pk_ix x (show n + 1 < 2 ^ 31 by omega) with g | g | ⟨t, ht, e⟩
  · rw [pq_lt, Int32.toInt_zero] at g; omega
  · rw [pq_le, pq_nT (by omega)] at g; omega
  · exact ⟨t, by omega, e⟩
theorem pq_smb {δ : Nat → Int32} : ∀ (k c : Nat) (acc : Int32), (∀ i, c ≤ i → i < c + k → 0 ≤ (δ i).toInt ∧ (δ i).toInt ≤ 60) → 0 ≤ acc.toInt → acc.toInt + 60 * (k : Int) ≤ 1000000 → 0 ≤ (pq_sm δ k c acc).toInt ∧ (pq_sm δ k c acc).toInt ≤ acc.toInt + 60 * (k : Int) := by
  intro k
  induction k with
  | zero => intro c acc _ h0 h1; exact ⟨h0, by show acc.toInt ≤ _; omega⟩
  | succ k ih =>
    intro c acc hd h0 h1
    have d0 := hd c (by omega) (by omega)
    have es : (acc + δ c).toInt = acc.toInt + (δ c).toInt := pq_add (by omega) (by omega)
    have := ih (c + 1) (acc + δ c) (fun i g1 g2 => hd i (by omega) (by omega)) (by omega) (by omega)
    show 0 ≤ (pq_sm δ k (c + 1) (acc + δ c)).toInt ∧ (pq_sm δ k (c + 1) (acc + δ c)).toInt ≤ _
    omega
theorem sv_bd {M N : ps_M} {d h a b : Nat} {e : Int} {S : Nat → (Nat → Int32) → (Nat → Int32) → (Nat → Int32) → Prop} (hx : DX M d (N 1) h a b S (fun c => pq_K a h e (c < b))) {s : Nat} : 0 ≤ (fv_X6_serveAt (nI s) N).toInt ∧ (fv_X6_serveAt (nI s) N).toInt ≤ 720 := by
  have hb := hx.2.2.1.2.2
  rw [(mo_served hx.2.1.2.2 hb (nI s)).1]
  have := pq_smb (δ := fun c => if pq_kv (N 1) c 2 = nI s then pq_kv (N 1) c 0 else 0) b 0 0 (fun i g1 g2 => by
    obtain ⟨-, k1⟩ := t_K hx (c := i) (by omega)
    have := (k1.2.2.1 trivial).1
    by_cases q : pq_kv (N 1) i 2 = nI s
    · simp only [q, if_true]; omega
    · simp only [q, if_false]; decide) (by decide) (by rw [Int32.toInt_zero]; omega)
  rw [Int32.toInt_zero] at this
  omega
theorem sim_arrivals : pl_sim_arrivals Rel := by
  intro M N a1 a2 hR
  obtain ⟨h, a, b, hx⟩ := hR.1
  obtain ⟨ok6, hsta⟩ := pq_sta hx a1
  unfold fv_X5_arrivals fv_X6_arrivals ok_X5_arrivals ok_X6_arrivals
  rw [wi_in a2 0 14 M N]
  rcases hsta with ⟨e1, e2⟩ | ⟨s, hs, rfl, e1, e2⟩
  · simp only [e1, e2, ok6, ok_X2_hasStation, if_true, true_implies, not_true_eq_false, false_implies, and_true, true_and]
    exact hR
  · have hs6 : s < 6 := (t_S hx hs).1
    have v1 : vp_in (nI s) 6 := pq_vin hs6 (by omega)
    rcases in_01 a2 0 14 N with e3 | e3
    · simp only [e1, e2, e3, ok6, ok_X2_hasStation, ok_X6_in, ok_X5_isWithin, v1, pq_10, if_true, if_false, true_implies, not_true_eq_false, not_false_eq_true, false_implies, and_true, true_and]
      exact hR
    · obtain ⟨t, ht, rfl⟩ := in_nat (n := 14) e3 (by decide) (by decide) (by omega)
      have v2 : vp_in (nI t) 15 := pq_vin (by omega) (by omega)
      have e4 := ((t_S hx hs).2.2.1 t (by omega)).1
      have e5 := pq_of hs6 (show 12 + t < 27 by omega) N
      have o5 := pq_ofok hs6 (show 12 + t < 27 by omega) N
      simp only [e1, e2, e3, ok6, ok_X2_hasStation, ok_X6_in, ok_X5_isWithin, v1, v2, pq_12x, pq_nI (show s < 4000 by omega), pq_nI (show t < 4000 by omega), e4, e5, o5, pq_10, if_true, if_false, true_implies, not_true_eq_false, not_false_eq_true, false_implies, and_true, true_and]
      exact hR
theorem sim_free : pl_sim_free Rel := by
  intro M N a1 hR
  obtain ⟨h, a, b, hx⟩ := hR.1
  unfold fv_X5_free fv_X6_free ok_X5_free ok_X6_free fv_X6_freeAt ok_X6_freeAt
  by_cases q : 0 ≤ a1
  · have hb := hx.2.2.1.2.2
    obtain ⟨e, o1, o2⟩ := t_free hx a1 b 0 ps_FU ps_FU (by omega) (pq_fu (by omega)) (pq_fu (by omega))
    rw [if_pos q, if_pos q]
    exact ⟨⟨fun _ => o1, fun g => absurd q g⟩, ⟨fun _ => ⟨o2, trivial⟩, fun _ => trivial⟩, e, hR⟩
  · rw [if_neg q, if_neg q]
    exact ⟨⟨fun g => absurd g q, fun _ => trivial⟩, ⟨fun g => absurd g q, fun _ => trivial⟩, rfl, hR⟩
theorem pB_le {h : Nat} : pq_B h ≤ 7500 := by unfold pq_B; omega
theorem sim_busiest : pl_sim_busiest Rel := by
  intro M N a1 hR
  obtain ⟨h, a, b, hx⟩ := hR.1
  unfold fv_X5_busiest fv_X6_busiest ok_X5_busiest ok_X6_busiest
  by_cases q : 0 ≤ a1
  · have hb := hx.2.2.1.2.1
    have hB : pq_B h ≤ 100000 := by have := pB_le (h := h); omega
    obtain ⟨e, o1, o2⟩ := t_busiest hB hx a1 a 0 ps_FU ps_FU (by omega) (pq_fu (by omega)) (pq_fu (by omega))
    rw [if_pos q, if_pos q]
    exact ⟨⟨fun _ => o1, fun g => absurd q g⟩, ⟨fun _ => o2, fun _ => trivial⟩, e, hR⟩
  · rw [if_neg q, if_neg q]
    exact ⟨⟨fun g => absurd g q, fun _ => trivial⟩, ⟨fun g => absurd g q, fun _ => trivial⟩, rfl, hR⟩
theorem t_toServe {M N : ps_M} {h a b : Nat} (hx : DR M 1 (N 1) h a b) {s : Nat} (hs : s < a) : fv_X2_hoursForQueueOf 1 (nI s) M = fv_X6_toServe (nI s) N ∧ ok_X2_hoursForQueueOf 1 (nI s) M ∧ ok_X6_toServe (nI s) N := by
  obtain ⟨hs6, hS⟩ := t_S hx hs
  obtain ⟨e, o1, o2⟩ := t_served hx hs6
  have e1 := hS.1.1
  have bd := sv_bd hx (s := s)
  have v1 : vp_in (nI s) 6 := pq_vin hs6 (by omega)
  have e3 : (0 < fv_X6_serveAt (nI s) N) = ¬ (fv_X6_serveAt (nI s) N = 0) := by
    apply propext
    rw [pq_lt, pq_eq, Int32.toInt_zero]; omega
  unfold fv_X2_hoursForQueueOf fv_X6_toServe ok_X2_hoursForQueueOf ok_X6_toServe
  simp only [pq_nI (show s < 4000 by omega), e1, e, e3, o1, o2, v1, pp_of hs6, pp_ofk hs6, true_and, and_true, implies_true]
  refine ⟨?_, ?_⟩
  · by_cases q : pq_sv (N 1) s 0 = 0
    · rw [if_pos q, if_pos q]
    · rw [if_neg q, if_neg q]
      by_cases q2 : fv_X6_serveAt (nI s) N = 0
      · simp only [q2, not_true_eq_false, if_true, if_false]
      · simp only [q2, not_false_eq_true, if_true, if_false]
  · refine ⟨fun _ => id, ?_⟩
    intro _ q; exact q
