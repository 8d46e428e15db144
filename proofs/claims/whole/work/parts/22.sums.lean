/-! ===== loops that add up: closed forms ===== -/
def pq_sm (δ : Nat → Int32) : Nat → Nat → Int32 → Int32
  | 0, _, acc => acc
  | k + 1, c, acc => pq_sm δ k (c + 1) (acc + δ c)
theorem pq_sm_congr {δ ε : Nat → Int32} : ∀ (k c : Nat) (acc : Int32), (∀ i, c ≤ i → i < c + k → δ i = ε i) → pq_sm δ k c acc = pq_sm ε k c acc := by
  intro k
  induction k with
  | zero => intro c acc _; rfl
  | succ k ih =>
    intro c acc h
    show pq_sm δ k (c + 1) (acc + δ c) = pq_sm ε k (c + 1) (acc + ε c)
    rw [h c (by omega) (by omega)]
    exact ih (c + 1) _ (fun i h1 h2 => h i (by omega) (by omega))
theorem pq_acc (W : Nat → Int32 → Int32 → Int32) (O : Nat → Int32 → Int32 → Prop) (b : Nat) (δ : Nat → Int32) (hs : ∀ (n c : Nat) (acc : Int32), c < b → W (n + 1) acc (nI c) = W n (acc + δ c) (nI (c + 1)) ∧ (O n (acc + δ c) (nI (c + 1)) → O (n + 1) acc (nI c))) (he : ∀ (n : Nat) (acc : Int32), W (n + 1) acc (nI b) = acc ∧ O (n + 1) acc (nI b)) : ∀ (k c n : Nat) (acc : Int32), c + k = b → k < n → W n acc (nI c) = pq_sm δ k c acc ∧ O n acc (nI c) := by
  intro k
  induction k with
  | zero =>
    intro c n acc h1 h2
    cases n with
    | zero => omega
    | succ n => rw [show c = b by omega]; exact he n acc
  | succ k ih =>
    intro c n acc h1 h2
    cases n with
    | zero => omega
    | succ n =>
      obtain ⟨e1, e2⟩ := hs n c acc (by omega)
      obtain ⟨e3, e4⟩ := ih (c + 1) n (acc + δ c) (by omega) (by omega)
      exact ⟨e1.trans e3, e2 e4⟩
theorem pq_fu {b : Nat} (h : b < 1000) : b < ps_FU := by unfold ps_FU; omega
theorem pq_02 : ((0 : Int32) = 2) = False := by decide
theorem pq_12 : ((1 : Int32) = 2) = False := by decide
theorem pq_20 : ((2 : Int32) = 0) = False := by decide
theorem pq_01 : ((0 : Int32) = 1) = False := by decide
theorem cl_served {M : ps_M} {d b : Nat} (H2 : M d 2 = nI b) (hb : b ≤ 12) (st : Int32) : fv_X2_servedAnHourAt d st M = pq_sm (fun c => if M (d + 14 + 1 + c) 2 = st then M (d + 14 + 1 + c) 0 else 0) b 0 0 ∧ ok_X2_servedAnHourAt d st M := by
  have key := pq_acc (fun n acc x => fv_X2_servedAnHourAt_4 n d st acc x M) (fun n acc x => ok_X2_servedAnHourAt_4 n d st acc x M) b (fun c => if M (d + 14 + 1 + c) 2 = st then M (d + 14 + 1 + c) 0 else 0) ?_ ?_ b 0 ps_FU 0 (by omega) (pq_fu (by omega))
  · exact key
  · intro n c acc hc
    have v1 : vp_in (nI c) 12 := pq_vin (by omega) (by omega)
    rw [fv_X2_servedAnHourAt_4_s, ok_X2_servedAnHourAt_4_s, H2]
    rcases Classical.propComplete (M (d + 14 + 1 + c) 2 = st) with m0 | m0 <;> simp only [m0, pq_leF hc (by omega), pq_nI (show c < 4000 by omega), pq_nIadd1, v1, if_true, if_false, true_implies, false_implies, not_true_eq_false, not_false_eq_true, true_and, and_true, and_self, imp_self, eq_self, Int32.add_zero, implies_true]
  · intro n acc

    rw [fv_X2_servedAnHourAt_4_s, ok_X2_servedAnHourAt_4_s, H2]
    simp only [pq_leT (show ¬ b < b by omega) (by omega) (by omega), if_true, if_false, true_implies, false_implies, not_true_eq_false, not_false_eq_true, true_and, and_true, and_self, imp_self, eq_self, Int32.add_zero, implies_true]
theorem cl_clerksAt {M : ps_M} {d b : Nat} (H2 : M d 2 = nI b) (hb : b ≤ 12) (st : Int32) : fv_X2_clerksAt d st M = pq_sm (fun c => if M (d + 14 + 1 + c) 2 = st then 1 else 0) b 0 0 ∧ ok_X2_clerksAt d st M := by
  have key := pq_acc (fun n acc x => fv_X2_clerksAt_4 n d st acc x M) (fun n acc x => ok_X2_clerksAt_4 n d st acc x M) b (fun c => if M (d + 14 + 1 + c) 2 = st then 1 else 0) ?_ ?_ b 0 ps_FU 0 (by omega) (pq_fu (by omega))
  · exact key
  · intro n c acc hc
    have v1 : vp_in (nI c) 12 := pq_vin (by omega) (by omega)
    rw [fv_X2_clerksAt_4_s, ok_X2_clerksAt_4_s, H2]
    rcases Classical.propComplete (M (d + 14 + 1 + c) 2 = st) with m0 | m0 <;> simp only [m0, pq_leF hc (by omega), pq_nI (show c < 4000 by omega), pq_nIadd1, v1, if_true, if_false, true_implies, false_implies, not_true_eq_false, not_false_eq_true, true_and, and_true, and_self, imp_self, eq_self, Int32.add_zero, implies_true]
  · intro n acc

    rw [fv_X2_clerksAt_4_s, ok_X2_clerksAt_4_s, H2]
    simp only [pq_leT (show ¬ b < b by omega) (by omega) (by omega), if_true, if_false, true_implies, false_implies, not_true_eq_false, not_false_eq_true, true_and, and_true, and_self, imp_self, eq_self, Int32.add_zero, implies_true]
theorem cl_onDuty {M : ps_M} {d b : Nat} (H2 : M d 2 = nI b) (hb : b ≤ 12) : fv_X2_clerksOnDuty d M = pq_sm (fun c => if fv_X1_isOnDuty (d + 14 + 1 + c) M = 0 then 0 else 1) b 0 0 ∧ ok_X2_clerksOnDuty d M := by
  have key := pq_acc (fun n acc x => fv_X2_clerksOnDuty_4 n d acc x M) (fun n acc x => ok_X2_clerksOnDuty_4 n d acc x M) b (fun c => if fv_X1_isOnDuty (d + 14 + 1 + c) M = 0 then 0 else 1) ?_ ?_ b 0 ps_FU 0 (by omega) (pq_fu (by omega))
  · exact key
  · intro n c acc hc
    have v1 : vp_in (nI c) 12 := pq_vin (by omega) (by omega)
    have v3 : ok_X1_isOnDuty (d + 14 + 1 + c) M := trivial
    rw [fv_X2_clerksOnDuty_4_s, ok_X2_clerksOnDuty_4_s, H2]
    rcases Classical.propComplete (fv_X1_isOnDuty (d + 14 + 1 + c) M = 0) with m0 | m0 <;> simp only [m0, pq_leF hc (by omega), pq_nI (show c < 4000 by omega), pq_nIadd1, v1, v3, if_true, if_false, true_implies, false_implies, not_true_eq_false, not_false_eq_true, true_and, and_true, and_self, imp_self, eq_self, Int32.add_zero, implies_true]
  · intro n acc

    rw [fv_X2_clerksOnDuty_4_s, ok_X2_clerksOnDuty_4_s, H2]
    simp only [pq_leT (show ¬ b < b by omega) (by omega) (by omega), if_true, if_false, true_implies, false_implies, not_true_eq_false, not_false_eq_true, true_and, and_true, and_self, imp_self, eq_self, Int32.add_zero, implies_true]
theorem ok_free (k : Nat) (M : ps_M) : ok_X1_isFree k M := ⟨trivial, fun _ => ⟨trivial, trivial⟩, fun _ => trivial⟩
theorem ok_freeM {c : Nat} (hc : c < 12) (N : ps_M) : ok_X6_isFree (nI c) N := ⟨pq_ofKok (j := 2) hc (by omega) N, fun _ => ⟨pq_ofKok (j := 5) hc (by omega) N, trivial⟩, fun _ => trivial⟩
theorem cl_freeClerks {M : ps_M} {d b : Nat} (H2 : M d 2 = nI b) (hb : b ≤ 12) : fv_X2_freeClerks d M = pq_sm (fun c => if fv_X1_isFree (d + 14 + 1 + c) M = 0 then 0 else 1) b 0 0 ∧ ok_X2_freeClerks d M := by
  have key := pq_acc (fun n acc x => fv_X2_freeClerks_4 n d acc x M) (fun n acc x => ok_X2_freeClerks_4 n d acc x M) b (fun c => if fv_X1_isFree (d + 14 + 1 + c) M = 0 then 0 else 1) ?_ ?_ b 0 ps_FU 0 (by omega) (pq_fu (by omega))
  · exact key
  · intro n c acc hc
    have v1 : vp_in (nI c) 12 := pq_vin (by omega) (by omega)
    have v3 : ok_X1_isFree (d + 14 + 1 + c) M := ok_free _ _
    rw [fv_X2_freeClerks_4_s, ok_X2_freeClerks_4_s, H2]
    rcases Classical.propComplete (fv_X1_isFree (d + 14 + 1 + c) M = 0) with m0 | m0 <;> simp only [m0, pq_leF hc (by omega), pq_nI (show c < 4000 by omega), pq_nIadd1, v1, v3, if_true, if_false, true_implies, false_implies, not_true_eq_false, not_false_eq_true, true_and, and_true, and_self, imp_self, eq_self, Int32.add_zero, implies_true]
  · intro n acc

    rw [fv_X2_freeClerks_4_s, ok_X2_freeClerks_4_s, H2]
    simp only [pq_leT (show ¬ b < b by omega) (by omega) (by omega), if_true, if_false, true_implies, false_implies, not_true_eq_false, not_false_eq_true, true_and, and_true, and_self, imp_self, eq_self, Int32.add_zero, implies_true]
theorem cl_worked {M : ps_M} {d b : Nat} (H2 : M d 2 = nI b) (hb : b ≤ 12) : fv_X2_hoursWorked d M = pq_sm (fun c => M (d + 14 + 1 + c) 4) b 0 0 ∧ ok_X2_hoursWorked d M := by
  have key := pq_acc (fun n acc x => fv_X2_hoursWorked_4 n d acc x M) (fun n acc x => ok_X2_hoursWorked_4 n d acc x M) b (fun c => M (d + 14 + 1 + c) 4) ?_ ?_ b 0 ps_FU 0 (by omega) (pq_fu (by omega))
  · exact key
  · intro n c acc hc
    have v1 : vp_in (nI c) 12 := pq_vin (by omega) (by omega)
    rw [fv_X2_hoursWorked_4_s, ok_X2_hoursWorked_4_s, H2]
    simp only [pq_leF hc (by omega), pq_nI (show c < 4000 by omega), pq_nIadd1, v1, if_true, if_false, true_implies, false_implies, not_true_eq_false, not_false_eq_true, true_and, and_true, and_self, imp_self, eq_self, Int32.add_zero, implies_true]
  · intro n acc

    rw [fv_X2_hoursWorked_4_s, ok_X2_hoursWorked_4_s, H2]
    simp only [pq_leT (show ¬ b < b by omega) (by omega) (by omega), if_true, if_false, true_implies, false_implies, not_true_eq_false, not_false_eq_true, true_and, and_true, and_self, imp_self, eq_self, Int32.add_zero, implies_true]
theorem cl_place {M : ps_M} {d b : Nat} (H2 : M d 2 = nI b) (hb : b ≤ 12) {c0 : Nat} (h0 : c0 < 12) : fv_X2_placeAmongFree d (nI c0) M = pq_sm (fun c => if fv_X1_isFree (d + 14 + 1 + c) M = 0 then 0 else if fv_X2_comesBefore d (nI c) (nI c0) M = 0 then 0 else 1) b 0 0 ∧ ok_X2_placeAmongFree d (nI c0) M := by
  have key := pq_acc (fun n acc x => fv_X2_placeAmongFree_4 n d (nI c0) acc x M) (fun n acc x => ok_X2_placeAmongFree_4 n d (nI c0) acc x M) b (fun c => if fv_X1_isFree (d + 14 + 1 + c) M = 0 then 0 else if fv_X2_comesBefore d (nI c) (nI c0) M = 0 then 0 else 1) ?_ ?_ b 0 ps_FU 0 (by omega) (pq_fu (by omega))
  · exact key
  · intro n c acc hc
    have v1 : vp_in (nI c) 12 := pq_vin (by omega) (by omega)
    have v3 : ok_X1_isFree (d + 14 + 1 + c) M := ok_free _ _
    have v4 : ok_X2_comesBefore d (nI c) (nI c0) M := ⟨v1, pq_vin (by omega) (by omega), trivial⟩
    rw [fv_X2_placeAmongFree_4_s, ok_X2_placeAmongFree_4_s, H2]
    rcases Classical.propComplete (fv_X1_isFree (d + 14 + 1 + c) M = 0) with m0 | m0 <;> rcases Classical.propComplete (fv_X2_comesBefore d (nI c) (nI c0) M = 0) with m1 | m1 <;> simp only [m0, m1, pq_leF hc (by omega), pq_nI (show c < 4000 by omega), pq_nIadd1, v1, v3, v4, if_true, if_false, true_implies, false_implies, not_true_eq_false, not_false_eq_true, true_and, and_true, and_self, imp_self, eq_self, Int32.add_zero, implies_true]
  · intro n acc

    rw [fv_X2_placeAmongFree_4_s, ok_X2_placeAmongFree_4_s, H2]
    simp only [pq_leT (show ¬ b < b by omega) (by omega) (by omega), if_true, if_false, true_implies, false_implies, not_true_eq_false, not_false_eq_true, true_and, and_true, and_self, imp_self, eq_self, Int32.add_zero, implies_true]
theorem cl_counted {M : ps_M} {d a : Nat} (H1 : M d 1 = nI a) (ha : a ≤ 6) (x : Int32) : fv_X2_stationsCounted d x M = pq_sm (fun c => if fv_X4_isCounted (d + 1 + 1 + 2 * c) M = 0 then 0 else if fv_X4_countAgrees (d + 1 + 1 + 2 * c) M = x then 1 else 0) a 0 0 ∧ ok_X2_stationsCounted d x M := by
  have key := pq_acc (fun n acc y => fv_X2_stationsCounted_4 n d x acc y M) (fun n acc y => ok_X2_stationsCounted_4 n d x acc y M) a (fun c => if fv_X4_isCounted (d + 1 + 1 + 2 * c) M = 0 then 0 else if fv_X4_countAgrees (d + 1 + 1 + 2 * c) M = x then 1 else 0) ?_ ?_ a 0 ps_FU 0 (by omega) (pq_fu (by omega))
  · exact key
  · intro n c acc hc
    have v1 : vp_in (nI c) 6 := pq_vin (by omega) (by omega)
    have v3 : ok_X4_isCounted (d + 1 + 1 + 2 * c) M := trivial
    have v4 : ok_X4_countAgrees (d + 1 + 1 + 2 * c) M := trivial
    rw [fv_X2_stationsCounted_4_s, ok_X2_stationsCounted_4_s, H1]
    rcases Classical.propComplete (fv_X4_isCounted (d + 1 + 1 + 2 * c) M = 0) with m0 | m0 <;> rcases Classical.propComplete (fv_X4_countAgrees (d + 1 + 1 + 2 * c) M = x) with m1 | m1 <;> simp only [m0, m1, pq_leF hc (by omega), pq_nI (show c < 4000 by omega), pq_nIadd1, v1, v3, v4, if_true, if_false, true_implies, false_implies, not_true_eq_false, not_false_eq_true, true_and, and_true, and_self, imp_self, eq_self, Int32.add_zero, implies_true]
  · intro n acc

    rw [fv_X2_stationsCounted_4_s, ok_X2_stationsCounted_4_s, H1]
    simp only [pq_leT (show ¬ a < a by omega) (by omega) (by omega), if_true, if_false, true_implies, false_implies, not_true_eq_false, not_false_eq_true, true_and, and_true, and_self, imp_self, eq_self, Int32.add_zero, implies_true]
theorem cl_byQueue {M : ps_M} {d a : Nat} (H1 : M d 1 = nI a) (ha : a ≤ 6) {c0 : Nat} (h0 : c0 < 6) : fv_X2_placeByQueue d (nI c0) M = pq_sm (fun c => if 0 < M (d + 1 + 1 + 2 * c) 1 - M (d + 1 + 1 + 2 * c0) 1 then 1 else if M (d + 1 + 1 + 2 * c) 1 - M (d + 1 + 1 + 2 * c0) 1 = 0 then (if nI c0 ≤ nI c then 0 else 1) else 0) a 0 0 ∧ ok_X2_placeByQueue d (nI c0) M := by
  have key := pq_acc (fun n acc y => fv_X2_placeByQueue_4 n d (nI c0) acc y M) (fun n acc y => ok_X2_placeByQueue_4 n d (nI c0) acc y M) a (fun c => if 0 < M (d + 1 + 1 + 2 * c) 1 - M (d + 1 + 1 + 2 * c0) 1 then 1 else if M (d + 1 + 1 + 2 * c) 1 - M (d + 1 + 1 + 2 * c0) 1 = 0 then (if nI c0 ≤ nI c then 0 else 1) else 0) ?_ ?_ a 0 ps_FU 0 (by omega) (pq_fu (by omega))
  · exact key
  · intro n c acc hc
    have v1 : vp_in (nI c) 6 := pq_vin (by omega) (by omega)
    have v3 : vp_in (nI c0) 6 := pq_vin (by omega) (by omega)
    rw [fv_X2_placeByQueue_4_s, ok_X2_placeByQueue_4_s, H1]
    rcases Classical.propComplete (0 < M (d + 1 + 1 + 2 * c) 1 - M (d + 1 + 1 + 2 * c0) 1) with m0 | m0 <;> rcases Classical.propComplete (M (d + 1 + 1 + 2 * c) 1 - M (d + 1 + 1 + 2 * c0) 1 = 0) with m1 | m1 <;> rcases Classical.propComplete (nI c0 ≤ nI c) with m2 | m2 <;> simp only [m0, m1, m2, pq_leF hc (by omega), pq_nI (show c < 4000 by omega), pq_nIadd1, v1, v3, pq_nI (show c0 < 4000 by omega), if_true, if_false, true_implies, false_implies, not_true_eq_false, not_false_eq_true, true_and, and_true, and_self, imp_self, eq_self, Int32.add_zero, implies_true]
  · intro n acc

    rw [fv_X2_placeByQueue_4_s, ok_X2_placeByQueue_4_s, H1]
    simp only [pq_leT (show ¬ a < a by omega) (by omega) (by omega), if_true, if_false, true_implies, false_implies, not_true_eq_false, not_false_eq_true, true_and, and_true, and_self, imp_self, eq_self, Int32.add_zero, implies_true]
theorem cl_arrivals (k : Nat) (M : ps_M) : fv_X4_allArrivals k M = pq_sm (fun t => M (k + 1) t) 15 0 0 ∧ ok_X4_allArrivals k M := by
  have key := pq_acc (fun n acc x => fv_X4_allArrivals_4 n k acc x M) (fun n acc x => ok_X4_allArrivals_4 n k acc x M) 15 (fun t => M (k + 1) t) ?_ ?_ 15 0 ps_FU 0 (by omega) (pq_fu (by omega))
  · exact key
  · intro n c acc hc
    have v1 : vp_in (nI c) 15 := pq_vin (by omega) (by omega)
    rw [fv_X4_allArrivals_4_s, ok_X4_allArrivals_4_s, show (15 : Int32) = nI 15 from rfl]
    simp only [pq_leF hc (by omega), pq_nI (show c < 4000 by omega), pq_nIadd1, v1, if_true, if_false, true_implies, false_implies, not_true_eq_false, not_false_eq_true, true_and, and_true, and_self, imp_self, eq_self, Int32.add_zero, implies_true]
  · intro n acc
    rw [fv_X4_allArrivals_4_s, ok_X4_allArrivals_4_s, show (15 : Int32) = nI 15 from rfl]
    simp only [pq_leT (show ¬ 15 < 15 by omega) (by omega) (by omega), if_true, if_false, true_implies, false_implies, not_true_eq_false, not_false_eq_true, true_and, and_true, and_self, imp_self, eq_self, Int32.add_zero, implies_true]
theorem mo_served {N : ps_M} {b : Nat} (H2 : N 1 2 = nI b) (hb : b ≤ 12) (st : Int32) : fv_X6_serveAt st N = pq_sm (fun c => if pq_kv (N 1) c 2 = st then pq_kv (N 1) c 0 else 0) b 0 0 ∧ ok_X6_serveAt st N := by
  have key := pq_acc (fun n acc x => fv_X6_serveAt_4 n st acc x N) (fun n acc x => ok_X6_serveAt_4 n st acc x N) b (fun c => if pq_kv (N 1) c 2 = st then pq_kv (N 1) c 0 else 0) ?_ ?_ b 0 ps_FU 0 (by omega) (pq_fu (by omega))
  · exact key
  · intro n c acc hc
    have v2 : vp_in (2 : Int32) 237 := pq_vin (n := 2) (by omega) (by omega)
    have e2 : fv_X6_ofClerk (nI c) 2 N = pq_kv (N 1) c 2 := pq_ofK (j := 2) (by omega) (by omega) N
    have o2 : ok_X6_ofClerk (nI c) 2 N := pq_ofKok (j := 2) (by omega) (by omega) N
    have e0 : fv_X6_ofClerk (nI c) 0 N = pq_kv (N 1) c 0 := pq_ofK (j := 0) (by omega) (by omega) N
    have o0 : ok_X6_ofClerk (nI c) 0 N := pq_ofKok (j := 0) (by omega) (by omega) N
    rw [fv_X6_serveAt_4_s, ok_X6_serveAt_4_s, pq_c2, H2]
    rcases Classical.propComplete (pq_kv (N 1) c 2 = st) with m0 | m0 <;> simp only [m0, pq_leF hc (by omega), pq_nI (show c < 4000 by omega), pq_nIadd1, v2, e2, o2, e0, o0, fv_X6_serveAt_35, ok_X6_serveAt_35, if_true, if_false, true_implies, false_implies, not_true_eq_false, not_false_eq_true, true_and, and_true, and_self, imp_self, eq_self, Int32.add_zero, implies_true]
  · intro n acc
    have v2 : vp_in (2 : Int32) 237 := pq_vin (n := 2) (by omega) (by omega)
    rw [fv_X6_serveAt_4_s, ok_X6_serveAt_4_s, pq_c2, H2]
    simp only [pq_leT (show ¬ b < b by omega) (by omega) (by omega), v2, if_true, if_false, true_implies, false_implies, not_true_eq_false, not_false_eq_true, true_and, and_true, and_self, imp_self, eq_self, Int32.add_zero, implies_true]
theorem mo_onDutyAt {N : ps_M} {b : Nat} (H2 : N 1 2 = nI b) (hb : b ≤ 12) (st : Int32) : fv_X6_onDutyAt st N = pq_sm (fun c => if pq_kv (N 1) c 2 = st then 1 else 0) b 0 0 ∧ ok_X6_onDutyAt st N := by
  have key := pq_acc (fun n acc x => fv_X6_onDutyAt_4 n st acc x N) (fun n acc x => ok_X6_onDutyAt_4 n st acc x N) b (fun c => if pq_kv (N 1) c 2 = st then 1 else 0) ?_ ?_ b 0 ps_FU 0 (by omega) (pq_fu (by omega))
  · exact key
  · intro n c acc hc
    have v2 : vp_in (2 : Int32) 237 := pq_vin (n := 2) (by omega) (by omega)
    have e2 : fv_X6_ofClerk (nI c) 2 N = pq_kv (N 1) c 2 := pq_ofK (j := 2) (by omega) (by omega) N
    have o2 : ok_X6_ofClerk (nI c) 2 N := pq_ofKok (j := 2) (by omega) (by omega) N
    rw [fv_X6_onDutyAt_4_s, ok_X6_onDutyAt_4_s, pq_c2, H2]
    rcases Classical.propComplete (pq_kv (N 1) c 2 = st) with m0 | m0 <;> simp only [m0, pq_leF hc (by omega), pq_nI (show c < 4000 by omega), pq_nIadd1, v2, e2, o2, fv_X6_onDutyAt_30, ok_X6_onDutyAt_30, if_true, if_false, true_implies, false_implies, not_true_eq_false, not_false_eq_true, true_and, and_true, and_self, imp_self, eq_self, Int32.add_zero, implies_true]
  · intro n acc
    have v2 : vp_in (2 : Int32) 237 := pq_vin (n := 2) (by omega) (by omega)
    rw [fv_X6_onDutyAt_4_s, ok_X6_onDutyAt_4_s, pq_c2, H2]
    simp only [pq_leT (show ¬ b < b by omega) (by omega) (by omega), v2, if_true, if_false, true_implies, false_implies, not_true_eq_false, not_false_eq_true, true_and, and_true, and_self, imp_self, eq_self, Int32.add_zero, implies_true]
theorem mo_over0 {N : ps_M} {b : Nat} (H2 : N 1 2 = nI b) (hb : b ≤ 12) : fv_X6_overClerks 0 N = pq_sm (fun c => if pq_kv (N 1) c 2 = -1 then 0 else 1) b 0 0 ∧ ok_X6_overClerks 0 N := by
  have key := pq_acc (fun n acc x => fv_X6_overClerks_4 n 0 acc x N) (fun n acc x => ok_X6_overClerks_4 n 0 acc x N) b (fun c => if pq_kv (N 1) c 2 = -1 then 0 else 1) ?_ ?_ b 0 ps_FU 0 (by omega) (pq_fu (by omega))
  · exact key
  · intro n c acc hc
    have v2 : vp_in (2 : Int32) 237 := pq_vin (n := 2) (by omega) (by omega)
    have e2 : fv_X6_ofClerk (nI c) 2 N = pq_kv (N 1) c 2 := pq_ofK (j := 2) (by omega) (by omega) N
    have o2 : ok_X6_ofClerk (nI c) 2 N := pq_ofKok (j := 2) (by omega) (by omega) N
    rw [fv_X6_overClerks_4_s, ok_X6_overClerks_4_s, pq_c2, H2]
    rcases Classical.propComplete (pq_kv (N 1) c 2 = -1) with m0 | m0 <;> simp only [m0, pq_leF hc (by omega), pq_nI (show c < 4000 by omega), pq_nIadd1, v2, e2, o2, fv_X6_overClerks_41, ok_X6_overClerks_41, fv_X6_overClerks_68, ok_X6_overClerks_68, pq_02, pq_10, if_true, if_false, true_implies, false_implies, not_true_eq_false, not_false_eq_true, true_and, and_true, and_self, imp_self, eq_self, Int32.add_zero, implies_true]
  · intro n acc
    have v2 : vp_in (2 : Int32) 237 := pq_vin (n := 2) (by omega) (by omega)
    rw [fv_X6_overClerks_4_s, ok_X6_overClerks_4_s, pq_c2, H2]
    simp only [pq_leT (show ¬ b < b by omega) (by omega) (by omega), v2, if_true, if_false, true_implies, false_implies, not_true_eq_false, not_false_eq_true, true_and, and_true, and_self, imp_self, eq_self, Int32.add_zero, implies_true]
theorem mo_over1 {N : ps_M} {b : Nat} (H2 : N 1 2 = nI b) (hb : b ≤ 12) : fv_X6_overClerks 1 N = pq_sm (fun c => if fv_X6_isFree (nI c) N = 0 then 0 else 1) b 0 0 ∧ ok_X6_overClerks 1 N := by
  have key := pq_acc (fun n acc x => fv_X6_overClerks_4 n 1 acc x N) (fun n acc x => ok_X6_overClerks_4 n 1 acc x N) b (fun c => if fv_X6_isFree (nI c) N = 0 then 0 else 1) ?_ ?_ b 0 ps_FU 0 (by omega) (pq_fu (by omega))
  · exact key
  · intro n c acc hc
    have v2 : vp_in (2 : Int32) 237 := pq_vin (n := 2) (by omega) (by omega)
    have v3 : ok_X6_isFree (nI c) N := ok_freeM (by omega) N
    rw [fv_X6_overClerks_4_s, ok_X6_overClerks_4_s, pq_c2, H2]
    rcases Classical.propComplete (fv_X6_isFree (nI c) N = 0) with m0 | m0 <;> simp only [m0, pq_leF hc (by omega), pq_nI (show c < 4000 by omega), pq_nIadd1, v2, v3, fv_X6_overClerks_41, ok_X6_overClerks_41, fv_X6_overClerks_68, ok_X6_overClerks_68, pq_12, pq_10, if_true, if_false, true_implies, false_implies, not_true_eq_false, not_false_eq_true, true_and, and_true, and_self, imp_self, eq_self, Int32.add_zero, implies_true]
  · intro n acc
    have v2 : vp_in (2 : Int32) 237 := pq_vin (n := 2) (by omega) (by omega)
    rw [fv_X6_overClerks_4_s, ok_X6_overClerks_4_s, pq_c2, H2]
    simp only [pq_leT (show ¬ b < b by omega) (by omega) (by omega), v2, if_true, if_false, true_implies, false_implies, not_true_eq_false, not_false_eq_true, true_and, and_true, and_self, imp_self, eq_self, Int32.add_zero, implies_true]
theorem mo_over2 {N : ps_M} {b : Nat} (H2 : N 1 2 = nI b) (hb : b ≤ 12) : fv_X6_overClerks 2 N = pq_sm (fun c => pq_kv (N 1) c 4) b 0 0 ∧ ok_X6_overClerks 2 N := by
  have key := pq_acc (fun n acc x => fv_X6_overClerks_4 n 2 acc x N) (fun n acc x => ok_X6_overClerks_4 n 2 acc x N) b (fun c => pq_kv (N 1) c 4) ?_ ?_ b 0 ps_FU 0 (by omega) (pq_fu (by omega))
  · exact key
  · intro n c acc hc
    have v2 : vp_in (2 : Int32) 237 := pq_vin (n := 2) (by omega) (by omega)
    have v3 : ok_X6_isFree (nI c) N := ok_freeM (by omega) N
    have e4 : fv_X6_ofClerk (nI c) 4 N = pq_kv (N 1) c 4 := pq_ofK (j := 4) (by omega) (by omega) N
    have o4 : ok_X6_ofClerk (nI c) 4 N := pq_ofKok (j := 4) (by omega) (by omega) N
    rw [fv_X6_overClerks_4_s, ok_X6_overClerks_4_s, pq_c2, H2]
    simp only [pq_leF hc (by omega), pq_nI (show c < 4000 by omega), pq_nIadd1, v2, v3, e4, o4, fv_X6_overClerks_41, ok_X6_overClerks_41, fv_X6_overClerks_68, ok_X6_overClerks_68, pq_20, if_true, if_false, true_implies, false_implies, not_true_eq_false, not_false_eq_true, true_and, and_true, and_self, imp_self, eq_self, Int32.add_zero, implies_true]
  · intro n acc
    have v2 : vp_in (2 : Int32) 237 := pq_vin (n := 2) (by omega) (by omega)
    rw [fv_X6_overClerks_4_s, ok_X6_overClerks_4_s, pq_c2, H2]
    simp only [pq_leT (show ¬ b < b by omega) (by omega) (by omega), v2, if_true, if_false, true_implies, false_implies, not_true_eq_false, not_false_eq_true, true_and, and_true, and_self, imp_self, eq_self, Int32.add_zero, implies_true]
theorem mo_ahead {N : ps_M} {b : Nat} (H2 : N 1 2 = nI b) (hb : b ≤ 12) {c0 : Nat} (h0 : c0 < 12) : fv_X6_aheadOf (nI c0) N = pq_sm (fun c => if fv_X6_isFree (nI c) N = 0 then 0 else if pq_kv (N 1) c 4 < pq_kv (N 1) c0 4 then 1 else if pq_kv (N 1) c 4 = pq_kv (N 1) c0 4 then (if nI c0 ≤ nI c then 0 else 1) else 0) b 0 0 ∧ ok_X6_aheadOf (nI c0) N := by
  have key := pq_acc (fun n acc x => fv_X6_aheadOf_4 n (nI c0) acc x N) (fun n acc x => ok_X6_aheadOf_4 n (nI c0) acc x N) b (fun c => if fv_X6_isFree (nI c) N = 0 then 0 else if pq_kv (N 1) c 4 < pq_kv (N 1) c0 4 then 1 else if pq_kv (N 1) c 4 = pq_kv (N 1) c0 4 then (if nI c0 ≤ nI c then 0 else 1) else 0) ?_ ?_ b 0 ps_FU 0 (by omega) (pq_fu (by omega))
  · exact key
  · intro n c acc hc
    have v2 : vp_in (2 : Int32) 237 := pq_vin (n := 2) (by omega) (by omega)
    have v3 : ok_X6_isFree (nI c) N := ok_freeM (by omega) N
    have e4 : fv_X6_ofClerk (nI c) 4 N = pq_kv (N 1) c 4 := pq_ofK (j := 4) (by omega) (by omega) N
    have o4 : ok_X6_ofClerk (nI c) 4 N := pq_ofKok (j := 4) (by omega) (by omega) N
    have e5 : fv_X6_ofClerk (nI c0) 4 N = pq_kv (N 1) c0 4 := pq_ofK (j := 4) (by omega) (by omega) N
    have o5 : ok_X6_ofClerk (nI c0) 4 N := pq_ofKok (j := 4) (by omega) (by omega) N
    rw [fv_X6_aheadOf_4_s, ok_X6_aheadOf_4_s, pq_c2, H2]
    rcases Classical.propComplete (fv_X6_isFree (nI c) N = 0) with m0 | m0 <;> rcases Classical.propComplete (pq_kv (N 1) c 4 < pq_kv (N 1) c0 4) with m1 | m1 <;> rcases Classical.propComplete (pq_kv (N 1) c 4 = pq_kv (N 1) c0 4) with m2 | m2 <;> rcases Classical.propComplete (nI c0 ≤ nI c) with m3 | m3 <;> simp only [m0, m1, m2, m3, pq_leF hc (by omega), pq_nI (show c < 4000 by omega), pq_nIadd1, v2, v3, e4, o4, e5, o5, fv_X6_aheadOf_49, ok_X6_aheadOf_49, fv_X6_aheadOf_53, ok_X6_aheadOf_53, fv_X6_aheadOf_54, ok_X6_aheadOf_54, fv_X6_aheadOf_74, ok_X6_aheadOf_74, fv_X6_aheadOf_75, ok_X6_aheadOf_75, pq_10, if_true, if_false, true_implies, false_implies, not_true_eq_false, not_false_eq_true, true_and, and_true, and_self, imp_self, eq_self, Int32.add_zero, implies_true]
  · intro n acc
    have v2 : vp_in (2 : Int32) 237 := pq_vin (n := 2) (by omega) (by omega)
    rw [fv_X6_aheadOf_4_s, ok_X6_aheadOf_4_s, pq_c2, H2]
    simp only [pq_leT (show ¬ b < b by omega) (by omega) (by omega), v2, if_true, if_false, true_implies, false_implies, not_true_eq_false, not_false_eq_true, true_and, and_true, and_self, imp_self, eq_self, Int32.add_zero, implies_true]
theorem mo_counted {N : ps_M} {a : Nat} (H1 : N 1 1 = nI a) (ha : a ≤ 6) (x : Int32) : fv_X6_countedAs x N = pq_sm (fun c => if pq_sv (N 1) c 10 = -1 then 0 else if (if pq_sv (N 1) c 10 = pq_sv (N 1) c 9 then (1 : Int32) else 0) = x then 1 else 0) a 0 0 ∧ ok_X6_countedAs x N := by
  have key := pq_acc (fun n acc y => fv_X6_countedAs_4 n x acc y N) (fun n acc y => ok_X6_countedAs_4 n x acc y N) a (fun c => if pq_sv (N 1) c 10 = -1 then 0 else if (if pq_sv (N 1) c 10 = pq_sv (N 1) c 9 then (1 : Int32) else 0) = x then 1 else 0) ?_ ?_ a 0 ps_FU 0 (by omega) (pq_fu (by omega))
  · exact key
  · intro n c acc hc
    have v2 : vp_in (1 : Int32) 237 := pq_vin (n := 1) (by omega) (by omega)
    have e10 : fv_X6_of (nI c) 10 N = pq_sv (N 1) c 10 := pq_of (j := 10) (by omega) (by omega) N
    have o10 : ok_X6_of (nI c) 10 N := pq_ofok (j := 10) (by omega) (by omega) N
    have e9 : fv_X6_of (nI c) 9 N = pq_sv (N 1) c 9 := pq_of (j := 9) (by omega) (by omega) N
    have o9 : ok_X6_of (nI c) 9 N := pq_ofok (j := 9) (by omega) (by omega) N
    rw [fv_X6_countedAs_4_s, ok_X6_countedAs_4_s, pq_c1, H1]
    rcases Classical.propComplete (pq_sv (N 1) c 10 = -1) with m0 | m0 <;> rcases Classical.propComplete (pq_sv (N 1) c 10 = pq_sv (N 1) c 9) with m1 | m1 <;> rcases Classical.propComplete ((1 : Int32) = x) with m2 | m2 <;> rcases Classical.propComplete ((0 : Int32) = x) with m3 | m3 <;> simp only [m0, m1, m2, m3, pq_leF hc (by omega), pq_nI (show c < 4000 by omega), pq_nIadd1, v2, e10, o10, e9, o9, fv_X6_countedAs_48, ok_X6_countedAs_48, fv_X6_countedAs_56, ok_X6_countedAs_56, fv_X6_countedAs_57, ok_X6_countedAs_57, if_true, if_false, true_implies, false_implies, not_true_eq_false, not_false_eq_true, true_and, and_true, and_self, imp_self, eq_self, Int32.add_zero, implies_true]
  · intro n acc
    have v2 : vp_in (1 : Int32) 237 := pq_vin (n := 1) (by omega) (by omega)
    rw [fv_X6_countedAs_4_s, ok_X6_countedAs_4_s, pq_c1, H1]
    simp only [pq_leT (show ¬ a < a by omega) (by omega) (by omega), v2, if_true, if_false, true_implies, false_implies, not_true_eq_false, not_false_eq_true, true_and, and_true, and_self, imp_self, eq_self, Int32.add_zero, implies_true]
theorem mo_overS {N : ps_M} {a : Nat} (H1 : N 1 1 = nI a) (ha : a ≤ 6) {j : Nat} (hj : j < 27) : fv_X6_overStations (nI j) N = pq_sm (fun c => pq_sv (N 1) c j) a 0 0 ∧ ok_X6_overStations (nI j) N := by
  have key := pq_acc (fun n acc y => fv_X6_overStations_4 n (nI j) acc y N) (fun n acc y => ok_X6_overStations_4 n (nI j) acc y N) a (fun c => pq_sv (N 1) c j) ?_ ?_ a 0 ps_FU 0 (by omega) (pq_fu (by omega))
  · exact key
  · intro n c acc hc
    have v2 : vp_in (1 : Int32) 237 := pq_vin (n := 1) (by omega) (by omega)
    have e1 : fv_X6_of (nI c) (nI j) N = pq_sv (N 1) c j := pq_of (by omega) hj N
    have o1 : ok_X6_of (nI c) (nI j) N := pq_ofok (by omega) hj N
    rw [fv_X6_overStations_4_s, ok_X6_overStations_4_s, pq_c1, H1]
    simp only [pq_leF hc (by omega), pq_nI (show c < 4000 by omega), pq_nIadd1, v2, e1, o1, if_true, if_false, true_implies, false_implies, not_true_eq_false, not_false_eq_true, true_and, and_true, and_self, imp_self, eq_self, Int32.add_zero, implies_true]
  · intro n acc
    have v2 : vp_in (1 : Int32) 237 := pq_vin (n := 1) (by omega) (by omega)
    rw [fv_X6_overStations_4_s, ok_X6_overStations_4_s, pq_c1, H1]
    simp only [pq_leT (show ¬ a < a by omega) (by omega) (by omega), v2, if_true, if_false, true_implies, false_implies, not_true_eq_false, not_false_eq_true, true_and, and_true, and_self, imp_self, eq_self, Int32.add_zero, implies_true]
theorem pq_12x (t : Nat) : (12 : Int32) + nI t = nI (12 + t) := nI_add 12 t
theorem mo_arrivals {N : ps_M} {s : Nat} (hs : s < 6) : fv_X6_arrivalsAll (nI s) N = pq_sm (fun t => pq_sv (N 1) s (12 + t)) 15 0 0 ∧ ok_X6_arrivalsAll (nI s) N := by
  have key := pq_acc (fun n acc x => fv_X6_arrivalsAll_4 n (nI s) acc x N) (fun n acc x => ok_X6_arrivalsAll_4 n (nI s) acc x N) 15 (fun t => pq_sv (N 1) s (12 + t)) ?_ ?_ 15 0 ps_FU 0 (by omega) (pq_fu (by omega))
  · exact key
  · intro n c acc hc
    have e1 : fv_X6_of (nI s) (nI (12 + c)) N = pq_sv (N 1) s (12 + c) := pq_of hs (by omega) N
    have o1 : ok_X6_of (nI s) (nI (12 + c)) N := pq_ofok hs (by omega) N
    rw [fv_X6_arrivalsAll_4_s, ok_X6_arrivalsAll_4_s, show (15 : Int32) = nI 15 from rfl, pq_12x]
    simp only [pq_leF hc (by omega), pq_nIadd1, e1, o1, if_true, if_false, true_implies, false_implies, not_true_eq_false, not_false_eq_true, true_and, and_true, and_self, imp_self, eq_self, Int32.add_zero, implies_true]
  · intro n acc
    rw [fv_X6_arrivalsAll_4_s, ok_X6_arrivalsAll_4_s, show (15 : Int32) = nI 15 from rfl]
    simp only [pq_leT (show ¬ 15 < 15 by omega) (by omega) (by omega), if_true, if_false, true_implies, false_implies, not_true_eq_false, not_false_eq_true, true_and, and_true, and_self, imp_self, eq_self, Int32.add_zero, implies_true]
