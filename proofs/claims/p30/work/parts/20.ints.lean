/-! ===== ints; loops that add up (from whole) ===== -/
/-! ===== PURE: the two memories. Ints ===== -/
theorem pq_add {x y : Int32} (h1 : -2147483648 ≤ x.toInt + y.toInt) (h2 : x.toInt + y.toInt ≤ 2147483647) : (x + y).toInt = x.toInt + y.toInt := by
  rw [Int32.toInt_add]; exact Int.bmod_eq_of_le (by omega) (by omega)
theorem pq_sub {x y : Int32} (h1 : -2147483648 ≤ x.toInt - y.toInt) (h2 : x.toInt - y.toInt ≤ 2147483647) : (x - y).toInt = x.toInt - y.toInt := by
  rw [Int32.toInt_sub]; exact Int.bmod_eq_of_le (by omega) (by omega)
theorem pq_le {x y : Int32} : x ≤ y ↔ x.toInt ≤ y.toInt := Int32.le_iff_toInt_le
theorem pq_lt {x y : Int32} : x < y ↔ x.toInt < y.toInt := Int32.lt_iff_toInt_lt
theorem pq_eq {x y : Int32} : x = y ↔ x.toInt = y.toInt := Int32.toInt_inj.symm
theorem pq_c0 : ((0 : Int32)).toNatClampNeg = 0 := rfl
theorem pq_c1 : ((1 : Int32)).toNatClampNeg = 1 := rfl
theorem pq_c2 : ((2 : Int32)).toNatClampNeg = 2 := rfl
theorem pq_10 : ((1 : Int32) = 0) = False := by decide
theorem pq_nI {n : Nat} (h : n < 4000) : (nI n).toNatClampNeg = n := nI_clamp (by omega)
theorem pq_nT {n : Nat} (h : n < 4000) : (nI n).toInt = (n : Int) := nI_toInt (by omega)
theorem pq_vin {n m : Nat} (h : n < m) (hm : m < 4000) : vp_in (nI n) m := vp_in_nI h (by omega)
/-! reading behind a store -/
theorem pq_stne {M : ps_M} {k i k' i' : Nat} {v : Int32} (h : k' ≠ k ∨ i' ≠ i) : ps_st M k i v k' i' = M k' i' := by
  unfold ps_st
  by_cases h1 : i' = i
  · rw [if_pos h1]
    rw [if_neg (by rcases h with h | h; exact h; exact absurd h1 h)]
  · rw [if_neg h1]
theorem pq_stself {M : ps_M} {k i : Nat} {v : Int32} : ps_st M k i v k i = v := by
  unfold ps_st; rw [if_pos rfl, if_pos rfl]
/-! ===== reading loops ===== -/
theorem pq_leF {b c : Nat} (h : c < b) (hb : b < 4000) : (nI b ≤ nI c) = False := eq_false (nI_ge h (by omega))
theorem pq_leT {b c : Nat} (h : ¬ c < b) (hb : b < 4000) (hc : c < 4000) : (nI b ≤ nI c) = True := eq_true (nI_le (by omega) (by omega))
theorem pq_nIadd1 (n : Nat) : nI n + (1 : Int32) = nI (n + 1) := nI_1 n
/-! ===== what is told is the same ===== -/
theorem pq_ne5 {s : Nat} (h : s < 4000) : ¬ ((-5 : Int32) = nI s) := by
  intro e
  have := congrArg Int32.toInt e
  rw [pq_nT h, show ((-5 : Int32)).toInt = -5 from by decide] at this
  omega
theorem pq_ne1 {s : Nat} (h : s < 4000) : ¬ ((-1 : Int32) = nI s) := by
  intro e
  have := congrArg Int32.toInt e
  rw [pq_nT h, show ((-1 : Int32)).toInt = -1 from by decide] at this
  omega
theorem pq_inj {s t : Nat} (hs : s < 4000) (ht : t < 4000) : nI s = nI t ↔ s = t := nI_eq (by omega) (by omega)
/-! ===== loops that add up: closed forms ===== -/
def pq_sm (δ : Nat → Int32) : Nat → Nat → Int32 → Int32
  | 0, _, acc => acc
  | k + 1, c, acc => pq_sm δ k (c + 1) (acc + δ c)
theorem pq_sm_congr {δ ε : Nat → Int32} : ∀ (k c : Nat) (acc : Int32), (∀ i, c ≤ i → i < c + k → δ i = ε i) → pq_sm δ k c acc = pq_sm ε k c acc := by
  intro k
  induction k with
  | zero => intro c acc _; rfl
  | succ k ih =>
    intro c acc h
    show pq_sm δ k (c + 1) (acc + δ c) = pq_sm ε k (c + 1) (acc + ε c)
    rw [h c (by omega) (by omega)]
    exact ih (c + 1) _ (fun i h1 h2 => h i (by omega) (by omega))
theorem pq_acc (W : Nat → Int32 → Int32 → Int32) (O : Nat → Int32 → Int32 → Prop) (b : Nat) (δ : Nat → Int32) (hs : ∀ (n c : Nat) (acc : Int32), c < b → W (n + 1) acc (nI c) = W n (acc + δ c) (nI (c + 1)) ∧ (O n (acc + δ c) (nI (c + 1)) → O (n + 1) acc (nI c))) (he : ∀ (n : Nat) (acc : Int32), W (n + 1) acc (nI b) = acc ∧ O (n + 1) acc (nI b)) : ∀ (k c n : Nat) (acc : Int32), c + k = b → k < n → W n acc (nI c) = pq_sm δ k c acc ∧ O n acc (nI c) := by
  intro k
  induction k with
  | zero =>
    intro c n acc h1 h2
    cases n with
    | zero => omega
    | succ n => rw [show c = b by omega]; exact he n acc
  | succ k ih =>
    intro c n acc h1 h2
    cases n with
    | zero => omega
    | succ n =>
      obtain ⟨e1, e2⟩ := hs n c acc (by omega)
      obtain ⟨e3, e4⟩ := ih (c + 1) n (acc + δ c) (by omega) (by omega)
      exact ⟨e1.trans e3, e2 e4⟩
theorem pq_fu {b : Nat} (h : b < 1000) : b < ps_FU := by unfold ps_FU; omega
theorem pq_02 : ((0 : Int32) = 2) = False := by decide
theorem pq_12 : ((1 : Int32) = 2) = False := by decide
theorem pq_20 : ((2 : Int32) = 0) = False := by decide
theorem pq_01 : ((0 : Int32) = 1) = False := by decide
theorem cl_served {M : ps_M} {d b : Nat} (H2 : M d 2 = nI b) (hb : b ≤ 12) (st : Int32) : fv_X2_servedAnHourAt d st M = pq_sm (fun c => if M (d + 14 + 1 + c) 2 = st then M (d + 14 + 1 + c) 0 else 0) b 0 0 ∧ ok_X2_servedAnHourAt d st M := by
  have key := pq_acc (fun n acc x => fv_X2_servedAnHourAt_4 n d st acc x M) (fun n acc x => ok_X2_servedAnHourAt_4 n d st acc x M) b (fun c => if M (d + 14 + 1 + c) 2 = st then M (d + 14 + 1 + c) 0 else 0) ?_ ?_ b 0 ps_FU 0 (by omega) (pq_fu (by omega))
  · exact key
  · intro n c acc hc
    have v1 : vp_in (nI c) 12 := pq_vin (by omega) (by omega)
    rw [fv_X2_servedAnHourAt_4_s, ok_X2_servedAnHourAt_4_s, H2]
    rcases Classical.propComplete (M (d + 14 + 1 + c) 2 = st) with m0 | m0 <;> simp only [m0, pq_leF hc (by omega), pq_nI (show c < 4000 by omega), pq_nIadd1, v1, if_true, if_false, true_implies, false_implies, not_true_eq_false, not_false_eq_true, true_and, and_true, and_self, imp_self, eq_self, Int32.add_zero, implies_true]
  · intro n acc
    rw [fv_X2_servedAnHourAt_4_s, ok_X2_servedAnHourAt_4_s, H2]
    simp only [pq_leT (show ¬ b < b by omega) (by omega) (by omega), if_true, if_false, true_implies, false_implies, not_true_eq_false, not_false_eq_true, true_and, and_true, and_self, imp_self, eq_self, Int32.add_zero, implies_true]
theorem cl_clerksAt {M : ps_M} {d b : Nat} (H2 : M d 2 = nI b) (hb : b ≤ 12) (st : Int32) : fv_X2_clerksAt d st M = pq_sm (fun c => if M (d + 14 + 1 + c) 2 = st then 1 else 0) b 0 0 ∧ ok_X2_clerksAt d st M := by
  have key := pq_acc (fun n acc x => fv_X2_clerksAt_4 n d st acc x M) (fun n acc x => ok_X2_clerksAt_4 n d st acc x M) b (fun c => if M (d + 14 + 1 + c) 2 = st then 1 else 0) ?_ ?_ b 0 ps_FU 0 (by omega) (pq_fu (by omega))
  · exact key
  · intro n c acc hc
    have v1 : vp_in (nI c) 12 := pq_vin (by omega) (by omega)
    rw [fv_X2_clerksAt_4_s, ok_X2_clerksAt_4_s, H2]
    rcases Classical.propComplete (M (d + 14 + 1 + c) 2 = st) with m0 | m0 <;> simp only [m0, pq_leF hc (by omega), pq_nI (show c < 4000 by omega), pq_nIadd1, v1, if_true, if_false, true_implies, false_implies, not_true_eq_false, not_false_eq_true, true_and, and_true, and_self, imp_self, eq_self, Int32.add_zero, implies_true]
  · intro n acc
    rw [fv_X2_clerksAt_4_s, ok_X2_clerksAt_4_s, H2]
    simp only [pq_leT (show ¬ b < b by omega) (by omega) (by omega), if_true, if_false, true_implies, false_implies, not_true_eq_false, not_false_eq_true, true_and, and_true, and_self, imp_self, eq_self, Int32.add_zero, implies_true]
theorem cl_onDuty {M : ps_M} {d b : Nat} (H2 : M d 2 = nI b) (hb : b ≤ 12) : fv_X2_clerksOnDuty d M = pq_sm (fun c => if fv_X1_isOnDuty (d + 14 + 1 + c) M = 0 then 0 else 1) b 0 0 ∧ ok_X2_clerksOnDuty d M := by
  have key := pq_acc (fun n acc x => fv_X2_clerksOnDuty_4 n d acc x M) (fun n acc x => ok_X2_clerksOnDuty_4 n d acc x M) b (fun c => if fv_X1_isOnDuty (d + 14 + 1 + c) M = 0 then 0 else 1) ?_ ?_ b 0 ps_FU 0 (by omega) (pq_fu (by omega))
  · exact key
  · intro n c acc hc
    have v1 : vp_in (nI c) 12 := pq_vin (by omega) (by omega)
    have v3 : ok_X1_isOnDuty (d + 14 + 1 + c) M := trivial
    rw [fv_X2_clerksOnDuty_4_s, ok_X2_clerksOnDuty_4_s, H2]
    rcases Classical.propComplete (fv_X1_isOnDuty (d + 14 + 1 + c) M = 0) with m0 | m0 <;> simp only [m0, pq_leF hc (by omega), pq_nI (show c < 4000 by omega), pq_nIadd1, v1, v3, if_true, if_false, true_implies, false_implies, not_true_eq_false, not_false_eq_true, true_and, and_true, and_self, imp_self, eq_self, Int32.add_zero, implies_true]
  · intro n acc
    rw [fv_X2_clerksOnDuty_4_s, ok_X2_clerksOnDuty_4_s, H2]
    simp only [pq_leT (show ¬ b < b by omega) (by omega) (by omega), if_true, if_false, true_implies, false_implies, not_true_eq_false, not_false_eq_true, true_and, and_true, and_self, imp_self, eq_self, Int32.add_zero, implies_true]
theorem ok_free (k : Nat) (M : ps_M) : ok_X1_isFree k M := ⟨trivial, fun _ => ⟨trivial, trivial⟩, fun _ => trivial⟩
theorem cl_freeClerks {M : ps_M} {d b : Nat} (H2 : M d 2 = nI b) (hb : b ≤ 12) : fv_X2_freeClerks d M = pq_sm (fun c => if fv_X1_isFree (d + 14 + 1 + c) M = 0 then 0 else 1) b 0 0 ∧ ok_X2_freeClerks d M := by
  have key := pq_acc (fun n acc x => fv_X2_freeClerks_4 n d acc x M) (fun n acc x => ok_X2_freeClerks_4 n d acc x M) b (fun c => if fv_X1_isFree (d + 14 + 1 + c) M = 0 then 0 else 1) ?_ ?_ b 0 ps_FU 0 (by omega) (pq_fu (by omega))
  · exact key
  · intro n c acc hc
    have v1 : vp_in (nI c) 12 := pq_vin (by omega) (by omega)
    have v3 : ok_X1_isFree (d + 14 + 1 + c) M := ok_free _ _
    rw [fv_X2_freeClerks_4_s, ok_X2_freeClerks_4_s, H2]
    rcases Classical.propComplete (fv_X1_isFree (d + 14 + 1 + c) M = 0) with m0 | m0 <;> simp only [m0, pq_leF hc (by omega), pq_nI (show c < 4000 by omega), pq_nIadd1, v1, v3, if_true, if_false, true_implies, false_implies, not_true_eq_false, not_false_eq_true, true_and, and_true, and_self, imp_self, eq_self, Int32.add_zero, implies_true]
  · intro n acc
    rw [fv_X2_freeClerks_4_s, ok_X2_freeClerks_4_s, H2]
    simp only [pq_leT (show ¬ b < b by omega) (by omega) (by omega), if_true, if_false, true_implies, false_implies, not_true_eq_false, not_false_eq_true, true_and, and_true, and_self, imp_self, eq_self, Int32.add_zero, implies_true]
theorem cl_worked {M : ps_M} {d b : Nat} (H2 : M d 2 = nI b) (hb : b ≤ 12) : fv_X2_hoursWorked d M = pq_sm (fun c => M (d + 14 + 1 + c) 4) b 0 0 ∧ ok_X2_hoursWorked d M := by
  have key := pq_acc (fun n acc x => fv_X2_hoursWorked_4 n d acc x M) (fun n acc x => ok_X2_hoursWorked_4 n d acc x M) b (fun c => M (d + 14 + 1 + c) 4) ?_ ?_ b 0 ps_FU 0 (by omega) (pq_fu (by omega))
  · exact key
  · intro n c acc hc
    have v1 : vp_in (nI c) 12 := pq_vin (by omega) (by omega)
    rw [fv_X2_hoursWorked_4_s, ok_X2_hoursWorked_4_s, H2]
    simp only [pq_leF hc (by omega), pq_nI (show c < 4000 by omega), pq_nIadd1, v1, if_true, if_false, true_implies, false_implies, not_true_eq_false, not_false_eq_true, true_and, and_true, and_self, imp_self, eq_self, Int32.add_zero, implies_true]
  · intro n acc
    rw [fv_X2_hoursWorked_4_s, ok_X2_hoursWorked_4_s, H2]
    simp only [pq_leT (show ¬ b < b by omega) (by omega) (by omega), if_true, if_false, true_implies, false_implies, not_true_eq_false, not_false_eq_true, true_and, and_true, and_self, imp_self, eq_self, Int32.add_zero, implies_true]
theorem cl_place {M : ps_M} {d b : Nat} (H2 : M d 2 = nI b) (hb : b ≤ 12) {c0 : Nat} (h0 : c0 < 12) : fv_X2_placeAmongFree d (nI c0) M = pq_sm (fun c => if fv_X1_isFree (d + 14 + 1 + c) M = 0 then 0 else if fv_X2_comesBefore d (nI c) (nI c0) M = 0 then 0 else 1) b 0 0 ∧ ok_X2_placeAmongFree d (nI c0) M := by
  have key := pq_acc (fun n acc x => fv_X2_placeAmongFree_4 n d (nI c0) acc x M) (fun n acc x => ok_X2_placeAmongFree_4 n d (nI c0) acc x M) b (fun c => if fv_X1_isFree (d + 14 + 1 + c) M = 0 then 0 else if fv_X2_comesBefore d (nI c) (nI c0) M = 0 then 0 else 1) ?_ ?_ b 0 ps_FU 0 (by omega) (pq_fu (by omega))
  · exact key
  · intro n c acc hc
    have v1 : vp_in (nI c) 12 := pq_vin (by omega) (by omega)
    have v3 : ok_X1_isFree (d + 14 + 1 + c) M := ok_free _ _
    have v4 : ok_X2_comesBefore d (nI c) (nI c0) M := ⟨v1, pq_vin (by omega) (by omega), trivial⟩
    rw [fv_X2_placeAmongFree_4_s, ok_X2_placeAmongFree_4_s, H2]
    rcases Classical.propComplete (fv_X1_isFree (d + 14 + 1 + c) M = 0) with m0 | m0 <;> rcases Classical.propComplete (fv_X2_comesBefore d (nI c) (nI c0) M = 0) with m1 | m1 <;> simp only [m0, m1, pq_leF hc (by omega), pq_nI (show c < 4000 by omega), pq_nIadd1, v1, v3, v4, if_true, if_false, true_implies, false_implies, not_true_eq_false, not_false_eq_true, true_and, and_true, and_self, imp_self, eq_self, Int32.add_zero, implies_true]
  · intro n acc
    rw [fv_X2_placeAmongFree_4_s, ok_X2_placeAmongFree_4_s, H2]
    simp only [pq_leT (show ¬ b < b by omega) (by omega) (by omega), if_true, if_false, true_implies, false_implies, not_true_eq_false, not_false_eq_true, true_and, and_true, and_self, imp_self, eq_self, Int32.add_zero, implies_true]
theorem cl_counted {M : ps_M} {d a : Nat} (H1 : M d 1 = nI a) (ha : a ≤ 6) (x : Int32) : fv_X2_stationsCounted d x M = pq_sm (fun c => if fv_X4_isCounted (d + 1 + 1 + 2 * c) M = 0 then 0 else if fv_X4_countAgrees (d + 1 + 1 + 2 * c) M = x then 1 else 0) a 0 0 ∧ ok_X2_stationsCounted d x M := by
  have key := pq_acc (fun n acc y => fv_X2_stationsCounted_4 n d x acc y M) (fun n acc y => ok_X2_stationsCounted_4 n d x acc y M) a (fun c => if fv_X4_isCounted (d + 1 + 1 + 2 * c) M = 0 then 0 else if fv_X4_countAgrees (d + 1 + 1 + 2 * c) M = x then 1 else 0) ?_ ?_ a 0 ps_FU 0 (by omega) (pq_fu (by omega))
  · exact key
  · intro n c acc hc
    have v1 : vp_in (nI c) 6 := pq_vin (by omega) (by omega)
    have v3 : ok_X4_isCounted (d + 1 + 1 + 2 * c) M := trivial
    have v4 : ok_X4_countAgrees (d + 1 + 1 + 2 * c) M := trivial
    rw [fv_X2_stationsCounted_4_s, ok_X2_stationsCounted_4_s, H1]
    rcases Classical.propComplete (fv_X4_isCounted (d + 1 + 1 + 2 * c) M = 0) with m0 | m0 <;> rcases Classical.propComplete (fv_X4_countAgrees (d + 1 + 1 + 2 * c) M = x) with m1 | m1 <;> simp only [m0, m1, pq_leF hc (by omega), pq_nI (show c < 4000 by omega), pq_nIadd1, v1, v3, v4, if_true, if_false, true_implies, false_implies, not_true_eq_false, not_false_eq_true, true_and, and_true, and_self, imp_self, eq_self, Int32.add_zero, implies_true]
  · intro n acc
    rw [fv_X2_stationsCounted_4_s, ok_X2_stationsCounted_4_s, H1]
    simp only [pq_leT (show ¬ a < a by omega) (by omega) (by omega), if_true, if_false, true_implies, false_implies, not_true_eq_false, not_false_eq_true, true_and, and_true, and_self, imp_self, eq_self, Int32.add_zero, implies_true]
theorem cl_byQueue {M : ps_M} {d a : Nat} (H1 : M d 1 = nI a) (ha : a ≤ 6) {c0 : Nat} (h0 : c0 < 6) : fv_X2_placeByQueue d (nI c0) M = pq_sm (fun c => if 0 < M (d + 1 + 1 + 2 * c) 1 - M (d + 1 + 1 + 2 * c0) 1 then 1 else if M (d + 1 + 1 + 2 * c) 1 - M (d + 1 + 1 + 2 * c0) 1 = 0 then (if nI c0 ≤ nI c then 0 else 1) else 0) a 0 0 ∧ ok_X2_placeByQueue d (nI c0) M := by
  have key := pq_acc (fun n acc y => fv_X2_placeByQueue_4 n d (nI c0) acc y M) (fun n acc y => ok_X2_placeByQueue_4 n d (nI c0) acc y M) a (fun c => if 0 < M (d + 1 + 1 + 2 * c) 1 - M (d + 1 + 1 + 2 * c0) 1 then 1 else if M (d + 1 + 1 + 2 * c) 1 - M (d + 1 + 1 + 2 * c0) 1 = 0 then (if nI c0 ≤ nI c then 0 else 1) else 0) ?_ ?_ a 0 ps_FU 0 (by omega) (pq_fu (by omega))
  · exact key
  · intro n c acc hc
    have v1 : vp_in (nI c) 6 := pq_vin (by omega) (by omega)
    have v3 : vp_in (nI c0) 6 := pq_vin (by omega) (by omega)
    rw [fv_X2_placeByQueue_4_s, ok_X2_placeByQueue_4_s, H1]
    rcases Classical.propComplete (0 < M (d + 1 + 1 + 2 * c) 1 - M (d + 1 + 1 + 2 * c0) 1) with m0 | m0 <;> rcases Classical.propComplete (M (d + 1 + 1 + 2 * c) 1 - M (d + 1 + 1 + 2 * c0) 1 = 0) with m1 | m1 <;> rcases Classical.propComplete (nI c0 ≤ nI c) with m2 | m2 <;> simp only [m0, m1, m2, pq_leF hc (by omega), pq_nI (show c < 4000 by omega), pq_nIadd1, v1, v3, pq_nI (show c0 < 4000 by omega), if_true, if_false, true_implies, false_implies, not_true_eq_false, not_false_eq_true, true_and, and_true, and_self, imp_self, eq_self, Int32.add_zero, implies_true]
  · intro n acc
    rw [fv_X2_placeByQueue_4_s, ok_X2_placeByQueue_4_s, H1]
    simp only [pq_leT (show ¬ a < a by omega) (by omega) (by omega), if_true, if_false, true_implies, false_implies, not_true_eq_false, not_false_eq_true, true_and, and_true, and_self, imp_self, eq_self, Int32.add_zero, implies_true]
theorem cl_arrivals (k : Nat) (M : ps_M) : fv_X4_allArrivals k M = pq_sm (fun t => M (k + 1) t) 15 0 0 ∧ ok_X4_allArrivals k M := by
  have key := pq_acc (fun n acc x => fv_X4_allArrivals_4 n k acc x M) (fun n acc x => ok_X4_allArrivals_4 n k acc x M) 15 (fun t => M (k + 1) t) ?_ ?_ 15 0 ps_FU 0 (by omega) (pq_fu (by omega))
  · exact key
  · intro n c acc hc
    have v1 : vp_in (nI c) 15 := pq_vin (by omega) (by omega)
    rw [fv_X4_allArrivals_4_s, ok_X4_allArrivals_4_s, show (15 : Int32) = nI 15 from rfl]
    simp only [pq_leF hc (by omega), pq_nI (show c < 4000 by omega), pq_nIadd1, v1, if_true, if_false, true_implies, false_implies, not_true_eq_false, not_false_eq_true, true_and, and_true, and_self, imp_self, eq_self, Int32.add_zero, implies_true]
  · intro n acc
    rw [fv_X4_allArrivals_4_s, ok_X4_allArrivals_4_s, show (15 : Int32) = nI 15 from rfl]
    simp only [pq_leT (show ¬ 15 < 15 by omega) (by omega) (by omega), if_true, if_false, true_implies, false_implies, not_true_eq_false, not_false_eq_true, true_and, and_true, and_self, imp_self, eq_self, Int32.add_zero, implies_true]
