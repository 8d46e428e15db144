/-! ===== the end of an hour ===== -/
def eF (f : Nat → Int32) : Nat → Int32 := if f 5 ≤ 0 then (if f 2 = -5 then f else upd (upd f 4 (f 4 + 1)) 3 (f 3 + 1)) else upd (if f 2 = -5 then f else upd (upd f 4 (f 4 + 1)) 3 (f 3 + 1)) 5 (f 5 - 1)
def eR (r : Nat → Int32) : Nat → Int32 := upd (upd (upd r 4 (r 4 + (if r 2 = -1 then 0 else 1))) 3 (if r 2 = -1 then 0 else r 3 + 1)) 5 (if r 5 = 2 then 1 else 0)
theorem cl_end27 (k : Nat) (M : ps_M) : (∀ i, i ≠ k → fv_X1_endHour_27 k M i = M i) ∧ fv_X1_endHour_27 k M k = (if M k 5 ≤ 0 then M k else upd (M k) 5 (M k 5 - 1)) ∧ ok_X1_endHour_27 k M := by
  unfold fv_X1_endHour_27 fv_X1_rests ok_X1_endHour_27
  by_cases q : M k 5 ≤ 0
  · rw [if_pos q, if_pos rfl, if_pos q]
    exact ⟨fun _ _ => rfl, rfl, trivial, trivial⟩
  · rw [if_neg q, if_neg (by decide), if_neg q]
    exact ⟨fun i hi => ps_st_ne hi, ps_st_self, trivial, trivial⟩
theorem cl_end (k : Nat) (M : ps_M) : (∀ i, i ≠ k → fv_X1_endHour k M i = M i) ∧ fv_X1_endHour k M k = eF (M k) ∧ ok_X1_endHour k M := by
  unfold fv_X1_endHour fv_X1_isOnDuty ok_X1_endHour eF
  by_cases q : M k 2 = -5
  · rw [if_pos q, if_pos rfl, if_pos q]
    obtain ⟨h1, h2, h3⟩ := cl_end27 k M
    exact ⟨h1, h2, trivial, fun _ => h3, fun z => absurd (by unfold fv_X1_isOnDuty; rw [if_pos q]) z⟩
  · rw [if_neg q, if_neg (by decide), if_neg q]
    obtain ⟨h1, h2, h3⟩ := cl_end27 k (ps_st (ps_st M k 4 (M k 4 + 1)) k 3 ((ps_st M k 4 (M k 4 + 1)) k 3 + 1))
    refine ⟨fun i hi => (h1 i hi).trans ((ps_st_ne hi).trans (ps_st_ne hi)), ?_, trivial, fun z => absurd z (by unfold fv_X1_isOnDuty; rw [if_neg q]; decide), fun _ => h3⟩
    have e3 : (ps_st M k 4 (M k 4 + 1)) k 3 = M k 3 := pq_stne (Or.inr (by omega))
    have ek : (ps_st (ps_st M k 4 (M k 4 + 1)) k 3 (M k 3 + 1)) k = upd (upd (M k) 4 (M k 4 + 1)) 3 (M k 3 + 1) := by rw [ps_st_self, ps_st_self]
    have e5 : upd (upd (M k) 4 (M k 4 + 1)) 3 (M k 3 + 1) 5 = M k 5 := by rw [upd, if_neg (by omega), upd, if_neg (by omega)]
    rw [e3, ek, e5] at h2
    rw [e3]
    exact h2
theorem K_end {a h : Nat} {f r : Nat → Int32} (ha : a ≤ 6) (hh : h ≤ 18) (hk : pq_K a h 1 True f r) : pq_K a (h + 1) 0 True (eF f) (eR r) := by
  have hoff := K_off ha hk
  obtain ⟨⟨e0, e1, e3, e4, e5⟩, k2, k3, k4, k5, k6⟩ := hk
  have k3 := k3 trivial
  have g1 : ((1 : Int32)).toInt = 1 := by decide
  have g0 : ((0 : Int32)).toInt = 0 := by decide
  have x0 : eR r 0 = r 0 := by simp (config := {decide := true}) only [eR, upd, if_true, if_false]
  have x1 : eR r 1 = r 1 := by simp (config := {decide := true}) only [eR, upd, if_true, if_false]
  have x2 : eR r 2 = r 2 := by simp (config := {decide := true}) only [eR, upd, if_true, if_false]
  have x3 : eR r 3 = if r 2 = -1 then 0 else r 3 + 1 := by simp (config := {decide := true}) only [eR, upd, if_true, if_false]
  have x4 : eR r 4 = r 4 + (if r 2 = -1 then 0 else 1) := by simp (config := {decide := true}) only [eR, upd, if_true, if_false]
  have x5 : eR r 5 = if r 5 = 2 then 1 else 0 := by simp (config := {decide := true}) only [eR, upd, if_true, if_false]
  have y : eF f 0 = f 0 ∧ eF f 1 = f 1 ∧ eF f 2 = f 2 ∧ (eF f 3 = if f 2 = -5 then f 3 else f 3 + 1) ∧ (eF f 4 = if f 2 = -5 then f 4 else f 4 + 1) ∧ (eF f 5 = if f 5 ≤ 0 then f 5 else f 5 - 1) := by
    unfold eF
    by_cases p1 : f 5 ≤ 0 <;> by_cases p2 : f 2 = -5 <;> simp (config := {decide := true}) only [p1, p2, upd, if_true, if_false, and_self]
  obtain ⟨y0, y1, y2, y3, y4, y5⟩ := y
  have z5 : (if f 5 ≤ 0 then f 5 else f 5 - 1) = (if r 5 = 2 then 1 else 0) ∧ ((if r 5 = 2 then (1 : Int32) else 0) = 0 ∨ (if r 5 = 2 then (1 : Int32) else 0) = 1 ∨ (if r 5 = 2 then (1 : Int32) else 0) = 2) := by
    rw [e5]
    rcases k6 with q | q | q <;> rw [q] <;> decide
  have s3 : ((r 3) + 1).toInt = (r 3).toInt + 1 := by rw [pq_add (by omega) (by omega), g1]
  have s4 : ((r 4) + 1).toInt = (r 4).toInt + 1 := by rw [pq_add (by omega) (by omega), g1]
  unfold pq_K
  rw [x0, x1, x2, x3, x4, x5, y0, y1, y2, y3, y4, y5]
  by_cases q : f 2 = -5
  · have q' := hoff.mp q
    simp only [q', if_true, Int32.add_zero]
    rw [q, if_pos rfl, if_pos rfl]
    have r30 : r 3 = 0 := by
      rcases k2 with ⟨-, -, k⟩ | ⟨-, s, hs, k, -⟩
      · exact k
      · rw [q] at k; exact absurd k (pq_ne5 (s := s) (by omega))
    exact ⟨⟨e0, e1, by rw [e3, r30], e4, z5.1⟩, Or.inl ⟨by first | rfl | trivial, fun _ => by first | rfl | trivial, by first | rfl | trivial⟩, fun _ => ⟨k3.1, k3.2.1, by rw [g0]; omega⟩, by rw [g0]; omega, by omega, z5.2⟩
  · have q' : ¬ (r 2 = -1) := fun z => q (hoff.mpr z)
    simp only [q', q, if_false]
    refine ⟨⟨e0, e1, by rw [e3], by rw [e4], z5.1⟩, ?_, fun _ => ⟨k3.1, k3.2.1, by omega⟩, by omega, by omega, z5.2⟩
    rcases k2 with ⟨k, -⟩ | k
    · exact absurd k q
    · exact Or.inr k
theorem K_endF {a h : Nat} {f r : Nat → Int32} {ad : Prop} (hp : ¬ ad) (hk : pq_K a h 1 ad f r) : pq_K a (h + 1) 0 ad f r := by
  obtain ⟨k1, k2, k3, k4, k5, k6⟩ := hk
  exact ⟨k1, k2, fun z => absurd z hp, k4, by omega, k6⟩
theorem h_end {d h a b : Nat} {S : Nat → (Nat → Int32) → (Nat → Int32) → (Nat → Int32) → Prop} : ∀ (k i n1 n2 : Nat) (x : Int32) (M N : ps_M), i + k = b → k < n1 → k < n2 → DX M d (N 1) h a b S (fun c => if c < i then pq_K a (h + 1) 0 (c < b) else pq_K a h 1 (c < b)) → ∃ M' N' : ps_M, fv_X2_endHourOfClerks_2 n1 d (nI i) M = M' ∧ ok_X2_endHourOfClerks_2 n1 d (nI i) M ∧ fv_X6_hourPasses_83 n2 x (nI i) N = (x, ps_st N' 1 0 (N' 1 0 + 1)) ∧ ok_X6_hourPasses_83 n2 x (nI i) N ∧ FR d M N M' N' ∧ DX M' d (N' 1) h a b S (fun c => pq_K a (h + 1) 0 (c < b)) := by
  have w0 : vp_in (0 : Int32) 237 := pq_vin (n := 0) (by omega) (by omega)
  have w2 : vp_in (2 : Int32) 237 := pq_vin (n := 2) (by omega) (by omega)
  intro k
  induction k with
  | zero =>
    intro i n1 n2 x M N h1 h2 h3 hx
    cases n1 with
    | zero => omega
    | succ n1 =>
      cases n2 with
      | zero => omega
      | succ n2 =>
        have hb := hx.2.2.1.2.2
        rw [fv_X2_endHourOfClerks_2_s, ok_X2_endHourOfClerks_2_s, fv_X6_hourPasses_83_s, ok_X6_hourPasses_83_s, pq_c0, pq_c2, hx.1.2.2, hx.2.1.2.2]
        simp only [pq_leT (show ¬ i < b by omega) (by omega) (by omega), w0, w2, if_true, true_implies, not_true_eq_false, false_implies, and_true, true_and]
        refine ⟨M, N, rfl, rfl, FR_refl d M N, ?_⟩
        refine DX_mono hx (fun s _ f g r hs => hs) (fun c _ f r hc => ?_)
        by_cases q : c < i
        · rw [if_pos q] at hc; exact hc
        · rw [if_neg q] at hc; exact K_endF (by omega) hc
  | succ k ih =>
    intro i n1 n2 x M N h1 h2 h3 hx
    cases n1 with
    | zero => omega
    | succ n1 =>
      cases n2 with
      | zero => omega
      | succ n2 =>
        have hb := hx.2.2.1.2.2
        have ha := hx.2.2.1.2.1
        have hh := hx.2.2.1.1
        have hi : i < 12 := by omega
        have v1 : vp_in (nI i) 12 := pq_vin hi (by omega)
        have hK := hx.2.2.2.2 i hi
        dsimp only at hK
        rw [if_neg (show ¬ i < i by omega)] at hK
        have hK1 := K_end ha hh (K_true (by omega) hK)
        obtain ⟨y1, y2, y3⟩ := cl_end (d + 14 + 1 + i) M
        have L3 : ∀ v N', fv_X6_laysClerk (nI i) 3 v N' = ps_st N' 1 (165 + 6 * i + 3) v := fun v N' => pq_lays (j := 3) hi (by omega) v N'
        have L4 : ∀ v N', fv_X6_laysClerk (nI i) 4 v N' = ps_st N' 1 (165 + 6 * i + 4) v := fun v N' => pq_lays (j := 4) hi (by omega) v N'
        have L5 : ∀ v N', fv_X6_laysClerk (nI i) 5 v N' = ps_st N' 1 (165 + 6 * i + 5) v := fun v N' => pq_lays (j := 5) hi (by omega) v N'
        have B3 : ∀ v N', ok_X6_laysClerk (nI i) 3 v N' := fun v N' => pq_laysok (j := 3) hi (by omega) v N'
        have B4 : ∀ v N', ok_X6_laysClerk (nI i) 4 v N' := fun v N' => pq_laysok (j := 4) hi (by omega) v N'
        have B5 : ∀ v N', ok_X6_laysClerk (nI i) 5 v N' := fun v N' => pq_laysok (j := 5) hi (by omega) v N'
        have O2 : ∀ N', fv_X6_ofClerk (nI i) 2 N' = pq_kv (N' 1) i 2 := pq_ofK (j := 2) hi (by omega)
        have O3 : ∀ N', fv_X6_ofClerk (nI i) 3 N' = pq_kv (N' 1) i 3 := pq_ofK (j := 3) hi (by omega)
        have O4 : ∀ N', fv_X6_ofClerk (nI i) 4 N' = pq_kv (N' 1) i 4 := pq_ofK (j := 4) hi (by omega)
        have O5 : ∀ N', fv_X6_ofClerk (nI i) 5 N' = pq_kv (N' 1) i 5 := pq_ofK (j := 5) hi (by omega)
        have Q2 : ∀ N', ok_X6_ofClerk (nI i) 2 N' := pq_ofKok (j := 2) hi (by omega)
        have Q3 : ∀ N', ok_X6_ofClerk (nI i) 3 N' := pq_ofKok (j := 3) hi (by omega)
        have Q4 : ∀ N', ok_X6_ofClerk (nI i) 4 N' := pq_ofKok (j := 4) hi (by omega)
        have Q5 : ∀ N', ok_X6_ofClerk (nI i) 5 N' := pq_ofKok (j := 5) hi (by omega)
        have U4 : ∀ (N' : ps_M) (v : Int32), pq_kv (ps_st N' 1 (165 + 6 * i + 4) v 1) i 3 = pq_kv (N' 1) i 3 := by
          intro N' v
          rw [pq_kvset (by omega), if_neg (by omega)]
        have hx2 : DX (fv_X1_endHour (d + 14 + 1 + i) M) d (ps_st (ps_st (ps_st N 1 (165 + 6 * i + 4) (pq_kv (N 1) i 4 + (if pq_kv (N 1) i 2 = -1 then 0 else 1))) 1 (165 + 6 * i + 3) (if pq_kv (N 1) i 2 = -1 then 0 else pq_kv (N 1) i 3 + 1)) 1 (165 + 6 * i + 5) (if pq_kv (N 1) i 5 = 2 then 1 else 0) 1) h a b S (fun c => if c < i + 1 then pq_K a (h + 1) 0 (c < b) else pq_K a h 1 (c < b)) := by
          refine DX_ck hx hi (fun k hk => y1 k hk) (fun j hj => by rw [pq_stne (Or.inr (by omega)), pq_stne (Or.inr (by omega)), pq_stne (Or.inr (by omega))]) (fun c hc _ f r hz => ?_) ?_
          · by_cases q : c < i
            · rw [if_pos q] at hz; rw [if_pos (by omega)]; exact hz
            · rw [if_neg q] at hz; rw [if_neg (by omega)]; exact hz
          · rw [if_pos (by omega), y2, pq_kvupd (by omega), pq_kvupd (by omega), pq_kvupd (by omega), show (i < b) = True from eq_true (by omega)]
            exact hK1
        obtain ⟨M', N', i1, i2, i3, i4, i5, i6⟩ := ih (i + 1) n1 n2 x _ _ (by omega) (by omega) (by omega) hx2
        rw [fv_X2_endHourOfClerks_2_s, ok_X2_endHourOfClerks_2_s, fv_X6_hourPasses_83_s, ok_X6_hourPasses_83_s, pq_c0, pq_c2, hx.1.2.2, hx.2.1.2.2]
        refine ⟨M', N', ?_, ?_, ?_, ?_, FR_trans ⟨fun k hk => y1 k (by omega), fun k hk => (ps_st_ne hk).trans ((ps_st_ne hk).trans (ps_st_ne hk))⟩ i5, i6⟩
        · rw [if_neg (by rw [pq_leF (by omega) (by omega)]; exact id), pq_nI (by omega), pq_nIadd1]; exact i1
        · simp only [pq_leF (show i < b by omega) (by omega), pq_nI (show i < 4000 by omega), pq_nIadd1, v1, y3, i2, if_false, false_implies, not_false_eq_true, true_implies, true_and, and_true]
        · rw [if_neg (by rw [pq_leF (by omega) (by omega)]; exact id), O2, ← i3]
          unfold fv_X6_hourPasses_108 fv_X6_hourPasses_135 fv_X6_hourPasses_158
          by_cases q : pq_kv (N 1) i 2 = -1 <;> by_cases q5 : pq_kv (N 1) i 5 = 2 <;> simp only [q, q5, pq_10, L3, L4, L5, O3, O4, O5, U4, pq_nIadd1, if_true, if_false]
        · unfold ok_X6_hourPasses_108 ok_X6_hourPasses_135 ok_X6_hourPasses_158
          by_cases q : pq_kv (N 1) i 2 = -1 <;> by_cases q5 : pq_kv (N 1) i 5 = 2 <;> simp only [q, q5, if_true, if_false] at i4 <;> simp only [q, q5, pq_10, pq_leF (show i < b by omega) (show b < 4000 by omega), w0, w2, L3, L4, L5, B3, B4, B5, O2, O3, O4, O5, Q2, Q3, Q4, Q5, U4, i4, pq_nIadd1, if_true, if_false, true_implies, false_implies, not_true_eq_false, not_false_eq_true, true_and, and_true, implies_true]
