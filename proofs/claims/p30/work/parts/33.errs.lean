/-! ===== calls that return errors change nothing ===== -/
theorem z_addClerk0 (M : ps_M) : fv_X5_addClerk 0 1 M = (-2, M) ∧ ok_X5_addClerk 0 1 M := by
  have o1 : ∀ x l m, ok_X5_isWithin x l m M := fun _ _ _ => trivial
  simp (config := {decide := true}) only [fv_X5_addClerk, ok_X5_addClerk, o1, fv_X5_isWithin, if_true, if_false, true_implies, not_true_eq_false, not_false_eq_true, false_implies, and_true, true_and, implies_true]
theorem z_addClerk1 (M : ps_M) : fv_X5_addClerk 61 1 M = (-2, M) ∧ ok_X5_addClerk 61 1 M := by
  have o1 : ∀ x l m, ok_X5_isWithin x l m M := fun _ _ _ => trivial
  simp (config := {decide := true}) only [fv_X5_addClerk, ok_X5_addClerk, o1, fv_X5_isWithin, if_true, if_false, true_implies, not_true_eq_false, not_false_eq_true, false_implies, and_true, true_and, implies_true]
theorem z_addClerk2 (M : ps_M) : fv_X5_addClerk 1 0 M = (-2, M) ∧ ok_X5_addClerk 1 0 M := by
  have o1 : ∀ x l m, ok_X5_isWithin x l m M := fun _ _ _ => trivial
  simp (config := {decide := true}) only [fv_X5_addClerk, ok_X5_addClerk, o1, fv_X5_isWithin, if_true, if_false, true_implies, not_true_eq_false, not_false_eq_true, false_implies, and_true, true_and, implies_true]
theorem z_addClerk3 (M : ps_M) : fv_X5_addClerk 1 7 M = (-2, M) ∧ ok_X5_addClerk 1 7 M := by
  have o1 : ∀ x l m, ok_X5_isWithin x l m M := fun _ _ _ => trivial
  simp (config := {decide := true}) only [fv_X5_addClerk, ok_X5_addClerk, o1, fv_X5_isWithin, if_true, if_false, true_implies, not_true_eq_false, not_false_eq_true, false_implies, and_true, true_and, implies_true]
theorem z_setArrivals {M : ps_M} {a : Nat} {x : Int32} (H1 : M 1 1 = nI a) (hx : x < 0 ∨ nI a ≤ x) (y z : Int32) : fv_X5_setArrivals x y z M = (-1, M) ∧ ok_X5_setArrivals x y z M := by
  have oh : ok_X2_hasStation 1 x M := trivial
  simp (config := {decide := true}) only [fv_X5_setArrivals, ok_X5_setArrivals, oh, a_hsn H1 hx, if_true, if_false, true_implies, not_true_eq_false, not_false_eq_true, false_implies, and_true, true_and, implies_true]
theorem z_supply {M : ps_M} {a : Nat} {x : Int32} (H1 : M 1 1 = nI a) (hx : x < 0 ∨ nI a ≤ x) (y : Int32) : fv_X5_supply x y M = (-1, M) ∧ ok_X5_supply x y M := by
  have oh : ok_X2_hasStation 1 x M := trivial
  simp (config := {decide := true}) only [fv_X5_supply, ok_X5_supply, oh, a_hsn H1 hx, if_true, if_false, true_implies, not_true_eq_false, not_false_eq_true, false_implies, and_true, true_and, implies_true]
theorem z_spoil {M : ps_M} {a : Nat} {x : Int32} (H1 : M 1 1 = nI a) (hx : x < 0 ∨ nI a ≤ x) (y : Int32) : fv_X5_spoil x y M = (-1, M) ∧ ok_X5_spoil x y M := by
  have oh : ok_X2_hasStation 1 x M := trivial
  simp (config := {decide := true}) only [fv_X5_spoil, ok_X5_spoil, oh, a_hsn H1 hx, if_true, if_false, true_implies, not_true_eq_false, not_false_eq_true, false_implies, and_true, true_and, implies_true]
theorem z_carryOff {M : ps_M} {a : Nat} {x : Int32} (H1 : M 1 1 = nI a) (hx : x < 0 ∨ nI a ≤ x) (y : Int32) : fv_X5_carryOff x y M = (-1, M) ∧ ok_X5_carryOff x y M := by
  have oh : ok_X2_hasStation 1 x M := trivial
  simp (config := {decide := true}) only [fv_X5_carryOff, ok_X5_carryOff, oh, a_hsn H1 hx, if_true, if_false, true_implies, not_true_eq_false, not_false_eq_true, false_implies, and_true, true_and, implies_true]
theorem z_find {M : ps_M} {a : Nat} {x : Int32} (H1 : M 1 1 = nI a) (hx : x < 0 ∨ nI a ≤ x) (y : Int32) : fv_X5_find x y M = (-1, M) ∧ ok_X5_find x y M := by
  have oh : ok_X2_hasStation 1 x M := trivial
  simp (config := {decide := true}) only [fv_X5_find, ok_X5_find, oh, a_hsn H1 hx, if_true, if_false, true_implies, not_true_eq_false, not_false_eq_true, false_implies, and_true, true_and, implies_true]
theorem z_countBox {M : ps_M} {a : Nat} {x : Int32} (H1 : M 1 1 = nI a) (hx : x < 0 ∨ nI a ≤ x) (y : Int32) : fv_X5_countBox x y M = (-1, M) ∧ ok_X5_countBox x y M := by
  have oh : ok_X2_hasStation 1 x M := trivial
  simp (config := {decide := true}) only [fv_X5_countBox, ok_X5_countBox, oh, a_hsn H1 hx, if_true, if_false, true_implies, not_true_eq_false, not_false_eq_true, false_implies, and_true, true_and, implies_true]
theorem z_readArrivals {M : ps_M} {a : Nat} {x : Int32} (H1 : M 1 1 = nI a) (hx : x < 0 ∨ nI a ≤ x) (y : Int32) : fv_X5_readArrivals x y M = (-1, M) ∧ ok_X5_readArrivals x y M := by
  have oh : ok_X2_hasStation 1 x M := trivial
  simp (config := {decide := true}) only [fv_X5_readArrivals, ok_X5_readArrivals, oh, a_hsn H1 hx, if_true, if_false, true_implies, not_true_eq_false, not_false_eq_true, false_implies, and_true, true_and, implies_true]
theorem z_queueIn {M : ps_M} {a : Nat} {x : Int32} (H1 : M 1 1 = nI a) (hx : x < 0 ∨ nI a ≤ x) (y : Int32) : fv_X5_queueIn x y M = (-1, M) ∧ ok_X5_queueIn x y M := by
  have oh : ok_X2_hasStation 1 x M := trivial
  simp (config := {decide := true}) only [fv_X5_queueIn, ok_X5_queueIn, oh, a_hsn H1 hx, if_true, if_false, true_implies, not_true_eq_false, not_false_eq_true, false_implies, and_true, true_and, implies_true]
theorem z_lacks {M : ps_M} {a : Nat} {x : Int32} (H1 : M 1 1 = nI a) (hx : x < 0 ∨ nI a ≤ x)  : fv_X5_lacks x M = (-1, M) ∧ ok_X5_lacks x M := by
  have oh : ok_X2_hasStation 1 x M := trivial
  simp (config := {decide := true}) only [fv_X5_lacks, ok_X5_lacks, oh, a_hsn H1 hx, if_true, if_false, true_implies, not_true_eq_false, not_false_eq_true, false_implies, and_true, true_and, implies_true]
theorem z_move1 {M : ps_M} {a : Nat} {x : Int32} (H1 : M 1 1 = nI a) (hx : x < 0 ∨ nI a ≤ x) (y z : Int32) : fv_X5_movePapers x y z M = (-1, M) ∧ ok_X5_movePapers x y z M := by
  have oh : ok_X2_hasStation 1 x M := trivial
  simp (config := {decide := true}) only [fv_X5_movePapers, ok_X5_movePapers, oh, a_hsn H1 hx, if_true, if_false, true_implies, not_true_eq_false, not_false_eq_true, false_implies, and_true, true_and, implies_true]
theorem z_hs01 (d : Nat) (x : Int32) (M : ps_M) : fv_X2_hasStation d x M = 0 ∨ fv_X2_hasStation d x M = 1 := by
  unfold fv_X2_hasStation
  by_cases q : x < 0
  · rw [if_pos q]; exact Or.inl rfl
  · rw [if_neg q]
    by_cases q2 : M d 1 ≤ x
    · rw [if_pos q2]; exact Or.inl rfl
    · rw [if_neg q2]; exact Or.inr rfl
theorem z_hc01 (d : Nat) (x : Int32) (M : ps_M) : fv_X2_hasClerk d x M = 0 ∨ fv_X2_hasClerk d x M = 1 := by
  unfold fv_X2_hasClerk
  by_cases q : x < 0
  · rw [if_pos q]; exact Or.inl rfl
  · rw [if_neg q]
    by_cases q2 : M d 2 ≤ x
    · rw [if_pos q2]; exact Or.inl rfl
    · rw [if_neg q2]; exact Or.inr rfl
theorem z_move2 {M : ps_M} {a : Nat} {x : Int32} (H1 : M 1 1 = nI a) (hx : x < 0 ∨ nI a ≤ x) (y z : Int32) : fv_X5_movePapers y x z M = (-1, M) ∧ ok_X5_movePapers y x z M := by
  have oh : ok_X2_hasStation 1 x M := trivial
  have oy : ok_X2_hasStation 1 y M := trivial
  rcases z_hs01 1 y M with q | q
  · simp (config := {decide := true}) only [fv_X5_movePapers, ok_X5_movePapers, oy, q, if_true, if_false, true_implies, not_true_eq_false, not_false_eq_true, false_implies, and_true, true_and, implies_true]
  · simp (config := {decide := true}) only [fv_X5_movePapers, ok_X5_movePapers, oh, oy, q, a_hsn H1 hx, if_true, if_false, true_implies, not_true_eq_false, not_false_eq_true, false_implies, and_true, true_and, implies_true]
theorem z_assign2 {M : ps_M} {a : Nat} {x : Int32} (H1 : M 1 1 = nI a) (hx : x < 0 ∨ nI a ≤ x) (y : Int32) : fv_X5_assign y x M = (-1, M) ∧ ok_X5_assign y x M := by
  have oh : ok_X2_hasStation 1 x M := trivial
  have oy : ok_X2_hasClerk 1 y M := trivial
  rcases z_hc01 1 y M with q | q
  · simp (config := {decide := true}) only [fv_X5_assign, ok_X5_assign, oy, q, if_true, if_false, true_implies, not_true_eq_false, not_false_eq_true, false_implies, and_true, true_and, implies_true]
  · simp (config := {decide := true}) only [fv_X5_assign, ok_X5_assign, oh, oy, q, a_hsn H1 hx, if_true, if_false, true_implies, not_true_eq_false, not_false_eq_true, false_implies, and_true, true_and, implies_true]
theorem z_assign1 {M : ps_M} {b : Nat} {x : Int32} (H2 : M 1 2 = nI b) (hx : x < 0 ∨ nI b ≤ x) (y : Int32) : fv_X5_assign x y M = (-1, M) ∧ ok_X5_assign x y M := by
  have oc : ok_X2_hasClerk 1 x M := trivial
  simp (config := {decide := true}) only [fv_X5_assign, ok_X5_assign, oc, a_hcn H2 hx, if_true, if_false, true_implies, not_true_eq_false, not_false_eq_true, false_implies, and_true, true_and, implies_true]
theorem z_relieve {M : ps_M} {b : Nat} {x : Int32} (H2 : M 1 2 = nI b) (hx : x < 0 ∨ nI b ≤ x) : fv_X5_relieve x M = (-1, M) ∧ ok_X5_relieve x M := by
  have oc : ok_X2_hasClerk 1 x M := trivial
  simp (config := {decide := true}) only [fv_X5_relieve, ok_X5_relieve, oc, a_hcn H2 hx, if_true, if_false, true_implies, not_true_eq_false, not_false_eq_true, false_implies, and_true, true_and, implies_true]
theorem z_pass0 (M : ps_M) : fv_X5_pass 0 M = (-2, M) ∧ ok_X5_pass 0 M := by
  have o1 : ∀ x l m, ok_X5_isWithin x l m M := fun _ _ _ => trivial
  simp (config := {decide := true}) only [fv_X5_pass, ok_X5_pass, o1, fv_X5_isWithin, if_true, if_false, true_implies, not_true_eq_false, not_false_eq_true, false_implies, and_true, true_and, implies_true]
theorem z_pass19 (M : ps_M) : fv_X5_pass 19 M = (-2, M) ∧ ok_X5_pass 19 M := by
  have o1 : ∀ x l m, ok_X5_isWithin x l m M := fun _ _ _ => trivial
  simp (config := {decide := true}) only [fv_X5_pass, ok_X5_pass, o1, fv_X5_isWithin, if_true, if_false, true_implies, not_true_eq_false, not_false_eq_true, false_implies, and_true, true_and, implies_true]
theorem z_passN {M : ps_M} {h t : Nat} (H0 : M 1 0 = nI h) (hh : h ≤ 18) (h1 : 1 ≤ t) (h2 : t ≤ 18) (ht : ¬ h + t ≤ 18) : fv_X5_pass (nI t) M = (-4, M) ∧ ok_X5_pass (nI t) M := by
  have ow : ok_X5_isWithin (nI t) 1 18 M := trivial
  have hw : fv_X5_isWithin (nI t) 1 18 M = 1 := a_wi (l := 1) (m := 18) M h1 h2 (by omega)
  have h18 : (nI h + nI t ≤ (18 : Int32)) = False := by rw [pq_le18 hh h2]; exact eq_false ht
  simp (config := {decide := true}) only [fv_X5_pass, ok_X5_pass, ow, hw, H0, h18, if_true, if_false, true_implies, not_true_eq_false, not_false_eq_true, false_implies, and_true, true_and, implies_true]
theorem z_queueInN {M : ps_M} {h t a s : Nat} (H0 : M 1 0 = nI h) (H1 : M 1 1 = nI a) (ha : a ≤ 6) (hs : s < a) (hh : h ≤ 18) (h2 : t ≤ 18) (ht : ¬ h + t ≤ 18) : fv_X5_queueIn (nI s) (nI t) M = (-4, M) ∧ ok_X5_queueIn (nI s) (nI t) M := by
  have oh : ok_X2_hasStation 1 (nI s) M := trivial
  have ow : ok_X5_isWithin (nI t) 0 18 M := trivial
  have hw : fv_X5_isWithin (nI t) 0 18 M = 1 := a_wi (l := 0) (m := 18) M (by omega) h2 (by omega)
  have h18 : (nI h + nI t ≤ (18 : Int32)) = False := by rw [pq_le18 hh h2]; exact eq_false ht
  simp (config := {decide := true}) only [fv_X5_queueIn, ok_X5_queueIn, oh, ow, hw, H0, a_hs H1 ha hs, h18, if_true, if_false, true_implies, not_true_eq_false, not_false_eq_true, false_implies, and_true, true_and, implies_true]
theorem z_freeN (M : ps_M) : fv_X5_free (-1) M = -2 ∧ ok_X5_free (-1) M := by
  simp (config := {decide := true}) only [fv_X5_free, ok_X5_free, if_true, if_false, true_implies, not_true_eq_false, not_false_eq_true, false_implies, and_true, true_and, implies_true]
theorem z_busyN (M : ps_M) : fv_X5_busiest (-1) M = -2 ∧ ok_X5_busiest (-1) M := by
  simp (config := {decide := true}) only [fv_X5_busiest, ok_X5_busiest, if_true, if_false, true_implies, not_true_eq_false, not_false_eq_true, false_implies, and_true, true_and, implies_true]
theorem z_set0 {M : ps_M} {a : Nat} (H1 : M 1 1 = nI a) (ha : a ≤ 6) (h0 : 0 < a) {y : Int32} (z : Int32) (hy : fv_X5_isHourToCome y M = 0) : fv_X5_setArrivals 0 y z M = (-2, M) ∧ ok_X5_setArrivals 0 y z M := by
  have h1 : fv_X2_hasStation 1 0 M = 1 := a_hs (s := 0) H1 ha h0
  have oh : ok_X2_hasStation 1 0 M := trivial
  have ow : ∀ x l m, ok_X5_isWithin x l m M := fun _ _ _ => trivial
  have op := fun x => o_pn x M
  have oc : ok_X5_isHourToCome y M := ⟨fun _ => trivial, fun _ => ⟨trivial, trivial⟩⟩
  simp (config := {decide := true}) only [fv_X5_setArrivals, ok_X5_setArrivals, oh, oc, h1, hy, if_true, if_false, true_implies, not_true_eq_false, not_false_eq_true, false_implies, and_true, true_and, implies_true]
theorem z_hourlow {M : ps_M} {h : Nat} (H0 : M 1 0 = nI h) (hh : h ≤ 18) : fv_X5_isHourToCome (nI h - 1) M = 0 := by
  unfold fv_X5_isHourToCome
  rw [H0, if_pos]
  rw [pq_lt, show (1 : Int32) = nI 1 from rfl, pk_sub_toInt (by omega) (by omega), pq_nT (by omega)]
  omega
theorem z_hour15 {M : ps_M} {h : Nat} (H0 : M 1 0 = nI h) : fv_X5_isHourToCome 15 M = 0 := by
  unfold fv_X5_isHourToCome
  rw [H0]
  by_cases q : (15 : Int32) < nI h
  · rw [if_pos q]
  · rw [if_neg q, if_pos (by unfold fv_X5_isWithin; rw [if_neg (by decide), if_pos (by decide)])]
theorem z_hour01 (y : Int32) (M : ps_M) : fv_X5_isHourToCome y M = 0 ∨ fv_X5_isHourToCome y M = 1 := by
  unfold fv_X5_isHourToCome
  by_cases q : y < M 1 0
  · rw [if_pos q]; exact Or.inl rfl
  · rw [if_neg q]
    by_cases q2 : fv_X5_isWithin y 0 14 M = 0
    · rw [if_pos q2]; exact Or.inl rfl
    · rw [if_neg q2]; exact Or.inr rfl
theorem z_set501 {M : ps_M} {a : Nat} (H1 : M 1 1 = nI a) (ha : a ≤ 6) (h0 : 0 < a) (y : Int32) : fv_X5_setArrivals 0 y 501 M = (-2, M) ∧ ok_X5_setArrivals 0 y 501 M := by
  have h1 : fv_X2_hasStation 1 0 M = 1 := a_hs (s := 0) H1 ha h0
  have oh : ok_X2_hasStation 1 0 M := trivial
  have ow : ∀ x l m, ok_X5_isWithin x l m M := fun _ _ _ => trivial
  have op := fun x => o_pn x M
  have oc : ok_X5_isHourToCome y M := ⟨fun _ => trivial, fun _ => ⟨trivial, trivial⟩⟩
  have hw : fv_X5_isWithin 501 0 500 M = 0 := by unfold fv_X5_isWithin; rw [if_neg (by decide), if_pos (by decide)]
  rcases z_hour01 y M with q | q
  · simp (config := {decide := true}) only [fv_X5_setArrivals, ok_X5_setArrivals, oh, oc, h1, q, if_true, if_false, true_implies, not_true_eq_false, not_false_eq_true, false_implies, and_true, true_and, implies_true]
  · simp (config := {decide := true}) only [fv_X5_setArrivals, ok_X5_setArrivals, oh, oc, ow, h1, q, hw, if_true, if_false, true_implies, not_true_eq_false, not_false_eq_true, false_implies, and_true, true_and, implies_true]
theorem z_pn0 (M : ps_M) : fv_X5_isPaperNumber 0 M = 0 := by unfold fv_X5_isPaperNumber fv_X5_isWithin; rw [if_pos (by decide)]
theorem z_pn10000 (M : ps_M) : fv_X5_isPaperNumber 10000 M = 0 := by unfold fv_X5_isPaperNumber fv_X5_isWithin; rw [if_neg (by decide), if_pos (by decide)]
theorem z_pn1 (M : ps_M) : fv_X5_isPaperNumber 1 M = 1 := a_pn (p := 1) M (by omega) (by omega)
theorem z0_supply0 {M : ps_M} {a : Nat} (H1 : M 1 1 = nI a) (ha : a ≤ 6) (h0 : 0 < a) : fv_X5_supply 0 0 M = (-2, M) ∧ ok_X5_supply 0 0 M := by
  have h1 : fv_X2_hasStation 1 0 M = 1 := a_hs (s := 0) H1 ha h0
  have oh : ok_X2_hasStation 1 0 M := trivial
  have ow : ∀ x l m, ok_X5_isWithin x l m M := fun _ _ _ => trivial
  have op := fun x => o_pn x M
  simp (config := {decide := true}) only [fv_X5_supply, ok_X5_supply, oh, op, h1, z_pn0, if_true, if_false, true_implies, not_true_eq_false, not_false_eq_true, false_implies, and_true, true_and, implies_true]
theorem z0_supply10000 {M : ps_M} {a : Nat} (H1 : M 1 1 = nI a) (ha : a ≤ 6) (h0 : 0 < a) : fv_X5_supply 0 10000 M = (-2, M) ∧ ok_X5_supply 0 10000 M := by
  have h1 : fv_X2_hasStation 1 0 M = 1 := a_hs (s := 0) H1 ha h0
  have oh : ok_X2_hasStation 1 0 M := trivial
  have ow : ∀ x l m, ok_X5_isWithin x l m M := fun _ _ _ => trivial
  have op := fun x => o_pn x M
  simp (config := {decide := true}) only [fv_X5_supply, ok_X5_supply, oh, op, h1, z_pn10000, if_true, if_false, true_implies, not_true_eq_false, not_false_eq_true, false_implies, and_true, true_and, implies_true]
theorem z0_spoil0 {M : ps_M} {a : Nat} (H1 : M 1 1 = nI a) (ha : a ≤ 6) (h0 : 0 < a) : fv_X5_spoil 0 0 M = (-2, M) ∧ ok_X5_spoil 0 0 M := by
  have h1 : fv_X2_hasStation 1 0 M = 1 := a_hs (s := 0) H1 ha h0
  have oh : ok_X2_hasStation 1 0 M := trivial
  have ow : ∀ x l m, ok_X5_isWithin x l m M := fun _ _ _ => trivial
  have op := fun x => o_pn x M
  simp (config := {decide := true}) only [fv_X5_spoil, ok_X5_spoil, oh, op, h1, z_pn0, if_true, if_false, true_implies, not_true_eq_false, not_false_eq_true, false_implies, and_true, true_and, implies_true]
theorem z0_carryOff0 {M : ps_M} {a : Nat} (H1 : M 1 1 = nI a) (ha : a ≤ 6) (h0 : 0 < a) : fv_X5_carryOff 0 0 M = (-2, M) ∧ ok_X5_carryOff 0 0 M := by
  have h1 : fv_X2_hasStation 1 0 M = 1 := a_hs (s := 0) H1 ha h0
  have oh : ok_X2_hasStation 1 0 M := trivial
  have ow : ∀ x l m, ok_X5_isWithin x l m M := fun _ _ _ => trivial
  have op := fun x => o_pn x M
  simp (config := {decide := true}) only [fv_X5_carryOff, ok_X5_carryOff, oh, op, h1, z_pn0, if_true, if_false, true_implies, not_true_eq_false, not_false_eq_true, false_implies, and_true, true_and, implies_true]
theorem z0_find10000 {M : ps_M} {a : Nat} (H1 : M 1 1 = nI a) (ha : a ≤ 6) (h0 : 0 < a) : fv_X5_find 0 10000 M = (-2, M) ∧ ok_X5_find 0 10000 M := by
  have h1 : fv_X2_hasStation 1 0 M = 1 := a_hs (s := 0) H1 ha h0
  have oh : ok_X2_hasStation 1 0 M := trivial
  have ow : ∀ x l m, ok_X5_isWithin x l m M := fun _ _ _ => trivial
  have op := fun x => o_pn x M
  simp (config := {decide := true}) only [fv_X5_find, ok_X5_find, oh, op, h1, z_pn10000, if_true, if_false, true_implies, not_true_eq_false, not_false_eq_true, false_implies, and_true, true_and, implies_true]
theorem z0_move {M : ps_M} {a : Nat} (H1 : M 1 1 = nI a) (ha : a ≤ 6) (h0 : 0 < a) : fv_X5_movePapers 0 0 1 M = (-2, M) ∧ ok_X5_movePapers 0 0 1 M := by
  have h1 : fv_X2_hasStation 1 0 M = 1 := a_hs (s := 0) H1 ha h0
  have oh : ok_X2_hasStation 1 0 M := trivial
  have ow : ∀ x l m, ok_X5_isWithin x l m M := fun _ _ _ => trivial
  have op := fun x => o_pn x M
  simp (config := {decide := true}) only [fv_X5_movePapers, ok_X5_movePapers, oh, op, h1, z_pn1, if_true, if_false, true_implies, not_true_eq_false, not_false_eq_true, false_implies, and_true, true_and, implies_true]
theorem z0_count {M : ps_M} {a : Nat} (H1 : M 1 1 = nI a) (ha : a ≤ 6) (h0 : 0 < a) : fv_X5_countBox 0 100000 M = (-2, M) ∧ ok_X5_countBox 0 100000 M := by
  have h1 : fv_X2_hasStation 1 0 M = 1 := a_hs (s := 0) H1 ha h0
  have oh : ok_X2_hasStation 1 0 M := trivial
  have ow : ∀ x l m, ok_X5_isWithin x l m M := fun _ _ _ => trivial
  have op := fun x => o_pn x M
  have hw : fv_X5_isWithin 100000 0 99999 M = 0 := by unfold fv_X5_isWithin; rw [if_neg (by decide), if_pos (by decide)]
  simp (config := {decide := true}) only [fv_X5_countBox, ok_X5_countBox, oh, ow, h1, hw, if_true, if_false, true_implies, not_true_eq_false, not_false_eq_true, false_implies, and_true, true_and, implies_true]
theorem z0_early {M : ps_M} {a : Nat} (H1 : M 1 1 = nI a) (ha : a ≤ 6) (h0 : 0 < a) (hh : M 1 0 < (15 : Int32)) : fv_X5_countBox 0 0 M = (-4, M) ∧ ok_X5_countBox 0 0 M := by
  have h1 : fv_X2_hasStation 1 0 M = 1 := a_hs (s := 0) H1 ha h0
  have oh : ok_X2_hasStation 1 0 M := trivial
  have ow : ∀ x l m, ok_X5_isWithin x l m M := fun _ _ _ => trivial
  have op := fun x => o_pn x M
  have hw : fv_X5_isWithin 0 0 99999 M = 1 := a_wi (x := 0) (l := 0) (m := 99999) M (by omega) (by omega) (by omega)
  have v1 : vp_in (0 : Int32) 6 := pq_vin (n := 0) (by omega) (by omega)
  simp (config := {decide := true}) only [fv_X5_countBox, ok_X5_countBox, oh, ow, h1, hw, v1, hh, if_true, if_false, true_implies, not_true_eq_false, not_false_eq_true, false_implies, and_true, true_and, implies_true]
theorem z0_arr {M : ps_M} {a : Nat} (H1 : M 1 1 = nI a) (ha : a ≤ 6) (h0 : 0 < a) : fv_X5_arrivals 0 15 M = -2 ∧ ok_X5_arrivals 0 15 M := by
  have h1 : fv_X2_hasStation 1 0 M = 1 := a_hs (s := 0) H1 ha h0
  have oh : ok_X2_hasStation 1 0 M := trivial
  have ow : ∀ x l m, ok_X5_isWithin x l m M := fun _ _ _ => trivial
  have op := fun x => o_pn x M
  have hw : fv_X5_isWithin 15 0 14 M = 0 := by unfold fv_X5_isWithin; rw [if_neg (by decide), if_pos (by decide)]
  simp (config := {decide := true}) only [fv_X5_arrivals, ok_X5_arrivals, oh, ow, h1, hw, if_true, if_false, true_implies, not_true_eq_false, not_false_eq_true, false_implies, and_true, true_and, implies_true]
theorem z0_queue {M : ps_M} {a : Nat} (H1 : M 1 1 = nI a) (ha : a ≤ 6) (h0 : 0 < a) : fv_X5_queueIn 0 19 M = (-2, M) ∧ ok_X5_queueIn 0 19 M := by
  have h1 : fv_X2_hasStation 1 0 M = 1 := a_hs (s := 0) H1 ha h0
  have oh : ok_X2_hasStation 1 0 M := trivial
  have ow : ∀ x l m, ok_X5_isWithin x l m M := fun _ _ _ => trivial
  have op := fun x => o_pn x M
  have hw : fv_X5_isWithin 19 0 18 M = 0 := by unfold fv_X5_isWithin; rw [if_neg (by decide), if_pos (by decide)]
  simp (config := {decide := true}) only [fv_X5_queueIn, ok_X5_queueIn, oh, ow, h1, hw, if_true, if_false, true_implies, not_true_eq_false, not_false_eq_true, false_implies, and_true, true_and, implies_true]
theorem z0_spoil9 {M : ps_M} {h a b : Nat} {gv : Nat → Int32} (hx : DI M 1 h a b gv) (h0 : 0 < a) : fv_X5_spoil 0 9999 M = (-4, M) ∧ ok_X5_spoil 0 9999 M := by
  have H1 := hx.1.1.2.1
  have ha := hx.1.2.2.1
  have h1 : fv_X2_hasStation 1 0 M = 1 := a_hs (s := 0) H1 ha h0
  have oh : ok_X2_hasStation 1 0 M := trivial
  have ow : ∀ x l m, ok_X5_isWithin x l m M := fun _ _ _ => trivial
  have op := fun x => o_pn x M
  have hp : fv_X5_isPaperNumber 9999 M = 1 := a_pn (p := 9999) M (by omega) (by omega)
  have v1 : vp_in (0 : Int32) 6 := pq_vin (n := 0) (by omega) (by omega)
  obtain ⟨g1, g2, g3, g4, g6, g7, ⟨g8, g9, g10, g11⟩, g12⟩ := p_S hx h0
  have q := p_q hx h0
  have hb : (M (1 + 1 + 1 + 2 * ((0 : Int32)).toNatClampNeg) 10 < (9999 : Int32)) = True := by
    apply eq_true
    rw [pq_lt, show ((9999 : Int32)).toInt = 9999 from by decide, pq_c0]
    omega
  simp (config := {decide := true}) only [fv_X5_spoil, ok_X5_spoil, oh, op, h1, hp, v1, hb, if_true, if_false, true_implies, not_true_eq_false, not_false_eq_true, false_implies, and_true, true_and, implies_true]
