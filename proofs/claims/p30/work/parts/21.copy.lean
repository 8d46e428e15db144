/-! ===== copies of days, the history (from whole) ===== -/
/-! ===== copying ===== -/
theorem cp_st {M : ps_M} {k0 k1 : Nat} (h : k1 ≠ k0) (h1 : k1 ≠ k0 + 1) (h2 : k1 + 1 ≠ k0) : (∀ k, k ≠ k0 → k ≠ k0 + 1 → fv_X4_copyFrom k0 k1 M k = M k) ∧ (∀ j, 1 ≤ j → j ≤ 12 → fv_X4_copyFrom k0 k1 M k0 j = M k1 j) ∧ (∀ t, t < 15 → fv_X4_copyFrom k0 k1 M (k0 + 1) t = M (k1 + 1) t) ∧ ok_X4_copyFrom k0 k1 M := by
  refine ⟨fun k g1 g2 => ?_, fun j g1 g2 => ?_, fun t ht => ?_, ?_⟩
  · unfold fv_X4_copyFrom fv_X4_copyFrom_23 fv_X4_copyFrom_47 fv_X4_copyFrom_71 fv_X4_copyFrom_95
    simp only [ps_st_ne g1, ps_cpy_ne g2]
  · unfold fv_X4_copyFrom fv_X4_copyFrom_23 fv_X4_copyFrom_47 fv_X4_copyFrom_71 fv_X4_copyFrom_95
    simp only [ps_st_ne h, ps_cpy_ne h1]
    have hj : j = 1 ∨ j = 2 ∨ j = 3 ∨ j = 4 ∨ j = 5 ∨ j = 6 ∨ j = 7 ∨ j = 8 ∨ j = 9 ∨ j = 10 ∨ j = 11 ∨ j = 12 := by omega
    rcases hj with rfl | rfl | rfl | rfl | rfl | rfl | rfl | rfl | rfl | rfl | rfl | rfl <;> simp [ps_st]
  · unfold fv_X4_copyFrom fv_X4_copyFrom_23 fv_X4_copyFrom_47 fv_X4_copyFrom_71 fv_X4_copyFrom_95
    have e : k0 + 1 ≠ k0 := by omega
    simp only [ps_st_ne e, ps_cpy_self]
    rw [pk_cpy_in (by show 0 ≤ t; omega) (by show t < 0 + 15; omega), pq_c0, Nat.zero_add, Nat.sub_zero]
  · unfold ok_X4_copyFrom ok_X4_copyFrom_23 ok_X4_copyFrom_47 ok_X4_copyFrom_71 ok_X4_copyFrom_95
    exact ⟨by decide, by decide, by decide, by decide, by decide, trivial⟩
theorem cp_ck {M : ps_M} {k0 k1 : Nat} (h : k1 ≠ k0) : (∀ k, k ≠ k0 → fv_X1_copyFrom k0 k1 M k = M k) ∧ (∀ j, j < 6 → fv_X1_copyFrom k0 k1 M k0 j = M k1 j) ∧ ok_X1_copyFrom k0 k1 M := by
  refine ⟨fun k g1 => ?_, fun j g1 => ?_, trivial⟩
  · unfold fv_X1_copyFrom fv_X1_copyFrom_24
    simp only [ps_st_ne g1]
  · unfold fv_X1_copyFrom fv_X1_copyFrom_24
    simp only [ps_st_ne h]
    have hj : j = 0 ∨ j = 1 ∨ j = 2 ∨ j = 3 ∨ j = 4 ∨ j = 5 := by omega
    rcases hj with rfl | rfl | rfl | rfl | rfl | rfl <;> simp [ps_st]
/-- of the day at e, in the memory M, s stations and c clerks stand copied at d in Mx, and nothing else has changed -/
def CP (M Mx : ps_M) (d e s c : Nat) : Prop :=
  (∀ k, (k < d ∨ d + 27 ≤ k) → Mx k = M k) ∧ (∀ j, j < 3 → Mx d j = M e j) ∧
  (∀ s', s' < s → (∀ j, 1 ≤ j → j ≤ 12 → Mx (d + 1 + 1 + 2 * s') j = M (e + 1 + 1 + 2 * s') j) ∧ (∀ t, t < 15 → Mx (d + 1 + 1 + 2 * s' + 1) t = M (e + 1 + 1 + 2 * s' + 1) t)) ∧
  (∀ c', c' < c → ∀ j, j < 6 → Mx (d + 14 + 1 + c') j = M (e + 14 + 1 + c') j)
theorem cp_loopK {M : ps_M} {d e : Nat} (hde : d + 27 ≤ e ∨ e + 27 ≤ d) : ∀ (k c n : Nat) (Mx : ps_M), c + k = 12 → k < n → CP M Mx d e 6 c → CP M (fv_X2_copyFrom_55 n d e (nI c) Mx) d e 6 12 ∧ ok_X2_copyFrom_55 n d e (nI c) Mx := by
  intro k
  induction k with
  | zero =>
    intro c n Mx h1 h2 h3
    cases n with
    | zero => omega
    | succ n =>
      rw [fv_X2_copyFrom_55_s, ok_X2_copyFrom_55_s, show c = 12 by omega, show (12 : Int32) = nI 12 from rfl]
      simp only [pq_leT (show ¬ 12 < 12 by omega) (by omega) (by omega), if_true, true_implies, not_true_eq_false, false_implies, and_true]
      rw [show c = 12 by omega] at h3
      exact h3
  | succ k ih =>
    intro c n Mx h1 h2 h3
    cases n with
    | zero => omega
    | succ n =>
      have v1 : vp_in (nI c) 12 := pq_vin (by omega) (by omega)
      obtain ⟨g1, g2, g3⟩ := cp_ck (M := Mx) (k0 := d + 14 + 1 + c) (k1 := e + 14 + 1 + c) (by omega)
      obtain ⟨q1, q2, q3, q4⟩ := h3
      have key : CP M (fv_X1_copyFrom (d + 14 + 1 + c) (e + 14 + 1 + c) Mx) d e 6 (c + 1) := by
        refine ⟨fun k hk => ?_, fun j hj => ?_, fun s hs => ⟨fun j j1 j2 => ?_, fun t ht => ?_⟩, fun c' hc j hj => ?_⟩
        · rw [g1 k (by omega)]; exact q1 k hk
        · rw [g1 d (by omega)]; exact q2 j hj
        · rw [g1 _ (by omega)]; exact (q3 s hs).1 j j1 j2
        · rw [g1 _ (by omega)]; exact (q3 s hs).2 t ht
        · by_cases e1 : c' = c
          · subst e1
            rw [g2 j hj, q1 _ (by omega)]
          · rw [g1 _ (by omega)]; exact q4 c' (by omega) j hj
      obtain ⟨i1, i2⟩ := ih (c + 1) n _ (by omega) (by omega) key
      rw [fv_X2_copyFrom_55_s, ok_X2_copyFrom_55_s, show (12 : Int32) = nI 12 from rfl]
      simp only [pq_leF (show c < 12 by omega) (by omega), pq_nI (show c < 4000 by omega), pq_nIadd1, v1, g3, if_false, false_implies, true_and, not_false_eq_true, true_implies]
      exact ⟨i1, i2⟩
theorem cp_loopS {M : ps_M} {d e : Nat} (hde : d + 27 ≤ e ∨ e + 27 ≤ d) : ∀ (k s n : Nat) (Mx : ps_M), s + k = 6 → k < n → CP M Mx d e s 0 → CP M (fv_X2_copyFrom_26 n d e (nI s) Mx) d e 6 12 ∧ ok_X2_copyFrom_26 n d e (nI s) Mx := by
  intro k
  induction k with
  | zero =>
    intro s n Mx h1 h2 h3
    cases n with
    | zero => omega
    | succ n =>
      rw [fv_X2_copyFrom_26_s, ok_X2_copyFrom_26_s, show s = 6 by omega, show (6 : Int32) = nI 6 from rfl]
      simp only [pq_leT (show ¬ 6 < 6 by omega) (by omega) (by omega), if_true, true_implies, not_true_eq_false, false_implies, and_true]
      rw [show s = 6 by omega] at h3
      exact cp_loopK hde 12 0 ps_FU Mx (by omega) (pq_fu (by omega)) h3
  | succ k ih =>
    intro s n Mx h1 h2 h3
    cases n with
    | zero => omega
    | succ n =>
      have v1 : vp_in (nI s) 6 := pq_vin (by omega) (by omega)
      obtain ⟨g1, g2, g3, g4⟩ := cp_st (M := Mx) (k0 := d + 1 + 1 + 2 * s) (k1 := e + 1 + 1 + 2 * s) (by omega) (by omega) (by omega)
      obtain ⟨q1, q2, q3, q4⟩ := h3
      have key : CP M (fv_X4_copyFrom (d + 1 + 1 + 2 * s) (e + 1 + 1 + 2 * s) Mx) d e (s + 1) 0 := by
        refine ⟨fun k hk => ?_, fun j hj => ?_, fun s' hs => ⟨fun j j1 j2 => ?_, fun t ht => ?_⟩, fun c' hc j hj => absurd hc (by omega)⟩
        · rw [g1 k (by omega) (by omega)]; exact q1 k hk
        · rw [g1 d (by omega) (by omega)]; exact q2 j hj
        · by_cases e1 : s' = s
          · subst e1
            rw [g2 j j1 j2, q1 _ (by omega)]
          · rw [g1 _ (by omega) (by omega)]; exact (q3 s' (by omega)).1 j j1 j2
        · by_cases e1 : s' = s
          · subst e1
            rw [g3 t ht, q1 _ (by omega)]
          · rw [g1 _ (by omega) (by omega)]; exact (q3 s' (by omega)).2 t ht
      obtain ⟨i1, i2⟩ := ih (s + 1) n _ (by omega) (by omega) key
      rw [fv_X2_copyFrom_26_s, ok_X2_copyFrom_26_s, show (6 : Int32) = nI 6 from rfl]
      simp only [pq_leF (show s < 6 by omega) (by omega), pq_nI (show s < 4000 by omega), pq_nIadd1, v1, g4, if_false, false_implies, true_and, not_false_eq_true, true_implies]
      exact ⟨i1, i2⟩
/-- a day is copied -/
theorem cp_day {M : ps_M} {d e : Nat} (hde : d + 27 ≤ e ∨ e + 27 ≤ d) : CP M (fv_X2_copyFrom d e M) d e 6 12 ∧ ok_X2_copyFrom d e M := by
  unfold fv_X2_copyFrom ok_X2_copyFrom fv_X2_copyFrom_24 ok_X2_copyFrom_24
  have hne : e ≠ d := by omega
  refine cp_loopS hde 6 0 ps_FU _ (by omega) (pq_fu (by omega)) ⟨fun k hk => ?_, fun j hj => ?_, fun s hs => absurd hs (by omega), fun c hc => absurd hc (by omega)⟩
  · have : k ≠ d := by omega
    simp only [ps_st_ne this]
  · simp only [ps_st_ne hne]
    have hj : j = 0 ∨ j = 1 ∨ j = 2 := by omega
    rcases hj with rfl | rfl | rfl <;> simp [ps_st]
/-! ===== the history ===== -/
def HP (p : Nat → Nat) : Prop := (∀ i, i < 4 → p i = 86 ∨ p i = 113 ∨ p i = 140 ∨ p i = 167) ∧ ∀ i j, i < 4 → j < 4 → p i = p j → i = j
theorem HP_kd {p : Nat → Nat} (h : HP p) {i : Nat} (hi : i < 4) : ps_kd (p i) = 2 := by
  rcases h.1 i hi with e | e | e | e <;> rw [e] <;> decide
def pq_rot (p : Nat → Nat) : Nat → Nat := fun i => if i < 3 then p (i + 1) else p 0
theorem HP_rot {p : Nat → Nat} (h : HP p) : HP (pq_rot p) := by
  refine ⟨fun i hi => ?_, fun i j hi hj e => ?_⟩
  · unfold pq_rot
    by_cases q : i < 3
    · rw [if_pos q]; exact h.1 _ (by omega)
    · rw [if_neg q]; exact h.1 _ (by omega)
  · unfold pq_rot at e
    by_cases q : i < 3 <;> by_cases q2 : j < 3
    · rw [if_pos q, if_pos q2] at e
      have := h.2 _ _ (by omega) (by omega) e; omega
    · rw [if_pos q, if_neg q2] at e
      have := h.2 _ _ (by omega) (by omega) e; omega
    · rw [if_neg q, if_pos q2] at e
      have := h.2 _ _ (by omega) (by omega) e; omega
    · omega
theorem pq_sub1 (n : Nat) : nI (n + 1) - (1 : Int32) = nI n := nI_pred n
theorem hs_droploop {M : ps_M} {p : Nat → Nat} (hp : HP p) (hM : ∀ i, i < 4 → M 85 i = nI (p i)) : ∀ (k x n : Nat) (Mx : ps_M), x + 1 + k = 4 → k < n → (∀ i, i ≠ 85 → Mx i = M i) → (∀ j, j < 4 → Mx 85 j = if j < x then nI (p (j + 1)) else nI (p j)) → (∀ i, i ≠ 85 → i ≠ 84 → fv_X3_dropOldest_9 n (p 0) (nI (x + 1)) Mx i = M i) ∧ (∀ j, j < 4 → fv_X3_dropOldest_9 n (p 0) (nI (x + 1)) Mx 85 j = nI (pq_rot p j)) ∧ fv_X3_dropOldest_9 n (p 0) (nI (x + 1)) Mx 84 1 = nI 3 ∧ ok_X3_dropOldest_9 n (p 0) (nI (x + 1)) Mx := by
  intro k
  induction k with
  | zero =>
    intro x n Mx h1 h2 h3 h4
    cases n with
    | zero => omega
    | succ n =>
      rw [fv_X3_dropOldest_9_s, ok_X3_dropOldest_9_s, show x = 3 by omega, show (4 : Int32) = nI 4 from rfl, show (3 : Int32).toNatClampNeg = 3 from rfl]
      have v1 : vp_in (3 : Int32) 4 := pq_vin (n := 3) (by omega) (by omega)
      simp only [pq_leT (show ¬ 3 + 1 < 4 by omega) (by omega) (by omega), v1, if_true, true_implies, not_true_eq_false, false_implies, and_true]
      refine ⟨fun i g1 g2 => by rw [ps_st_ne g2, ps_st_ne g1]; exact h3 i g1, fun j hj => ?_, pq_stself⟩
      rw [ps_st_ne (by omega), ps_st_self]
      unfold upd pq_rot
      by_cases e : j = 3
      · rw [if_pos e, if_neg (by omega)]
      · rw [if_neg e, h4 j hj, if_pos (by omega), if_pos (by omega)]
  | succ k ih =>
    intro x n Mx h1 h2 h3 h4
    cases n with
    | zero => omega
    | succ n =>
      have v1 : vp_in (nI (x + 1)) 4 := pq_vin (by omega) (by omega)
      have v2 : vp_in (nI x) 4 := pq_vin (by omega) (by omega)
      have hlt : p (x + 1) < 4000 := by rcases hp.1 (x + 1) (by omega) with e | e | e | e <;> omega
      have e1 : Mx 85 (x + 1) = nI (p (x + 1)) := by rw [h4 _ (by omega), if_neg (by omega)]
      have kd := HP_kd hp (i := x + 1) (by omega)
      obtain ⟨i1, i2, i3, i4⟩ := ih (x + 1) n (ps_st Mx 85 x (nI (p (x + 1)))) (by omega) (by omega) (fun i hi => by rw [ps_st_ne hi]; exact h3 i hi) (fun j hj => by
        rw [ps_st_self]
        unfold upd
        by_cases e : j = x
        · rw [if_pos e, if_pos (by omega), e]
        · rw [if_neg e, h4 j hj]
          by_cases e2 : j < x
          · rw [if_pos e2, if_pos (by omega)]
          · rw [if_neg e2, if_neg (by omega)])
      rw [fv_X3_dropOldest_9_s, ok_X3_dropOldest_9_s, show (4 : Int32) = nI 4 from rfl]
      simp only [pq_leF (show x + 1 < 4 by omega) (by omega), pq_sub1, pq_nI (show x < 4000 by omega), pq_nI (show x + 1 < 4000 by omega), pq_nIadd1, v1, v2, e1, pq_nI hlt, kd, if_false, false_implies, true_and, not_false_eq_true, true_implies]
      exact ⟨i1, i2, i3, i4⟩
theorem hs_drop {M : ps_M} {p : Nat → Nat} (hp : HP p) (hM : ∀ i, i < 4 → M 85 i = nI (p i)) : (∀ i, i ≠ 85 → i ≠ 84 → fv_X3_dropOldest M i = M i) ∧ (∀ j, j < 4 → fv_X3_dropOldest M 85 j = nI (pq_rot p j)) ∧ fv_X3_dropOldest M 84 1 = nI 3 ∧ ok_X3_dropOldest M := by
  have hlt : p 0 < 4000 := by rcases hp.1 0 (by omega) with e | e | e | e <;> omega
  have v1 : vp_in (0 : Int32) 4 := pq_vin (n := 0) (by omega) (by omega)
  obtain ⟨i1, i2, i3, i4⟩ := hs_droploop hp hM 3 0 ps_FU M (by omega) (pq_fu (by omega)) (fun _ _ => rfl) (fun j hj => by rw [if_neg (by omega)]; exact hM j hj)
  unfold fv_X3_dropOldest ok_X3_dropOldest
  rw [pq_c0, hM 0 (by omega), pq_nI hlt]
  exact ⟨i1, i2, i3, v1, HP_kd hp (by omega), i4⟩
/-! ===== two days that are the same: the day at d in M, the day at e in N ===== -/
def EQ (M : ps_M) (d : Nat) (N : ps_M) (e : Nat) : Prop :=
  (∀ j, j < 3 → M d j = N e j) ∧
  (∀ s, s < 6 → (∀ j, 1 ≤ j → j ≤ 12 → M (d + 1 + 1 + 2 * s) j = N (e + 1 + 1 + 2 * s) j) ∧ (∀ t, t < 15 → M (d + 1 + 1 + 2 * s + 1) t = N (e + 1 + 1 + 2 * s + 1) t)) ∧
  (∀ c, c < 12 → ∀ j, j < 6 → M (d + 14 + 1 + c) j = N (e + 14 + 1 + c) j)
theorem EQ.rfl {M : ps_M} {d : Nat} : EQ M d M d := ⟨fun _ _ => Eq.refl _, fun _ _ => ⟨fun _ _ _ => Eq.refl _, fun _ _ => Eq.refl _⟩, fun _ _ _ _ => Eq.refl _⟩
theorem EQ.symm {M N : ps_M} {d e : Nat} (h : EQ M d N e) : EQ N e M d := ⟨fun j hj => (h.1 j hj).symm, fun s hs => ⟨fun j h1 h2 => ((h.2.1 s hs).1 j h1 h2).symm, fun t ht => ((h.2.1 s hs).2 t ht).symm⟩, fun c hc j hj => (h.2.2 c hc j hj).symm⟩
theorem EQ.trans {M N P : ps_M} {d e g : Nat} (h : EQ M d N e) (k : EQ N e P g) : EQ M d P g := ⟨fun j hj => (h.1 j hj).trans (k.1 j hj), fun s hs => ⟨fun j h1 h2 => ((h.2.1 s hs).1 j h1 h2).trans ((k.2.1 s hs).1 j h1 h2), fun t ht => ((h.2.1 s hs).2 t ht).trans ((k.2.1 s hs).2 t ht)⟩, fun c hc j hj => (h.2.2 c hc j hj).trans (k.2.2 c hc j hj)⟩
/-- other cells may change -/
theorem EQ_frame {M M' : ps_M} {d : Nat} (h : ∀ k, d ≤ k → k < d + 27 → M' k = M k) : EQ M' d M d :=
  ⟨fun j _ => by rw [h d (by omega) (by omega)], fun s _ => ⟨fun j _ _ => by rw [h _ (by omega) (by omega)], fun t _ => by rw [h _ (by omega) (by omega)]⟩, fun c _ j _ => by rw [h _ (by omega) (by omega)]⟩
theorem CP_EQ {M Mx : ps_M} {d e : Nat} (h : CP M Mx d e 6 12) : EQ Mx d M e := ⟨h.2.1, h.2.2.1, h.2.2.2⟩
/-- the class records the day at 1 -/
theorem hr_rem12 {M : ps_M} {p : Nat → Nat} {n : Nat} (hp : HP p) (hM : ∀ i, i < 4 → M 85 i = nI (p i)) (hn : M 84 1 = nI n) (h4 : n < 4) : (∀ i, i ≠ 84 → (i < p n ∨ p n + 27 ≤ i) → fv_X3_remember_12 1 M i = M i) ∧ fv_X3_remember_12 1 M 84 1 = nI (n + 1) ∧ EQ (fv_X3_remember_12 1 M) (p n) M 1 ∧ ok_X3_remember_12 1 M := by
  have hlt : 86 ≤ p n ∧ p n ≤ 167 := by rcases hp.1 n h4 with e | e | e | e <;> omega
  obtain ⟨cp, ok⟩ := cp_day (M := M) (d := p n) (e := 1) (by omega)
  have q1 := cp.1
  unfold fv_X3_remember_12 ok_X3_remember_12
  rw [hn, pq_nI (show n < 4000 by omega), hM n h4, pq_nI (show p n < 4000 by omega)]
  have e84 : fv_X2_copyFrom (p n) 1 M 84 = M 84 := q1 84 (by omega)
  refine ⟨fun i g1 g2 => by rw [ps_st_ne g1]; exact q1 i g2, ?_, (EQ_frame (fun k k1 k2 => ps_st_ne (by omega))).trans (CP_EQ cp), pq_vin h4 (by omega), HP_kd hp h4, ok, trivial⟩
  rw [pq_stself, e84, hn, pq_nIadd1]
theorem hr_remember {M : ps_M} {p : Nat → Nat} {n : Nat} (hp : HP p) (hM : ∀ i, i < 4 → M 85 i = nI (p i)) (hn : M 84 1 = nI n) (h4 : n ≤ 4) : ∃ (p' : Nat → Nat) (n' : Nat), HP p' ∧ n' < 4 ∧ (n < 4 → n' = n ∧ p' = p) ∧ (n = 4 → n' = 3 ∧ p' = pq_rot p) ∧ (∀ i, i ≠ 84 → i ≠ 85 → (i < p' n' ∨ p' n' + 27 ≤ i) → fv_X3_remember 1 M i = M i) ∧ fv_X3_remember 1 M 84 1 = nI (n' + 1) ∧ (∀ i, i < 4 → fv_X3_remember 1 M 85 i = nI (p' i)) ∧ EQ (fv_X3_remember 1 M) (p' n') M 1 ∧ ok_X3_remember 1 M := by
  unfold fv_X3_remember ok_X3_remember
  rw [hn, show (4 : Int32) = nI 4 from rfl]
  by_cases e : n < 4
  · have hlt : 86 ≤ p n ∧ p n ≤ 167 := by rcases hp.1 n e with e | e | e | e <;> omega
    have c : nI n < nI 4 := nI_lt e (by omega)
    obtain ⟨g1, g2, g3, g4⟩ := hr_rem12 hp hM hn e
    refine ⟨p, n, hp, e, fun _ => ⟨rfl, rfl⟩, fun q => absurd q (by omega), ?_, ?_, ?_, ?_, ?_⟩
    · rw [if_pos c]; exact fun i i1 _ i3 => g1 i i1 i3
    · rw [if_pos c]; exact g2
    · rw [if_pos c]; exact fun i hi => by rw [g1 85 (by omega) (by omega)]; exact hM i hi
    · rw [if_pos c]; exact g3
    · exact ⟨fun _ => g4, fun q => absurd c q⟩
  · have e4 : n = 4 := by omega
    subst e4
    have c : ¬ nI 4 < nI 4 := nI_nlt (by omega) (by omega)
    obtain ⟨d1, d2, d3, d4⟩ := hs_drop hp hM
    have hpr := HP_rot hp
    have hlt : 86 ≤ pq_rot p 3 ∧ pq_rot p 3 ≤ 167 := by rcases hpr.1 3 (by omega) with e | e | e | e <;> omega
    obtain ⟨g1, g2, g3, g4⟩ := hr_rem12 hpr d2 d3 (by omega)
    refine ⟨pq_rot p, 3, hpr, by omega, fun q => absurd q (by omega), fun _ => ⟨rfl, rfl⟩, ?_, ?_, ?_, ?_, ?_⟩
    · rw [if_neg c]; exact fun i i1 i2 i3 => by rw [g1 i i1 i3]; exact d1 i i2 i1
    · rw [if_neg c]; exact g2
    · rw [if_neg c]; exact fun i hi => by rw [g1 85 (by omega) (by omega)]; exact d2 i hi
    · rw [if_neg c]; exact g3.trans (EQ_frame (fun k k1 k2 => d1 k (by omega) (by omega)))
    · exact ⟨fun q => absurd q c, fun _ => ⟨d4, g4⟩⟩
/-! ===== the state behind the day: n days recorded (H i: the memory whose day at 1 was recorded), the snapshot (S: the memory whose day at 1 was kept) ===== -/
def HI (M : ps_M) (n : Nat) (H : Nat → ps_M) : Prop := n ≤ 4 ∧ ∃ p : Nat → Nat, HP p ∧ M 84 1 = nI n ∧ (∀ i, i < 4 → M 85 i = nI (p i)) ∧ ∀ i, i < n → EQ M (p i) (H i) 1
def SNP (M : ps_M) (k : Prop) (S : ps_M) : Prop := (k → M 0 3 = 1 ∧ EQ M 55 S 1) ∧ (¬ k → M 0 3 = 0)
def ST (M : ps_M) (n : Nat) (H : Nat → ps_M) (k : Prop) (S : ps_M) : Prop := HI M n H ∧ SNP M k S
/-- the cells behind the day change nowhere: the object, the snapshot, the history -/
theorem ST_frame {M M' : ps_M} {n : Nat} {H : Nat → ps_M} {k : Prop} {S : ps_M} (h : ST M n H k S) (hf : ∀ i, (i = 0 ∨ 55 ≤ i) → i ≠ 82 → i < 194 → M' i = M i) : ST M' n H k S := by
  obtain ⟨⟨h1, p, h2, h3, h4, h5⟩, g1, g2⟩ := h
  refine ⟨⟨h1, p, h2, by rw [hf 84 (by omega) (by omega) (by omega)]; exact h3, fun i hi => by rw [hf 85 (by omega) (by omega) (by omega)]; exact h4 i hi, fun i hi => ?_⟩, fun q => ?_, fun q => by rw [hf 0 (by omega) (by omega) (by omega)]; exact g2 q⟩
  · have hb : 86 ≤ p i ∧ p i ≤ 167 := by rcases h2.1 i (by omega) with e | e | e | e <;> omega
    exact (EQ_frame (fun k k1 k2 => hf k (by omega) (by omega) (by omega))).trans (h5 i hi)
  · exact ⟨by rw [hf 0 (by omega) (by omega) (by omega)]; exact (g1 q).1, (EQ_frame (fun k k1 k2 => hf k (by omega) (by omega) (by omega))).trans (g1 q).2⟩
/-- the history behind a new record -/
def h_push (n : Nat) (H : Nat → ps_M) (M : ps_M) : Nat → ps_M := fun i => if n < 4 then (if i = n then M else H i) else (if i = 3 then M else H (i + 1))
def h_len (n : Nat) : Nat := if n < 4 then n + 1 else 4
theorem ST_rem {M : ps_M} {n : Nat} {H : Nat → ps_M} {k : Prop} {S : ps_M} (h : ST M n H k S) : ST (fv_X3_remember 1 M) (h_len n) (h_push n H M) k S ∧ (∀ i, (i < 82 ∨ 194 ≤ i) → fv_X3_remember 1 M i = M i) ∧ ok_X3_remember 1 M := by
  obtain ⟨⟨h1, p, h2, h3, h4, h5⟩, g1, g2⟩ := h
  obtain ⟨p', n', a1, a2, a3, a4, a5, a6, a7, a8, a9⟩ := hr_remember h2 h4 h3 h1
  have hb : ∀ i, i < 4 → 86 ≤ p' i ∧ p' i ≤ 167 := fun i hi => by rcases a1.1 i hi with e | e | e | e <;> omega
  have hb2 := hb n' a2
  have el : h_len n = n' + 1 := by
    unfold h_len
    by_cases q : n < 4
    · rw [if_pos q, (a3 q).1]
    · rw [if_neg q, (a4 (by omega)).1]
  refine ⟨⟨⟨by omega, p', a1, by rw [el]; exact a6, a7, fun i hi => ?_⟩, fun q => ⟨by rw [a5 0 (by omega) (by omega) (by omega)]; exact (g1 q).1, (EQ_frame (fun k k1 k2 => a5 k (by omega) (by omega) (by omega))).trans (g1 q).2⟩, fun q => by rw [a5 0 (by omega) (by omega) (by omega)]; exact g2 q⟩, fun i hi => a5 i (by omega) (by omega) (by omega), a9⟩
  rw [el] at hi
  unfold h_push
  by_cases e : i = n'
  · subst e
    by_cases q : n < 4
    · rw [if_pos q, if_pos (a3 q).1]; exact a8
    · rw [if_neg q, if_pos (a4 (by omega)).1]; exact a8
  · have hne : p' i ≠ p' n' := fun q => e (a1.2 i n' (by omega) a2 q)
    have hbi := hb i (by omega)
    have hv1 := a1.1 i (by omega)
    have hv2 := a1.1 n' a2
    have hfr : ∀ k, p' i ≤ k → k < p' i + 27 → fv_X3_remember 1 M k = M k := fun k k1 k2 => a5 k (by omega) (by omega) (by omega)
    by_cases q : n < 4
    · obtain ⟨e1, e2⟩ := a3 q
      rw [if_pos q, if_neg (by omega)]
      have hd := h5 i (by omega)
      rw [← e2] at hd
      exact (EQ_frame hfr).trans hd
    · obtain ⟨e1, e2⟩ := a4 (by omega)
      rw [if_neg q, if_neg (by omega)]
      have ep : p' i = p (i + 1) := by rw [e2]; unfold pq_rot; rw [if_pos (by omega)]
      have hd := h5 (i + 1) (by omega)
      rw [← ep] at hd
      exact (EQ_frame hfr).trans hd
