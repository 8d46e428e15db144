/-! ===== an hour: the turns ===== -/
theorem sm_zero {δ : Nat → Int32} : ∀ (k c : Nat) (acc : Int32), (∀ i, c ≤ i → i < c + k → δ i = 0) → pq_sm δ k c acc = acc := by
  intro k
  induction k with
  | zero => intro c acc _; rfl
  | succ k ih =>
    intro c acc h
    show pq_sm δ k (c + 1) (acc + δ c) = acc
    rw [h c (by omega) (by omega), Int32.add_zero]
    exact ih (c + 1) acc (fun i h1 h2 => h i (by omega) (by omega))
theorem sm_ge {δ : Nat → Int32} : ∀ (k c : Nat) (acc : Int32), (∀ i, c ≤ i → i < c + k → δ i = 0 ∨ δ i = 1) → 0 ≤ acc.toInt → acc.toInt + (k : Int) ≤ 1000 → acc.toInt ≤ (pq_sm δ k c acc).toInt ∧ ((∃ i, c ≤ i ∧ i < c + k ∧ δ i = 1) → acc.toInt < (pq_sm δ k c acc).toInt) := by
  intro k
  induction k with
  | zero => intro c acc _ _ _; exact ⟨Int.le_refl _, fun ⟨i, h1, h2, _⟩ => absurd h1 (by omega)⟩
  | succ k ih =>
    intro c acc h h0 h1
    have g1 : ((1 : Int32)).toInt = 1 := by decide
    have dc := h c (by omega) (by omega)
    have es : (acc + δ c).toInt = acc.toInt + (δ c).toInt := by
      rcases dc with q | q <;> rw [q]
      · rw [Int32.add_zero, Int32.toInt_zero]; omega
      · exact pq_add (by omega) (by omega)
    have d1 : 0 ≤ (δ c).toInt ∧ (δ c).toInt ≤ 1 := by
      rcases dc with q | q <;> rw [q]
      · rw [Int32.toInt_zero]; omega
      · rw [g1]; omega
    obtain ⟨i1, i2⟩ := ih (c + 1) (acc + δ c) (fun i h1 h2 => h i (by omega) (by omega)) (by omega) (by omega)
    refine ⟨by show acc.toInt ≤ (pq_sm δ k (c + 1) (acc + δ c)).toInt; omega, fun ⟨i, e1, e2, e3⟩ => ?_⟩
    show acc.toInt < (pq_sm δ k (c + 1) (acc + δ c)).toInt
    by_cases q : i = c
    · subst q
      have d2 : (δ i).toInt = 1 := by rw [e3, g1]
      omega
    · have := i2 ⟨i, by omega, by omega, e3⟩
      omega
def Bf (N : ps_M) (m c : Nat) : Prop := (pq_kv (N 1) m 4).toInt < (pq_kv (N 1) c 4).toInt ∨ ((pq_kv (N 1) m 4).toInt = (pq_kv (N 1) c 4).toInt ∧ m < c)
/-- the first of the free: none, or m, before all others -/
def FI (N : ps_M) (b : Nat) (x : Int32) : Prop := (x = -5 ∧ ∀ i, i < b → fv_X6_isFree (nI i) N = 0) ∨ ∃ m, m < b ∧ x = nI m ∧ ¬ (fv_X6_isFree (nI m) N = 0) ∧ ∀ i, i < b → ¬ (fv_X6_isFree (nI i) N = 0) → i ≠ m → Bf N m i
theorem ah_term {N : ps_M} {m c : Nat} (hm : m < 4000) (hc : c < 4000) (hne : m ≠ c) : (Bf N m c → (if pq_kv (N 1) m 4 < pq_kv (N 1) c 4 then (1 : Int32) else if pq_kv (N 1) m 4 = pq_kv (N 1) c 4 then (if nI c ≤ nI m then 0 else 1) else 0) = 1) ∧ (Bf N c m → (if pq_kv (N 1) m 4 < pq_kv (N 1) c 4 then (1 : Int32) else if pq_kv (N 1) m 4 = pq_kv (N 1) c 4 then (if nI c ≤ nI m then 0 else 1) else 0) = 0) := by
  unfold Bf
  have l1 : (pq_kv (N 1) m 4 < pq_kv (N 1) c 4) ↔ (pq_kv (N 1) m 4).toInt < (pq_kv (N 1) c 4).toInt := pq_lt
  have l2 : (pq_kv (N 1) m 4 = pq_kv (N 1) c 4) ↔ (pq_kv (N 1) m 4).toInt = (pq_kv (N 1) c 4).toInt := pq_eq
  have l3 : (nI c ≤ nI m) ↔ c ≤ m := by rw [pq_le, pq_nT hm, pq_nT hc]; omega
  constructor
  · intro hb
    by_cases q1 : pq_kv (N 1) m 4 < pq_kv (N 1) c 4
    · rw [if_pos q1]
    · rw [if_neg q1]
      rw [l1] at q1
      rw [if_pos (l2.mpr (by omega)), if_neg (fun z => by have := l3.mp z; omega)]
  · intro hb
    by_cases q1 : pq_kv (N 1) m 4 < pq_kv (N 1) c 4
    · rw [l1] at q1; omega
    · rw [if_neg q1]
      by_cases q2 : pq_kv (N 1) m 4 = pq_kv (N 1) c 4
      · rw [if_pos q2]
        have q2 := l2.mp q2
        rw [if_pos (l3.mpr (by omega))]
      · rw [if_neg q2]
theorem fa_loop {N : ps_M} {b : Nat} {x : Int32} (H2 : N 1 2 = nI b) (hb : b ≤ 12) (hx : FI N b x) : ∀ (k c n : Nat), c + k = b → k < n → (∀ m, m < c → x ≠ nI m) → fv_X6_freeAt_2 n 0 (nI c) N = x ∧ ok_X6_freeAt_2 n 0 (nI c) N := by
  have v2 : vp_in (2 : Int32) 237 := pq_vin (n := 2) (by omega) (by omega)
  intro k
  induction k with
  | zero =>
    intro c n h1 h2 h3
    cases n with
    | zero => omega
    | succ n =>
      rw [fv_X6_freeAt_2_s, ok_X6_freeAt_2_s, pq_c2, H2]
      simp only [pq_leT (show ¬ c < b by omega) (by omega) (by omega), v2, if_true, true_implies, not_true_eq_false, false_implies, and_true]
      rcases hx with ⟨e, -⟩ | ⟨m, h4, e, -⟩
      · exact e.symm
      · exact absurd e (h3 m (by omega))
  | succ k ih =>
    intro c n h1 h2 h3
    cases n with
    | zero => omega
    | succ n =>
      obtain ⟨a1, a2⟩ := mo_ahead H2 hb (c0 := c) (by omega)
      have f3 := ok_freeM (show c < 12 by omega) N
      rw [fv_X6_freeAt_2_s, ok_X6_freeAt_2_s, pq_c2, H2]
      simp only [pq_leF (show c < b by omega) (show b < 4000 by omega), pq_nIadd1, v2, f3, a2, if_false, false_implies, true_and, not_false_eq_true, true_implies]
      by_cases q : fv_X6_isFree (nI c) N = 0
      · obtain ⟨i1, i2⟩ := ih (c + 1) n (by omega) (by omega) (fun m hm e => by
          by_cases e2 : m = c
          · subst e2
            rcases hx with ⟨e3, -⟩ | ⟨m', h4, e3, h5, -⟩
            · rw [e3] at e; exact pq_ne5 (by omega) e
            · rw [e3] at e
              have := (pq_inj (by omega) (by omega)).mp e
              subst this
              exact h5 q
          · exact h3 m (by omega) e)
        simp only [q, i1, i2, if_true, true_implies, not_true_eq_false, false_implies, and_true]
      · rcases hx with ⟨e3, h4⟩ | ⟨m, h4, e3, h5, h6⟩
        · exact absurd (h4 c (by omega)) q
        · by_cases e : c = m
          · subst e
            have az : fv_X6_aheadOf (nI c) N = 0 := by
              rw [a1]
              refine sm_zero _ _ _ (fun i g1 g2 => ?_)
              by_cases q2 : fv_X6_isFree (nI i) N = 0
              · rw [if_pos q2]
              · rw [if_neg q2]
                by_cases e : i = c
                · subst e
                  have n1 : ¬ (pq_kv (N 1) i 4 < pq_kv (N 1) i 4) := by rw [pq_lt]; omega
                  rw [if_neg n1, if_pos rfl, if_pos (by rw [pq_le]; omega)]
                · exact (ah_term (by omega) (by omega) e).2 (h6 i (by omega) q2 e)
            simp only [q, az, if_true, if_false, not_false_eq_true, true_implies, not_true_eq_false, false_implies, and_true, true_and]
            exact e3.symm
          · obtain ⟨i1, i2⟩ := ih (c + 1) n (by omega) (by omega) (fun m' hm e' => by
              by_cases e2 : m' = c
              · subst e2
                rw [e3] at e'
                have := (pq_inj (by omega) (by omega)).mp e'
                omega
              · exact h3 m' (by omega) e')
            have az : ¬ (fv_X6_aheadOf (nI c) N = 0) := by
              intro z
              have hmc : c < m := by
                rcases Nat.lt_or_ge m c with g | g
                · exact absurd e3 (h3 m g)
                · omega
              rw [a1] at z
              have := (sm_ge (δ := fun i => if fv_X6_isFree (nI i) N = 0 then 0 else if pq_kv (N 1) i 4 < pq_kv (N 1) c 4 then 1 else if pq_kv (N 1) i 4 = pq_kv (N 1) c 4 then (if nI c ≤ nI i then 0 else 1) else 0) b 0 0 (fun i _ _ => by
                split
                · exact Or.inl rfl
                · split
                  · exact Or.inr rfl
                  · split
                    · split
                      · exact Or.inl rfl
                      · exact Or.inr rfl
                    · exact Or.inl rfl) (by decide) (by rw [Int32.toInt_zero]; omega)).2 ⟨m, by omega, by omega, by
                rw [if_neg h5]
                exact (ah_term (by omega) (by omega) (by omega)).1 (h6 c (by omega) q (by omega))⟩
              rw [z] at this
              omega
            simp only [q, az, i1, i2, if_false, not_false_eq_true, true_implies, false_implies, and_true, true_and]
theorem ff_loop {M N : ps_M} {d h a b : Nat} {e : Int} {S : Nat → (Nat → Int32) → (Nat → Int32) → (Nat → Int32) → Prop} (hx : DX M d (N 1) h a b S (fun c => pq_K a h e (c < b))) : ∀ (k c n : Nat) (x : Int32), c + k = b → k < n → FI N c x → FI N b (fv_X2_firstFree_5 n d x (nI c) M) ∧ ok_X2_firstFree_5 n d x (nI c) M := by
  have ha := hx.2.2.1.2.1
  have hb := hx.2.2.1.2.2
  intro k
  induction k with
  | zero =>
    intro c n x h1 h2 h3
    cases n with
    | zero => omega
    | succ n =>
      rw [fv_X2_firstFree_5_s, ok_X2_firstFree_5_s, hx.1.2.2]
      simp only [pq_leT (show ¬ c < b by omega) (by omega) (by omega), if_true, true_implies, not_true_eq_false, false_implies, and_true]
      rw [show b = c by omega]
      exact h3
  | succ k ih =>
    intro c n x h1 h2 h3
    cases n with
    | zero => omega
    | succ n =>
      obtain ⟨hc12, kk⟩ := t_K hx (c := c) (by omega)
      have f1 := (K_free ha hc12 kk).1
      have f2 := ok_free (d + 14 + 1 + c) M
      have v1 : vp_in (nI c) 12 := pq_vin hc12 (by omega)
      rw [fv_X2_firstFree_5_s, ok_X2_firstFree_5_s, hx.1.2.2]
      simp only [pq_leF (show c < b by omega) (show b < 4000 by omega), pq_nI (show c < 4000 by omega), pq_nIadd1, v1, f1, f2, fv_X2_firstFree_40, ok_X2_firstFree_40, if_false, false_implies, true_and, not_false_eq_true, true_implies]
      by_cases q : fv_X6_isFree (nI c) N = 0
      · have h4 : FI N (c + 1) x := by
          rcases h3 with ⟨e1, e2⟩ | ⟨m, e1, e2, e3, e4⟩
          · refine Or.inl ⟨e1, fun i hi => ?_⟩
            by_cases z : i = c
            · rw [z]; exact q
            · exact e2 i (by omega)
          · refine Or.inr ⟨m, by omega, e2, e3, fun i hi hf hne => ?_⟩
            by_cases z : i = c
            · rw [z] at hf; exact absurd q hf
            · exact e4 i (by omega) hf hne
        obtain ⟨i1, i2⟩ := ih (c + 1) n x (by omega) (by omega) h4
        simp only [q, i2, if_true, true_implies, not_true_eq_false, false_implies, and_true]
        exact i1
      · have hself : (∀ i, i < c → ¬ (fv_X6_isFree (nI i) N = 0) → Bf N c i) → FI N (c + 1) (nI c) := fun hh => Or.inr ⟨c, by omega, rfl, q, fun i hi hf hne => hh i (by omega) hf⟩
        rcases h3 with ⟨e1, e2⟩ | ⟨m, e1, e2, e3, e4⟩
        · obtain ⟨i1, i2⟩ := ih (c + 1) n (nI c) (by omega) (by omega) (hself (fun i hi hf => absurd (e2 i hi) hf))
          simp only [q, e1, i2, if_true, if_false, true_implies, not_true_eq_false, not_false_eq_true, false_implies, and_true]
          exact i1
        · have tb := t_before hx (c := c) (c0 := m) (by omega) (by omega)
          have ob : ok_X2_comesBefore d (nI c) (nI m) M := ⟨v1, pq_vin (by omega) (by omega), trivial⟩
          have ne5 : (nI m = (-5 : Int32)) = False := eq_false (fun z => pq_ne5 (s := m) (by omega) z.symm)
          by_cases q2 : pq_kv (N 1) c 4 < pq_kv (N 1) m 4
          · rw [if_pos q2] at tb
            have q2 := pq_lt.mp q2
            obtain ⟨i1, i2⟩ := ih (c + 1) n (nI c) (by omega) (by omega) (hself (fun i hi hf => by
              by_cases z : i = m
              · rw [z]; exact Or.inl q2
              · rcases e4 i hi hf z with g | ⟨g, -⟩
                · exact Or.inl (by omega)
                · exact Or.inl (by omega)))
            simp only [q, e2, ne5, tb, ob, pq_10, i2, if_true, if_false, true_implies, not_true_eq_false, not_false_eq_true, false_implies, and_true, true_and]
            exact i1
          · have tz : fv_X2_comesBefore d (nI c) (nI m) M = 0 := by
              rw [tb, if_neg q2]
              have : nI m ≤ nI c := by rw [pq_le, pq_nT (by omega), pq_nT (by omega)]; omega
              rw [if_pos this]
              split <;> rfl
            have q2 : ¬ ((pq_kv (N 1) c 4).toInt < (pq_kv (N 1) m 4).toInt) := fun z => q2 (pq_lt.mpr z)
            obtain ⟨i1, i2⟩ := ih (c + 1) n (nI m) (by omega) (by omega) (Or.inr ⟨m, by omega, rfl, e3, fun i hi hf hne => by
              by_cases z : i = c
              · rw [z]
                unfold Bf
                omega
              · exact e4 i (by omega) hf hne⟩)
            simp only [q, e2, ne5, tz, ob, i2, if_true, if_false, true_implies, not_true_eq_false, not_false_eq_true, false_implies, and_true, true_and]
            exact i1
theorem t_first {M N : ps_M} {d h a b : Nat} {e : Int} {S : Nat → (Nat → Int32) → (Nat → Int32) → (Nat → Int32) → Prop} (hx : DX M d (N 1) h a b S (fun c => pq_K a h e (c < b))) : fv_X6_freeAt 0 N = fv_X2_firstFree d M ∧ ok_X2_firstFree d M ∧ ok_X6_freeAt 0 N ∧ (fv_X2_firstFree d M = -5 ∨ ∃ m, m < b ∧ fv_X2_firstFree d M = nI m) := by
  have hb := hx.2.2.1.2.2
  obtain ⟨h1, h2⟩ := ff_loop hx b 0 ps_FU (-5) (by omega) (pq_fu (by omega)) (Or.inl ⟨rfl, fun i hi => absurd hi (by omega)⟩)
  obtain ⟨h3, h4⟩ := fa_loop hx.2.1.2.2 hb h1 b 0 ps_FU (by omega) (pq_fu (by omega)) (fun m hm => absurd hm (by omega))
  refine ⟨h3, h2, h4, ?_⟩
  rcases h1 with ⟨e1, -⟩ | ⟨m, e1, e2, -⟩
  · exact Or.inl e1
  · exact Or.inr ⟨m, e1, e2⟩
