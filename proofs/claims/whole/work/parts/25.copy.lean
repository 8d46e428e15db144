/-! ===== copying ===== -/
theorem cp_st {M : ps_M} {k0 k1 : Nat} (h : k1 ≠ k0) (h1 : k1 ≠ k0 + 1) (h2 : k1 + 1 ≠ k0) : (∀ k, k ≠ k0 → k ≠ k0 + 1 → fv_X4_copyFrom k0 k1 M k = M k) ∧ (∀ j, 1 ≤ j → j ≤ 12 → fv_X4_copyFrom k0 k1 M k0 j = M k1 j) ∧ (∀ t, t < 15 → fv_X4_copyFrom k0 k1 M (k0 + 1) t = M (k1 + 1) t) ∧ ok_X4_copyFrom k0 k1 M := by
  refine ⟨fun k g1 g2 => ?_, fun j g1 g2 => ?_, fun t ht => ?_, ?_⟩
  · unfold fv_X4_copyFrom fv_X4_copyFrom_23 fv_X4_copyFrom_47 fv_X4_copyFrom_71 fv_X4_copyFrom_95
    simp only [ps_st_ne g1, ps_cpy_ne g2]
  · unfold fv_X4_copyFrom fv_X4_copyFrom_23 fv_X4_copyFrom_47 fv_X4_copyFrom_71 fv_X4_copyFrom_95
    simp only [ps_st_ne h, ps_cpy_ne h1]
    have hj : j = 1 ∨ j = 2 ∨ j = 3 ∨ j = 4 ∨ j = 5 ∨ j = 6 ∨ j = 7 ∨ j = 8 ∨ j = 9 ∨ j = 10 ∨ j = 11 ∨ j = 12 := by omega
    rcases hj with rfl | rfl | rfl | rfl | rfl | rfl | rfl | rfl | rfl | rfl | rfl | rfl <;> simp [ps_st]
  · unfold fv_X4_copyFrom fv_X4_copyFrom_23 fv_X4_copyFrom_47 fv_X4_copyFrom_71 fv_X4_copyFrom_95
    have e : k0 + 1 ≠ k0 := by omega
    simp only [ps_st_ne e, ps_cpy_self]
    rw [pk_cpy_in (by show 0 ≤ t; omega) (by show t < 0 + 15; omega), pq_c0, Nat.zero_add, Nat.sub_zero]
  · unfold ok_X4_copyFrom ok_X4_copyFrom_23 ok_X4_copyFrom_47 ok_X4_copyFrom_71 ok_X4_copyFrom_95
    exact ⟨by decide, by decide, by decide, by decide, by decide, trivial⟩
theorem cp_ck {M : ps_M} {k0 k1 : Nat} (h : k1 ≠ k0) : (∀ k, k ≠ k0 → fv_X1_copyFrom k0 k1 M k = M k) ∧ (∀ j, j < 6 → fv_X1_copyFrom k0 k1 M k0 j = M k1 j) ∧ ok_X1_copyFrom k0 k1 M := by
  refine ⟨fun k g1 => ?_, fun j g1 => ?_, trivial⟩
  · unfold fv_X1_copyFrom fv_X1_copyFrom_24
    simp only [ps_st_ne g1]
  · unfold fv_X1_copyFrom fv_X1_copyFrom_24
    simp only [ps_st_ne h]
    have hj : j = 0 ∨ j = 1 ∨ j = 2 ∨ j = 3 ∨ j = 4 ∨ j = 5 := by omega
    rcases hj with rfl | rfl | rfl | rfl | rfl | rfl <;> simp [ps_st]
/-- of the day at e, in the memory M, s stations and c clerks stand copied at d in Mx, and nothing else has changed -/
def CP (M Mx : ps_M) (d e s c : Nat) : Prop :=
  (∀ k, (k < d ∨ d + 27 ≤ k) → Mx k = M k) ∧ (∀ j, j < 3 → Mx d j = M e j) ∧
  (∀ s', s' < s → (∀ j, 1 ≤ j → j ≤ 12 → Mx (d + 1 + 1 + 2 * s') j = M (e + 1 + 1 + 2 * s') j) ∧ (∀ t, t < 15 → Mx (d + 1 + 1 + 2 * s' + 1) t = M (e + 1 + 1 + 2 * s' + 1) t)) ∧
  (∀ c', c' < c → ∀ j, j < 6 → Mx (d + 14 + 1 + c') j = M (e + 14 + 1 + c') j)
theorem cp_loopK {M : ps_M} {d e : Nat} (hde : d + 27 ≤ e ∨ e + 27 ≤ d) : ∀ (k c n : Nat) (Mx : ps_M), c + k = 12 → k < n → CP M Mx d e 6 c → CP M (fv_X2_copyFrom_55 n d e (nI c) Mx) d e 6 12 ∧ ok_X2_copyFrom_55 n d e (nI c) Mx := by
  intro k
  induction k with
  | zero =>
    intro c n Mx h1 h2 h3
    cases n with
    | zero => omega
    | succ n =>
      rw [fv_X2_copyFrom_55_s, ok_X2_copyFrom_55_s, show c = 12 by omega, show (12 : Int32) = nI 12 from rfl]
      simp only [pq_leT (show ¬ 12 < 12 by omega) (by omega) (by omega), if_true, true_implies, not_true_eq_false, false_implies, and_true]
      rw [show c = 12 by omega] at h3
      exact h3
  | succ k ih =>
    intro c n Mx h1 h2 h3
    cases n with
    | zero => omega
    | succ n =>
      have v1 : vp_in (nI c) 12 := pq_vin (by omega) (by omega)
      obtain ⟨g1, g2, g3⟩ := cp_ck (M := Mx) (k0 := d + 14 + 1 + c) (k1 := e + 14 + 1 + c) (by omega)
      obtain ⟨q1, q2, q3, q4⟩ := h3
      have key : CP M (fv_X1_copyFrom (d + 14 + 1 + c) (e + 14 + 1 + c) Mx) d e 6 (c + 1) := by
        refine ⟨fun k hk => ?_, fun j hj => ?_, fun s hs => ⟨fun j j1 j2 => ?_, fun t ht => ?_⟩, fun c' hc j hj => ?_⟩
        · rw [g1 k (by omega)]; exact q1 k hk
        · rw [g1 d (by omega)]; exact q2 j hj
        · rw [g1 _ (by omega)]; exact (q3 s hs).1 j j1 j2
        · rw [g1 _ (by omega)]; exact (q3 s hs).2 t ht
        · by_cases e1 : c' = c
          · subst e1
            rw [g2 j hj, q1 _ (by omega)]
          · rw [g1 _ (by omega)]; exact q4 c' (by omega) j hj
      obtain ⟨i1, i2⟩ := ih (c + 1) n _ (by omega) (by omega) key
      rw [fv_X2_copyFrom_55_s, ok_X2_copyFrom_55_s, show (12 : Int32) = nI 12 from rfl]
      simp only [pq_leF (show c < 12 by omega) (by omega), pq_nI (show c < 4000 by omega), pq_nIadd1, v1, g3, if_false, false_implies, true_and, not_false_eq_true, true_implies]
      exact ⟨i1, i2⟩
theorem cp_loopS {M : ps_M} {d e : Nat} (hde : d + 27 ≤ e ∨ e + 27 ≤ d) : ∀ (k s n : Nat) (Mx : ps_M), s + k = 6 → k < n → CP M Mx d e s 0 → CP M (fv_X2_copyFrom_26 n d e (nI s) Mx) d e 6 12 ∧ ok_X2_copyFrom_26 n d e (nI s) Mx := by
  intro k
  induction k with
  | zero =>
    intro s n Mx h1 h2 h3
    cases n with
    | zero => omega
    | succ n =>
      rw [fv_X2_copyFrom_26_s, ok_X2_copyFrom_26_s, show s = 6 by omega, show (6 : Int32) = nI 6 from rfl]
      simp only [pq_leT (show ¬ 6 < 6 by omega) (by omega) (by omega), if_true, true_implies, not_true_eq_false, false_implies, and_true]
      rw [show s = 6 by omega] at h3
      exact cp_loopK hde 12 0 ps_FU Mx (by omega) (pq_fu (by omega)) h3
  | succ k ih =>
    intro s n Mx h1 h2 h3
    cases n with
    | zero => omega
    | succ n =>
      have v1 : vp_in (nI s) 6 := pq_vin (by omega) (by omega)
      obtain ⟨g1, g2, g3, g4⟩ := cp_st (M := Mx) (k0 := d + 1 + 1 + 2 * s) (k1 := e + 1 + 1 + 2 * s) (by omega) (by omega) (by omega)
      obtain ⟨q1, q2, q3, q4⟩ := h3
      have key : CP M (fv_X4_copyFrom (d + 1 + 1 + 2 * s) (e + 1 + 1 + 2 * s) Mx) d e (s + 1) 0 := by
        refine ⟨fun k hk => ?_, fun j hj => ?_, fun s' hs => ⟨fun j j1 j2 => ?_, fun t ht => ?_⟩, fun c' hc j hj => absurd hc (by omega)⟩
        · rw [g1 k (by omega) (by omega)]; exact q1 k hk
        · rw [g1 d (by omega) (by omega)]; exact q2 j hj
        · by_cases e1 : s' = s
          · subst e1
            rw [g2 j j1 j2, q1 _ (by omega)]
          · rw [g1 _ (by omega) (by omega)]; exact (q3 s' (by omega)).1 j j1 j2
        · by_cases e1 : s' = s
          · subst e1
            rw [g3 t ht, q1 _ (by omega)]
          · rw [g1 _ (by omega) (by omega)]; exact (q3 s' (by omega)).2 t ht
      obtain ⟨i1, i2⟩ := ih (s + 1) n _ (by omega) (by omega) key
      rw [fv_X2_copyFrom_26_s, ok_X2_copyFrom_26_s, show (6 : Int32) = nI 6 from rfl]
      simp only [pq_leF (show s < 6 by omega) (by omega), pq_nI (show s < 4000 by omega), pq_nIadd1, v1, g4, if_false, false_implies, true_and, not_false_eq_true, true_implies]
      exact ⟨i1, i2⟩
/-- a day is copied -/
theorem cp_day {M : ps_M} {d e : Nat} (hde : d + 27 ≤ e ∨ e + 27 ≤ d) : CP M (fv_X2_copyFrom d e M) d e 6 12 ∧ ok_X2_copyFrom d e M := by
  unfold fv_X2_copyFrom ok_X2_copyFrom fv_X2_copyFrom_24 ok_X2_copyFrom_24
  have hne : e ≠ d := by omega
  refine cp_loopS hde 6 0 ps_FU _ (by omega) (pq_fu (by omega)) ⟨fun k hk => ?_, fun j hj => ?_, fun s hs => absurd hs (by omega), fun c hc => absurd hc (by omega)⟩
  · have : k ≠ d := by omega
    simp only [ps_st_ne this]
  · simp only [ps_st_ne hne]
    have hj : j = 0 ∨ j = 1 ∨ j = 2 := by omega
    rcases hj with rfl | rfl | rfl <;> simp [ps_st]
/-! what is said of a station and of a clerk speaks of their own numbers alone -/
theorem pq_S_loc {P : Prop} {B : Int} {k : Nat} {added : Prop} {f g f' g' r : Nat → Int32} (hf : ∀ j, 1 ≤ j → j ≤ 12 → f' j = f j) (hg : ∀ t, t < 15 → g' t = g t) (h : pq_S P B k added f g r) : pq_S P B k added f' g' r := by
  unfold pq_S at h ⊢
  rw [hf 1 (by omega) (by omega), hf 2 (by omega) (by omega), hf 3 (by omega) (by omega), hf 4 (by omega) (by omega), hf 5 (by omega) (by omega), hf 6 (by omega) (by omega), hf 7 (by omega) (by omega), hf 8 (by omega) (by omega), hf 9 (by omega) (by omega), hf 10 (by omega) (by omega), hf 11 (by omega) (by omega), hf 12 (by omega) (by omega)]
  exact ⟨h.1, fun t ht => by rw [hg t ht]; exact h.2.1 t ht, h.2.2⟩
theorem pq_K_loc {a h9 : Nat} {e : Int} {added : Prop} {f f' r : Nat → Int32} (hf : ∀ j, j < 6 → f' j = f j) (h : pq_K a h9 e added f r) : pq_K a h9 e added f' r := by
  unfold pq_K at h ⊢
  rw [hf 0 (by omega), hf 1 (by omega), hf 2 (by omega), hf 3 (by omega), hf 4 (by omega), hf 5 (by omega)]
  exact h
theorem DR_copy {M M' : ps_M} {d e : Nat} {q : Nat → Int32} {h a b : Nat} (hc : CP M M' d e 6 12) (hx : DR M e q h a b) : DR M' d q h a b := by
  obtain ⟨q1, q2, q3, q4⟩ := hc
  obtain ⟨⟨h1, h2, h3⟩, h4, h5, h6, h7⟩ := hx
  refine ⟨⟨by rw [q2 0 (by omega)]; exact h1, by rw [q2 1 (by omega)]; exact h2, by rw [q2 2 (by omega)]; exact h3⟩, h4, h5, fun s hs => ?_, fun c hc => ?_⟩
  · exact pq_S_loc (q3 s hs).1 (q3 s hs).2 (h6 s hs)
  · exact pq_K_loc (q4 c hc) (h7 c hc)
theorem DE_copy {M M' : ps_M} {d e : Nat} {q : Nat → Int32} (hc : CP M M' d e 6 12) (hx : DE M e q) : DE M' d q := by
  obtain ⟨h, a, b, hx⟩ := hx
  exact ⟨h, a, b, DR_copy hc hx⟩
theorem DE_frame {M M' : ps_M} {d : Nat} {q q' : Nat → Int32} (hx : DE M d q) (hM : ∀ k, d ≤ k → k < d + 27 → M' k = M k) (hq : ∀ i, i < 237 → q' i = q i) : DE M' d q' := by
  obtain ⟨h, a, b, hx⟩ := hx
  exact ⟨h, a, b, DX_frame hx hM hq⟩
/-! the reference's copies -/
theorem mo_copyloop {N : ps_M} {k0 k2 p r : Nat} (hk : k0 ≠ k2) (hp : p + 237 ≤ pm_ln k0) (hr : r + 237 ≤ pm_ln k2) (hl : pm_ln k0 ≤ 948 ∧ pm_ln k2 ≤ 948) : ∀ (k t n : Nat) (Nx : ps_M), t + k = 237 → k < n → (∀ i, i ≠ k2 → Nx i = N i) → (∀ i, Nx k2 i = if r ≤ i ∧ i < r + t then N k0 (p + (i - r)) else N k2 i) → ((∀ i, i ≠ k2 → fv_X6_copies_3 n k0 (nI p) k2 (nI r) (nI t) Nx i = N i) ∧ (∀ i, fv_X6_copies_3 n k0 (nI p) k2 (nI r) (nI t) Nx k2 i = if r ≤ i ∧ i < r + 237 then N k0 (p + (i - r)) else N k2 i) ∧ ok_X6_copies_3 n k0 (nI p) k2 (nI r) (nI t) Nx) := by
  intro k
  induction k with
  | zero =>
    intro t n Nx h1 h2 h3 h4
    cases n with
    | zero => omega
    | succ n =>
      rw [fv_X6_copies_3_s, ok_X6_copies_3_s, show t = 237 by omega, show (237 : Int32) = nI 237 from rfl]
      simp only [pq_leT (show ¬ 237 < 237 by omega) (by omega) (by omega), if_true, true_implies, not_true_eq_false, false_implies, and_true]
      rw [show t = 237 by omega] at h4
      exact ⟨h3, h4⟩
  | succ k ih =>
    intro t n Nx h1 h2 h3 h4
    cases n with
    | zero => omega
    | succ n =>
      have v1 : vp_in (nI (p + t)) (pm_ln k0) := pq_vin (by omega) (by omega)
      have v2 : vp_in (nI (r + t)) (pm_ln k2) := pq_vin (by omega) (by omega)
      obtain ⟨i1, i2, i3⟩ := ih (t + 1) n (ps_st Nx k2 (r + t) (Nx k0 (p + t))) (by omega) (by omega) (fun i hi => by rw [ps_st_ne hi]; exact h3 i hi) (fun i => by
        rw [ps_st_self, h3 k0 hk]
        unfold upd
        by_cases e : i = r + t
        · rw [if_pos e, if_pos (by omega), e]
          congr 1; omega
        · rw [if_neg e, h4 i]
          by_cases e2 : r ≤ i ∧ i < r + t
          · rw [if_pos e2, if_pos (by omega)]
          · rw [if_neg e2, if_neg (by omega)])
      rw [fv_X6_copies_3_s, ok_X6_copies_3_s, show (237 : Int32) = nI 237 from rfl, nI_add, nI_add]
      simp only [pq_leF (show t < 237 by omega) (by omega), pq_nI (show p + t < 4000 by omega), pq_nI (show r + t < 4000 by omega), pq_nIadd1, v1, v2, if_false, false_implies, true_and, not_false_eq_true, true_implies]
      exact ⟨i1, i2, i3⟩
theorem mo_copies {N : ps_M} {k0 k2 p r : Nat} (hk : k0 ≠ k2) (hp : p + 237 ≤ pm_ln k0) (hr : r + 237 ≤ pm_ln k2) (hl : pm_ln k0 ≤ 948 ∧ pm_ln k2 ≤ 948) : (∀ i, i ≠ k2 → fv_X6_copies k0 (nI p) k2 (nI r) N i = N i) ∧ (∀ i, fv_X6_copies k0 (nI p) k2 (nI r) N k2 i = if r ≤ i ∧ i < r + 237 then N k0 (p + (i - r)) else N k2 i) ∧ ok_X6_copies k0 (nI p) k2 (nI r) N :=
  mo_copyloop hk hp hr hl 237 0 ps_FU N (by omega) (pq_fu (by omega)) (fun _ _ => rfl) (fun i => by rw [if_neg (by omega)])
