theorem l47 {N : ps_M} {K s t : Nat} (hK : K ≤ 30) (hN : N 0 9 = nI K) : ∀ (k i n : Nat), i + k = K → k < n → ((∀ j, i ≤ j → j < K → N 6 j ≤ 500) → fv_X6_readArrivals_47 n (nI s) (nI t) (nI i) N = (if nI t + nI K ≤ (15 : Int32) then fv_X6_readArrivals_99 ps_FU (nI s) (nI t) 0 (fv_X6_records N) else (-3, N))) ∧ ((¬ ∀ j, i ≤ j → j < K → N 6 j ≤ 500) → fv_X6_readArrivals_47 n (nI s) (nI t) (nI i) N = (-2, N)) ∧ ((nI t + nI K ≤ (15 : Int32) → (∀ j, i ≤ j → j < K → N 6 j ≤ 500) → ok_X6_records N ∧ ok_X6_readArrivals_99 ps_FU (nI s) (nI t) 0 (fv_X6_records N)) → ok_X6_readArrivals_47 n (nI s) (nI t) (nI i) N) := by
  intro k
  induction k with
  | zero =>
    intro i n h1 h2
    cases n with
    | zero => omega
    | succ n =>
      have hall : ∀ j, i ≤ j → j < K → N 6 j ≤ 500 := fun j j1 j2 => absurd j1 (by omega)
      rw [fv_X6_readArrivals_47_s, ok_X6_readArrivals_47_s, hN]
      simp only [pq_leT (show ¬ i < K by omega) (show K < 4000 by omega) (show i < 4000 by omega), if_true, true_implies, not_true_eq_false, false_implies, and_true]
      refine ⟨fun _ => trivial, fun z => absurd hall z, fun z => ⟨fun q => z q hall, fun _ => trivial⟩⟩
  | succ k ih =>
    intro i n h1 h2
    cases n with
    | zero => omega
    | succ n =>
      have v1 : vp_in (nI i) 60 := pq_vin (by omega) (by omega)
      obtain ⟨i1, i2, i3⟩ := ih (i + 1) n (by omega) (by omega)
      rw [fv_X6_readArrivals_47_s, ok_X6_readArrivals_47_s, hN]
      simp only [pq_leF (show i < K by omega) (show K < 4000 by omega), pq_nI (show i < 4000 by omega), pq_nIadd1, v1, if_false, false_implies, not_false_eq_true, true_implies, true_and]
      by_cases q : N 6 i ≤ 500
      · have hiff : (∀ j, i ≤ j → j < K → N 6 j ≤ 500) ↔ (∀ j, i + 1 ≤ j → j < K → N 6 j ≤ 500) := ⟨fun h j j1 j2 => h j (by omega) j2, fun h j j1 j2 => by
          by_cases e : j = i
          · rw [e]; exact q
          · exact h j (by omega) j2⟩
        rw [if_pos q]
        exact ⟨fun h => i1 (hiff.mp h), fun h => i2 (fun z => h (hiff.mpr z)), fun h => ⟨fun _ => i3 (fun a c => h a (hiff.mpr c)), fun z => absurd q z⟩⟩
      · rw [if_neg q]
        exact ⟨fun h => absurd (h i (by omega) (by omega)) q, fun _ => rfl, fun _ => ⟨fun z => absurd z q, fun _ => trivial⟩⟩
theorem l99 {N1 : ps_M} {K s t : Nat} {w : Nat → Int32} (hs : s < 6) (hK : t + K ≤ 15) (h9 : N1 0 9 = nI K) (hw : ∀ j, j < K → N1 6 j = w j) : ∀ (k i n : Nat) (Nx : ps_M), i + k = K → k < n → (∀ c, c ≠ 1 → Nx c = N1 c) → (∀ j, (j < 3 + 27 * s ∨ 3 + 27 * s + 27 ≤ j) → Nx 1 j = N1 1 j) → (∀ j, pq_sv (Nx 1) s j = if 12 + t ≤ j ∧ j < 12 + t + i then w (j - (12 + t)) else pq_sv (N1 1) s j) → (fv_X6_readArrivals_99 n (nI s) (nI t) (nI i) Nx).1 = nI K ∧ (∀ c, c ≠ 1 → (fv_X6_readArrivals_99 n (nI s) (nI t) (nI i) Nx).2 c = N1 c) ∧ (∀ j, (j < 3 + 27 * s ∨ 3 + 27 * s + 27 ≤ j) → (fv_X6_readArrivals_99 n (nI s) (nI t) (nI i) Nx).2 1 j = N1 1 j) ∧ (∀ j, pq_sv ((fv_X6_readArrivals_99 n (nI s) (nI t) (nI i) Nx).2 1) s j = if 12 + t ≤ j ∧ j < 12 + t + K then w (j - (12 + t)) else pq_sv (N1 1) s j) ∧ ok_X6_readArrivals_99 n (nI s) (nI t) (nI i) Nx := by
  intro k
  induction k with
  | zero =>
    intro i n Nx h1 h2 h3 h4 h5
    cases n with
    | zero => omega
    | succ n =>
      rw [fv_X6_readArrivals_99_s, ok_X6_readArrivals_99_s, h3 0 (by omega), h9]
      simp only [pq_leT (show ¬ i < K by omega) (show K < 4000 by omega) (show i < 4000 by omega), if_true, true_implies, not_true_eq_false, false_implies, and_true]
      rw [show i = K by omega] at h5
      exact ⟨trivial, h3, h4, h5⟩
  | succ k ih =>
    intro i n Nx h1 h2 h3 h4 h5
    cases n with
    | zero => omega
    | succ n =>
      have v1 : vp_in (nI i) 60 := pq_vin (by omega) (by omega)
      have hj : 12 + t + i < 27 := by omega
      have e1 : fv_X6_of (nI s) (nI (12 + t + i)) Nx = pq_sv (Nx 1) s (12 + t + i) := pq_of hs hj Nx
      have o1 : ok_X6_of (nI s) (nI (12 + t + i)) Nx := pq_ofok hs hj Nx
      have o2 : ∀ v, ok_X6_adds (nI s) (nI (12 + t + i)) v Nx := fun v => pq_addsok hs hj v Nx
      have e2 : fv_X6_adds (nI s) (nI (12 + t + i)) (w i - pq_sv (Nx 1) s (12 + t + i)) Nx = ps_st Nx 1 (3 + 27 * s + (12 + t + i)) (w i) := by
        rw [pq_adds hs hj, pq_sgap]
      have e3 : Nx 6 i = w i := by rw [h3 6 (by omega)]; exact hw i (by omega)
      obtain ⟨i1, i2, i3, i4, i5⟩ := ih (i + 1) n (ps_st Nx 1 (3 + 27 * s + (12 + t + i)) (w i)) (by omega) (by omega) (fun c hc => (ps_st_ne hc).trans (h3 c hc)) (fun j hj' => (pq_stne (Or.inr (by omega))).trans (h4 j hj')) (fun j => by
        rw [pq_svset hj]
        by_cases e : j = 12 + t + i
        · rw [if_pos ⟨rfl, e⟩, if_pos (by omega), e]
          congr 1; omega
        · rw [if_neg (fun z => e z.2), h5 j]
          by_cases e2 : 12 + t ≤ j ∧ j < 12 + t + i
          · rw [if_pos e2, if_pos (by omega)]
          · rw [if_neg e2, if_neg (by omega)])
      rw [fv_X6_readArrivals_99_s, ok_X6_readArrivals_99_s, h3 0 (by omega), h9]
      simp only [pq_leF (show i < K by omega) (show K < 4000 by omega), pq_nI (show i < 4000 by omega), pq_12x, nI_add, e1, o1, o2, e2, e3, v1, pq_nIadd1, if_false, false_implies, not_false_eq_true, true_implies, true_and]
      exact ⟨i1, i2, i3, i4, i5⟩
theorem S_arrs {B : Int} {k : Nat} {ad : Prop} {f g r g' r' w : Nat → Int32} {t K : Nat} (hK : t + K ≤ 15) (h : pq_S True B k ad f g r) (hg : ∀ τ, g' τ = if t ≤ τ ∧ τ < t + K then w (0 + (τ - t)) else g τ) (hr : ∀ j, r' j = if 12 + t ≤ j ∧ j < 12 + t + K then w (j - (12 + t)) else r j) (hw : ∀ j, j < K → 0 ≤ (w j).toInt ∧ (w j).toInt ≤ 500) : pq_S True B k ad f g' r' := by
  obtain ⟨e0, har, hq, hst, hc⟩ := h
  have u : ∀ j, j < 12 → r' j = r j := fun j hj => by rw [hr j, if_neg (by omega)]
  refine ⟨?_, fun τ ht => ?_, ?_, ⟨fun _ => ?_, fun q => absurd trivial q⟩, ?_⟩
  · rw [u 0 (by omega), u 1 (by omega), u 2 (by omega), u 3 (by omega), u 5 (by omega), u 6 (by omega), u 7 (by omega), u 8 (by omega), u 9 (by omega), u 11 (by omega)]
    exact e0
  · rw [hg τ, hr (12 + τ)]
    by_cases q : t ≤ τ ∧ τ < t + K
    · rw [if_pos q, if_pos (by omega), show 0 + (τ - t) = τ - t by omega, show 12 + τ - (12 + t) = τ - t by omega]
      exact ⟨rfl, hw _ (by omega)⟩
    · rw [if_neg q, if_neg (by omega)]; exact har τ ht
  · rw [u 0 (by omega)]; exact hq
  · rw [u 4 (by omega)]; exact hst.1 trivial
  · rw [u 10 (by omega)]; exact hc
