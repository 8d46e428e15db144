/-! ===== the history ===== -/
def HP (p : Nat → Nat) : Prop := (∀ i, i < 4 → p i = 86 ∨ p i = 113 ∨ p i = 140 ∨ p i = 167) ∧ ∀ i j, i < 4 → j < 4 → p i = p j → i = j
theorem HP_kd {p : Nat → Nat} (h : HP p) {i : Nat} (hi : i < 4) : ps_kd (p i) = 2 := by
  rcases h.1 i hi with e | e | e | e <;> rw [e] <;> decide
def pq_rot (p : Nat → Nat) : Nat → Nat := fun i => if i < 3 then p (i + 1) else p 0
theorem HP_rot {p : Nat → Nat} (h : HP p) : HP (pq_rot p) := by
  refine ⟨fun i hi => ?_, fun i j hi hj e => ?_⟩
  · unfold pq_rot
    by_cases q : i < 3
    · rw [if_pos q]; exact h.1 _ (by omega)
    · rw [if_neg q]; exact h.1 _ (by omega)
  · unfold pq_rot at e
    by_cases q : i < 3 <;> by_cases q2 : j < 3
    · rw [if_pos q, if_pos q2] at e
      have := h.2 _ _ (by omega) (by omega) e; omega
    · rw [if_pos q, if_neg q2] at e
      have := h.2 _ _ (by omega) (by omega) e; omega
    · rw [if_neg q, if_pos q2] at e
      have := h.2 _ _ (by omega) (by omega) e; omega
    · omega
theorem pq_sub1 (n : Nat) : nI (n + 1) - (1 : Int32) = nI n := nI_pred n
theorem hs_droploop {M : ps_M} {p : Nat → Nat} (hp : HP p) (hM : ∀ i, i < 4 → M 85 i = nI (p i)) : ∀ (k x n : Nat) (Mx : ps_M), x + 1 + k = 4 → k < n → (∀ i, i ≠ 85 → Mx i = M i) → (∀ j, j < 4 → Mx 85 j = if j < x then nI (p (j + 1)) else nI (p j)) → (∀ i, i ≠ 85 → i ≠ 84 → fv_X3_dropOldest_9 n (p 0) (nI (x + 1)) Mx i = M i) ∧ (∀ j, j < 4 → fv_X3_dropOldest_9 n (p 0) (nI (x + 1)) Mx 85 j = nI (pq_rot p j)) ∧ fv_X3_dropOldest_9 n (p 0) (nI (x + 1)) Mx 84 1 = nI 3 ∧ ok_X3_dropOldest_9 n (p 0) (nI (x + 1)) Mx := by
  intro k
  induction k with
  | zero =>
    intro x n Mx h1 h2 h3 h4
    cases n with
    | zero => omega
    | succ n =>
      rw [fv_X3_dropOldest_9_s, ok_X3_dropOldest_9_s, show x = 3 by omega, show (4 : Int32) = nI 4 from rfl, show (3 : Int32).toNatClampNeg = 3 from rfl]
      have v1 : vp_in (3 : Int32) 4 := pq_vin (n := 3) (by omega) (by omega)
      simp only [pq_leT (show ¬ 3 + 1 < 4 by omega) (by omega) (by omega), v1, if_true, true_implies, not_true_eq_false, false_implies, and_true]
      refine ⟨fun i g1 g2 => by rw [ps_st_ne g2, ps_st_ne g1]; exact h3 i g1, fun j hj => ?_, pq_stself⟩
      rw [ps_st_ne (by omega), ps_st_self]
      unfold upd pq_rot
      by_cases e : j = 3
      · rw [if_pos e, if_neg (by omega)]
      · rw [if_neg e, h4 j hj, if_pos (by omega), if_pos (by omega)]
  | succ k ih =>
    intro x n Mx h1 h2 h3 h4
    cases n with
    | zero => omega
    | succ n =>
      have v1 : vp_in (nI (x + 1)) 4 := pq_vin (by omega) (by omega)
      have v2 : vp_in (nI x) 4 := pq_vin (by omega) (by omega)
      have hlt : p (x + 1) < 4000 := by rcases hp.1 (x + 1) (by omega) with e | e | e | e <;> omega
      have e1 : Mx 85 (x + 1) = nI (p (x + 1)) := by rw [h4 _ (by omega), if_neg (by omega)]
      have kd := HP_kd hp (i := x + 1) (by omega)
      obtain ⟨i1, i2, i3, i4⟩ := ih (x + 1) n (ps_st Mx 85 x (nI (p (x + 1)))) (by omega) (by omega) (fun i hi => by rw [ps_st_ne hi]; exact h3 i hi) (fun j hj => by
        rw [ps_st_self]
        unfold upd
        by_cases e : j = x
        · rw [if_pos e, if_pos (by omega), e]
        · rw [if_neg e, h4 j hj]
          by_cases e2 : j < x
          · rw [if_pos e2, if_pos (by omega)]
          · rw [if_neg e2, if_neg (by omega)])
      rw [fv_X3_dropOldest_9_s, ok_X3_dropOldest_9_s, show (4 : Int32) = nI 4 from rfl]
      simp only [pq_leF (show x + 1 < 4 by omega) (by omega), pq_sub1, pq_nI (show x < 4000 by omega), pq_nI (show x + 1 < 4000 by omega), pq_nIadd1, v1, v2, e1, pq_nI hlt, kd, if_false, false_implies, true_and, not_false_eq_true, true_implies]
      exact ⟨i1, i2, i3, i4⟩
theorem hs_drop {M : ps_M} {p : Nat → Nat} (hp : HP p) (hM : ∀ i, i < 4 → M 85 i = nI (p i)) : (∀ i, i ≠ 85 → i ≠ 84 → fv_X3_dropOldest M i = M i) ∧ (∀ j, j < 4 → fv_X3_dropOldest M 85 j = nI (pq_rot p j)) ∧ fv_X3_dropOldest M 84 1 = nI 3 ∧ ok_X3_dropOldest M := by
  have hlt : p 0 < 4000 := by rcases hp.1 0 (by omega) with e | e | e | e <;> omega
  have v1 : vp_in (0 : Int32) 4 := pq_vin (n := 0) (by omega) (by omega)
  obtain ⟨i1, i2, i3, i4⟩ := hs_droploop hp hM 3 0 ps_FU M (by omega) (pq_fu (by omega)) (fun _ _ => rfl) (fun j hj => by rw [if_neg (by omega)]; exact hM j hj)
  unfold fv_X3_dropOldest ok_X3_dropOldest
  rw [pq_c0, hM 0 (by omega), pq_nI hlt]
  exact ⟨i1, i2, i3, v1, HP_kd hp (by omega), i4⟩
/-- the class records the day at 1 -/
theorem hs_rem12 {M : ps_M} {p : Nat → Nat} {n : Nat} (hp : HP p) (hM : ∀ i, i < 4 → M 85 i = nI (p i)) (hn : M 84 1 = nI n) (h4 : n < 4) : (∀ i, i ≠ 84 → (i < p n ∨ p n + 27 ≤ i) → fv_X3_remember_12 1 M i = M i) ∧ fv_X3_remember_12 1 M 84 1 = nI (n + 1) ∧ (∀ q, DE M 1 q → DE (fv_X3_remember_12 1 M) (p n) q) ∧ ok_X3_remember_12 1 M := by
  have hlt : 86 ≤ p n ∧ p n ≤ 167 := by rcases hp.1 n h4 with e | e | e | e <;> omega
  obtain ⟨cp, ok⟩ := cp_day (M := M) (d := p n) (e := 1) (by omega)
  have q1 := cp.1
  unfold fv_X3_remember_12 ok_X3_remember_12
  rw [hn, pq_nI (show n < 4000 by omega), hM n h4, pq_nI (show p n < 4000 by omega)]
  have e84 : fv_X2_copyFrom (p n) 1 M 84 = M 84 := q1 84 (by omega)
  refine ⟨fun i g1 g2 => by rw [ps_st_ne g1]; exact q1 i g2, ?_, fun q hq => DE_frame (DE_copy cp hq) (fun k k1 k2 => ps_st_ne (by omega)) (fun _ _ => rfl), pq_vin h4 (by omega), HP_kd hp h4, ok, trivial⟩
  rw [pq_stself, e84, hn, pq_nIadd1]
theorem hs_remember {M : ps_M} {p : Nat → Nat} {n : Nat} (hp : HP p) (hM : ∀ i, i < 4 → M 85 i = nI (p i)) (hn : M 84 1 = nI n) (h4 : n ≤ 4) : ∃ (p' : Nat → Nat) (n' : Nat), HP p' ∧ n' < 4 ∧ (n < 4 → n' = n ∧ p' = p) ∧ (n = 4 → n' = 3 ∧ p' = pq_rot p) ∧ (∀ i, i ≠ 84 → i ≠ 85 → (i < p' n' ∨ p' n' + 27 ≤ i) → fv_X3_remember 1 M i = M i) ∧ fv_X3_remember 1 M 84 1 = nI (n' + 1) ∧ (∀ i, i < 4 → fv_X3_remember 1 M 85 i = nI (p' i)) ∧ (∀ q, DE M 1 q → DE (fv_X3_remember 1 M) (p' n') q) ∧ ok_X3_remember 1 M := by
  unfold fv_X3_remember ok_X3_remember
  rw [hn, show (4 : Int32) = nI 4 from rfl]
  by_cases e : n < 4
  · have hlt : 86 ≤ p n ∧ p n ≤ 167 := by rcases hp.1 n e with e | e | e | e <;> omega
    have c : nI n < nI 4 := nI_lt e (by omega)
    obtain ⟨g1, g2, g3, g4⟩ := hs_rem12 hp hM hn e
    refine ⟨p, n, hp, e, fun _ => ⟨rfl, rfl⟩, fun q => absurd q (by omega), ?_, ?_, ?_, ?_, ?_⟩
    · rw [if_pos c]; exact fun i i1 _ i3 => g1 i i1 i3
    · rw [if_pos c]; exact g2
    · rw [if_pos c]; exact fun i hi => by rw [g1 85 (by omega) (by omega)]; exact hM i hi
    · rw [if_pos c]; exact g3
    · exact ⟨fun _ => g4, fun q => absurd c q⟩
  · have e4 : n = 4 := by omega
    subst e4
    have c : ¬ nI 4 < nI 4 := nI_nlt (by omega) (by omega)
    obtain ⟨d1, d2, d3, d4⟩ := hs_drop hp hM
    have hpr := HP_rot hp
    have hlt : 86 ≤ pq_rot p 3 ∧ pq_rot p 3 ≤ 167 := by rcases hpr.1 3 (by omega) with e | e | e | e <;> omega
    obtain ⟨g1, g2, g3, g4⟩ := hs_rem12 hpr d2 d3 (by omega)
    refine ⟨pq_rot p, 3, hpr, by omega, fun q => absurd q (by omega), fun _ => ⟨rfl, rfl⟩, ?_, ?_, ?_, ?_, ?_⟩
    · rw [if_neg c]; exact fun i i1 i2 i3 => by rw [g1 i i1 i3]; exact d1 i i2 i1
    · rw [if_neg c]; exact g2
    · rw [if_neg c]; exact fun i hi => by rw [g1 85 (by omega) (by omega)]; exact d2 i hi
    · rw [if_neg c]; exact fun q hq => g3 q (DE_frame hq (fun k k1 k2 => d1 k (by omega) (by omega)) (fun _ _ => rfl))
    · exact ⟨fun q => absurd q c, fun _ => ⟨d4, g4⟩⟩
/-! the reference records its row -/
theorem mo_rec44 {N : ps_M} {n : Nat} (hn : N 0 2 = nI n) (h4 : n < 4) : (∀ i, i ≠ 0 → i ≠ 2 → fv_X6_records_44 N i = N i) ∧ (∀ j, j ≠ 2 → fv_X6_records_44 N 0 j = N 0 j) ∧ fv_X6_records_44 N 0 2 = nI (n + 1) ∧ (∀ i, i < 237 → fv_X6_records_44 N 2 (237 * n + i) = N 1 i) ∧ (∀ i, i < 237 * n → fv_X6_records_44 N 2 i = N 2 i) ∧ ok_X6_records_44 N := by
  have em : N 0 2 * (237 : Int32) = nI (237 * n) := by rw [hn, show (237 : Int32) = nI 237 from rfl, pk_mul, Nat.mul_comm]
  obtain ⟨g1, g2, g3⟩ := mo_copies (N := N) (k0 := 1) (k2 := 2) (p := 0) (r := 237 * n) (by omega) (by show 0 + 237 ≤ 237; omega) (by show 237 * n + 237 ≤ 948; omega) ⟨by show 237 ≤ 948; omega, by show 948 ≤ 948; omega⟩
  unfold fv_X6_records_44 ok_X6_records_44
  rw [em, show (0 : Int32) = nI 0 from rfl]
  refine ⟨fun i i1 i2 => by rw [ps_st_ne i1]; exact g1 i i2, fun j hj => ?_, ?_, fun i hi => ?_, fun i hi => ?_, g3, trivial⟩
  · rw [pq_stne (Or.inr hj), g1 0 (by omega)]
  · rw [pq_stself, g1 0 (by omega), hn, pq_nIadd1]
  · rw [ps_st_ne (by omega), g2, if_pos (by omega)]
    congr 1; omega
  · rw [ps_st_ne (by omega), g2, if_neg (by omega)]
theorem mo_shift {N : ps_M} : ∀ (k x n : Nat) (Nx : ps_M), x + k = 711 → k < n → (∀ i, i ≠ 2 → Nx i = N i) → (∀ j, Nx 2 j = if j < x then N 2 (j + 237) else N 2 j) → ∃ Ny : ps_M, fv_X6_records_10 n (nI x) Nx = fv_X6_records_44 (ps_st Ny 0 2 3) ∧ (ok_X6_records_44 (ps_st Ny 0 2 3) → ok_X6_records_10 n (nI x) Nx) ∧ (∀ i, i ≠ 2 → Ny i = N i) ∧ (∀ j, Ny 2 j = if j < 711 then N 2 (j + 237) else N 2 j) := by
  intro k
  induction k with
  | zero =>
    intro x n Nx h1 h2 h3 h4
    cases n with
    | zero => omega
    | succ n =>
      rw [fv_X6_records_10_s, ok_X6_records_10_s, show x = 711 by omega, show (711 : Int32) = nI 711 from rfl]
      simp only [pq_leT (show ¬ 711 < 711 by omega) (by omega) (by omega), if_true, true_implies, not_true_eq_false, false_implies, and_true]
      rw [show x = 711 by omega] at h4
      exact ⟨Nx, rfl, fun h => h, h3, h4⟩
  | succ k ih =>
    intro x n Nx h1 h2 h3 h4
    cases n with
    | zero => omega
    | succ n =>
      have v1 : vp_in (nI (x + 237)) 948 := pq_vin (by omega) (by omega)
      have v2 : vp_in (nI x) 948 := pq_vin (by omega) (by omega)
      obtain ⟨Ny, i1, i2, i3, i4⟩ := ih (x + 1) n (ps_st Nx 2 x (Nx 2 (x + 237))) (by omega) (by omega) (fun i hi => by rw [ps_st_ne hi]; exact h3 i hi) (fun j => by
        rw [ps_st_self]
        unfold upd
        by_cases e : j = x
        · rw [if_pos e, if_pos (by omega), h4, if_neg (by omega), e]
        · rw [if_neg e, h4 j]
          by_cases e2 : j < x
          · rw [if_pos e2, if_pos (by omega)]
          · rw [if_neg e2, if_neg (by omega)])
      refine ⟨Ny, ?_, ?_, i3, i4⟩
      · rw [fv_X6_records_10_s, show (711 : Int32) = nI 711 from rfl, show (237 : Int32) = nI 237 from rfl, nI_add]
        simp only [pq_leF (show x < 711 by omega) (by omega), pq_nI (show x < 4000 by omega), pq_nI (show x + 237 < 4000 by omega), pq_nIadd1, if_false]
        exact i1
      · rw [ok_X6_records_10_s, show (711 : Int32) = nI 711 from rfl, show (237 : Int32) = nI 237 from rfl, nI_add]
        simp only [pq_leF (show x < 711 by omega) (by omega), pq_nI (show x < 4000 by omega), pq_nI (show x + 237 < 4000 by omega), pq_nIadd1, v1, v2, false_implies, true_and, not_false_eq_true, true_implies]
        exact i2
theorem mo_records {N : ps_M} {n : Nat} (hn : N 0 2 = nI n) (h4 : n ≤ 4) : ∃ n' : Nat, n' < 4 ∧ (n < 4 → n' = n) ∧ (n = 4 → n' = 3) ∧ (∀ i, i ≠ 0 → i ≠ 2 → fv_X6_records N i = N i) ∧ (∀ j, j ≠ 2 → fv_X6_records N 0 j = N 0 j) ∧ fv_X6_records N 0 2 = nI (n' + 1) ∧ (∀ i, i < 237 → fv_X6_records N 2 (237 * n' + i) = N 1 i) ∧ (∀ i, i < 237 * n' → fv_X6_records N 2 i = N 2 (if n = 4 then i + 237 else i)) ∧ ok_X6_records N := by
  unfold fv_X6_records ok_X6_records
  rw [hn, show (4 : Int32) = nI 4 from rfl]
  by_cases e : n < 4
  · have c : ¬ nI n = nI 4 := fun q => by have := (pq_inj (by omega) (by omega)).mp q; omega
    obtain ⟨g1, g2, g3, g4, g5, g6⟩ := mo_rec44 hn e
    refine ⟨n, e, fun _ => rfl, fun q => absurd q (by omega), ?_, ?_, ?_, ?_, ?_, ?_⟩
    · rw [if_neg c]; exact g1
    · rw [if_neg c]; exact g2
    · rw [if_neg c]; exact g3
    · rw [if_neg c]; exact g4
    · rw [if_neg c]; exact fun i hi => by rw [if_neg (by omega)]; exact g5 i hi
    · exact ⟨fun q => absurd q c, fun _ => g6⟩
  · have e4 : n = 4 := by omega
    subst e4
    obtain ⟨Ny, s1, s2, s3, s4⟩ := mo_shift (N := N) 711 0 ps_FU N (by omega) (pq_fu (by omega)) (fun _ _ => rfl) (fun j => by rw [if_neg (by omega)])
    obtain ⟨g1, g2, g3, g4, g5, g6⟩ := mo_rec44 (N := ps_st Ny 0 2 3) (n := 3) pq_stself (by omega)
    have e0 : fv_X6_records_10 ps_FU 0 N = fv_X6_records_44 (ps_st Ny 0 2 3) := s1
    refine ⟨3, by omega, fun q => absurd q (by omega), fun _ => rfl, ?_, ?_, ?_, ?_, ?_, ?_⟩
    · rw [if_pos rfl, e0]; exact fun i i1 i2 => by rw [g1 i i1 i2, ps_st_ne i1, s3 i i2]
    · rw [if_pos rfl, e0]; exact fun j hj => by rw [g2 j hj, pq_stne (Or.inr hj), s3 0 (by omega)]
    · rw [if_pos rfl, e0]; exact g3
    · rw [if_pos rfl, e0]; exact fun i hi => by rw [g4 i hi, ps_st_ne (by omega), s3 1 (by omega)]
    · rw [if_pos rfl, e0]; exact fun i hi => by rw [g5 i hi, ps_st_ne (by omega), s4, if_pos (by omega), if_pos rfl]
    · exact ⟨fun _ => s2 g6, fun q => absurd rfl q⟩
/-! ===== THE RELATION ===== -/
def HR (M N : ps_M) (n : Nat) (p : Nat → Nat) : Prop := n ≤ 4 ∧ HP p ∧ M 84 1 = nI n ∧ N 0 2 = nI n ∧ (∀ i, i < 4 → M 85 i = nI (p i)) ∧ ∀ i, i < n → DE M (p i) (fun j => N 2 (237 * i + j))
def TR (M N : ps_M) : Prop := ∃ n : Nat, n ≤ 60 ∧ M 194 2 = nI n ∧ N 0 7 = nI n ∧ ∀ i, i < n → M 195 i = N 5 i ∧ 0 ≤ (N 5 i).toInt
def SN (M N : ps_M) : Prop := (M 0 3 = 0 ∧ N 0 4 = 0) ∨ (M 0 3 = 1 ∧ N 0 4 = 1 ∧ DE M 55 (N 3))
def Rel (M N : ps_M) : Prop := DE M 1 (N 1) ∧ SN M N ∧ (∃ (n : Nat) (p : Nat → Nat), HR M N n p) ∧ TR M N
/-- the present day, the forecast and the total may change, on both sides -/
theorem Rel_now {M N M' N' : ps_M} (hR : Rel M N) (hM : ∀ i, (28 ≤ i ∧ i < 55 ∨ 1 ≤ i ∧ i < 28 ∨ i = 82 ∨ i = 196) ∨ M' i = M i) (hN : ∀ i, i = 1 ∨ i = 4 ∨ i = 6 ∨ (i = 0 ∧ ∀ j, j ≠ 9 → N' 0 j = N 0 j) ∨ N' i = N i) (hD : DE M' 1 (N' 1)) : Rel M' N' := by
  obtain ⟨-, h2, ⟨n, p, p1, p2, p3, p4, p5, p6⟩, ⟨m, t1, t2, t3, t4⟩⟩ := hR
  have eM : ∀ i, 55 ≤ i → i ≠ 82 → i ≠ 196 → M' i = M i := fun i i1 i2 i3 => by
    rcases hM i with h | h
    · omega
    · exact h
  have eM0 : M' 0 = M 0 := by
    rcases hM 0 with h | h
    · omega
    · exact h
  have eN0 : ∀ j, j ≠ 9 → N' 0 j = N 0 j := fun j hj => by
    rcases hN 0 with h | h | h | h | h
    · omega
    · omega
    · omega
    · exact h.2 j hj
    · rw [h]
  have eN : ∀ i, (i = 2 ∨ i = 3 ∨ i = 5) → N' i = N i := fun i hi => by
    rcases hN i with h | h | h | h | h
    · omega
    · omega
    · omega
    · omega
    · exact h
  refine ⟨hD, ?_, ⟨n, p, p1, p2, by rw [eM 84 (by omega) (by omega) (by omega)]; exact p3, by rw [eN0 2 (by omega)]; exact p4, fun i hi => by rw [eM 85 (by omega) (by omega) (by omega)]; exact p5 i hi, fun i hi => ?_⟩, ⟨m, t1, by rw [eM 194 (by omega) (by omega) (by omega)]; exact t2, by rw [eN0 7 (by omega)]; exact t3, fun i hi => by rw [eM 195 (by omega) (by omega) (by omega), eN 5 (by omega)]; exact t4 i hi⟩⟩
  · rcases h2 with ⟨g1, g2⟩ | ⟨g1, g2, g3⟩
    · exact Or.inl ⟨by rw [eM0]; exact g1, by rw [eN0 4 (by omega)]; exact g2⟩
    · refine Or.inr ⟨by rw [eM0]; exact g1, by rw [eN0 4 (by omega)]; exact g2, DE_frame g3 (fun k k1 k2 => eM k (by omega) (by omega) (by omega)) (fun i _ => by rw [eN 3 (by omega)])⟩
  · have hb : 86 ≤ p i ∧ p i ≤ 167 := by rcases p2.1 i (by omega) with e | e | e | e <;> omega
    exact DE_frame (p6 i hi) (fun k k1 k2 => eM k (by omega) (by omega) (by omega)) (fun j _ => by rw [eN 2 (by omega)])
/-- a state is recorded, on both sides -/
theorem Rel_rec {M N : ps_M} (hR : Rel M N) : Rel (fv_X3_remember 1 M) (fv_X6_records N) ∧ (∀ i, 1 ≤ i → i < 28 → fv_X3_remember 1 M i = M i) ∧ (∀ i, 194 ≤ i → fv_X3_remember 1 M i = M i) ∧ fv_X6_records N 1 = N 1 ∧ fv_X6_records N 6 = N 6 ∧ fv_X6_records N 0 9 = N 0 9 ∧ ok_X3_remember 1 M ∧ ok_X6_records N := by
  obtain ⟨h1, h2, ⟨n, p, p1, p2, p3, p4, p5, p6⟩, ⟨m, t1, t2, t3, t4⟩⟩ := hR
  obtain ⟨p', n', a1, a2, a3, a4, a5, a6, a7, a8, a9⟩ := hs_remember p2 p5 p3 p1
  obtain ⟨n2, b1, b2, b3, b4, b5, b6, b7, b8, b9⟩ := mo_records p4 p1
  have en : n2 = n' := by
    by_cases q : n < 4
    · rw [b2 q, (a3 q).1]
    · rw [b3 (by omega), (a4 (by omega)).1]
  subst en
  have hb : ∀ i, i < 4 → 86 ≤ p' i ∧ p' i ≤ 167 := fun i hi => by rcases a1.1 i hi with e | e | e | e <;> omega
  have hb2 := hb n2 a2
  refine ⟨⟨?_, ?_, ⟨n2 + 1, p', by omega, a1, a6, b6, a7, fun i hi => ?_⟩, ⟨m, t1, by rw [a5 194 (by omega) (by omega) (by omega)]; exact t2, by rw [b5 7 (by omega)]; exact t3, fun i hi => by rw [a5 195 (by omega) (by omega) (by omega), b4 5 (by omega) (by omega)]; exact t4 i hi⟩⟩, fun i i1 i2 => a5 i (by omega) (by omega) (by omega), fun i i1 => a5 i (by omega) (by omega) (by omega), b4 1 (by omega) (by omega), b4 6 (by omega) (by omega), b5 9 (by omega), a9, b9⟩
  · exact DE_frame h1 (fun k k1 k2 => a5 k (by omega) (by omega) (by omega)) (fun i _ => by rw [b4 1 (by omega) (by omega)])
  · rcases h2 with ⟨g1, g2⟩ | ⟨g1, g2, g3⟩
    · exact Or.inl ⟨by rw [a5 0 (by omega) (by omega) (by omega)]; exact g1, by rw [b5 4 (by omega)]; exact g2⟩
    · exact Or.inr ⟨by rw [a5 0 (by omega) (by omega) (by omega)]; exact g1, by rw [b5 4 (by omega)]; exact g2, DE_frame g3 (fun k k1 k2 => a5 k (by omega) (by omega) (by omega)) (fun i _ => by rw [b4 3 (by omega) (by omega)])⟩
  · by_cases e : i = n2
    · subst e
      have hd := a8 (N 1) h1
      exact DE_frame hd (fun k _ _ => rfl) (fun j hj => by rw [b7 j hj])
    · have hne : p' i ≠ p' n2 := fun q => e (a1.2 i n2 (by omega) a2 q)
      have hbi := hb i (by omega)
      have hv1 := a1.1 i (by omega)
      have hv2 := a1.1 n2 a2
      have hfr : ∀ k, p' i ≤ k → k < p' i + 27 → fv_X3_remember 1 M k = M k := fun k k1 k2 => a5 k (by omega) (by omega) (by omega)
      by_cases q : n < 4
      · obtain ⟨e1, e2⟩ := a3 q
        subst e2
        have hd := p6 i (by omega)
        exact DE_frame hd hfr (fun j hj => by rw [b8 _ (by omega), if_neg (by omega)])
      · obtain ⟨e1, e2⟩ := a4 (by omega)
        have ep : p' i = p (i + 1) := by rw [e2]; unfold pq_rot; rw [if_pos (by omega)]
        have hd := p6 (i + 1) (by omega)
        rw [← ep] at hd
        exact DE_frame hd hfr (fun j hj => by
          rw [b8 _ (by omega), if_pos (by omega)]
          congr 1; omega)
