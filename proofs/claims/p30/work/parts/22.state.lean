/-! ===== undo, keep, restore ===== -/
theorem st_undo {M : ps_M} {n : Nat} {H : Nat → ps_M} {k : Prop} {S : ps_M} (h : ST M (n + 1) H k S) : ok_X5_undo M ∧ (fv_X5_undo M).1 = nI n ∧ ST (fv_X5_undo M).2 n H k S ∧ EQ (fv_X5_undo M).2 1 (H n) 1 ∧ (∀ i, 28 ≤ i → i ≠ 84 → (fv_X5_undo M).2 i = M i) := by
  obtain ⟨⟨h1, p, h2, h3, h4, h5⟩, g1, g2⟩ := h
  have hb : ∀ i, i < 4 → 86 ≤ p i ∧ p i ≤ 167 := fun i hi => by rcases h2.1 i hi with e | e | e | e <;> omega
  have hbn := hb n (by omega)
  have hpos : 0 < M 84 1 := by rw [h3]; exact nI_lt (a := 0) (b := n + 1) (by omega) (by omega)
  have hnle : ¬ M 84 1 ≤ 0 := by
    intro q; rw [pq_le] at q; rw [pq_lt] at hpos; omega
  have e1 : M 84 1 - 1 = nI n := by rw [h3]; exact pq_sub1 n
  have e2 : ps_st M 84 1 (nI n) 84 1 = nI n := pq_stself
  have e3 : ps_st M 84 1 (nI n) 85 n = nI (p n) := by rw [pq_stne (Or.inl (by omega))]; exact h4 n (by omega)
  obtain ⟨cp, ok⟩ := cp_day (M := ps_st M 84 1 (nI n)) (d := 1) (e := p n) (by omega)
  have eT : fv_X3_takeBackInto 1 M = fv_X2_copyFrom 1 (p n) (ps_st M 84 1 (nI n)) := by
    unfold fv_X3_takeBackInto
    rw [if_neg hnle, e1, e2, pq_nI (show n < 4000 by omega), e3, pq_nI (show p n < 4000 by omega)]
  have eU : fv_X5_undo M = (nI n, fv_X2_copyFrom 1 (p n) (ps_st M 84 1 (nI n))) := by
    unfold fv_X5_undo
    rw [if_pos hpos, eT, cp.1 84 (by omega), e2]
  have okU : ok_X5_undo M := by
    refine ⟨fun _ => ⟨?_, trivial⟩, fun _ => trivial⟩
    unfold ok_X3_takeBackInto
    rw [e1, e2, pq_nI (show n < 4000 by omega), e3, pq_nI (show p n < 4000 by omega)]
    exact ⟨fun q => absurd q hnle, fun _ => ⟨pq_vin (by omega) (by omega), HP_kd h2 (by omega), ok, trivial⟩⟩
  have eq2 : EQ (ps_st M 84 1 (nI n)) (p n) M (p n) := EQ_frame (fun j j1 j2 => ps_st_ne (by omega))
  have st84 : ∀ i, i ≠ 84 → ps_st M 84 1 (nI n) i = M i := fun i hi => ps_st_ne hi
  rw [eU]
  generalize fv_X2_copyFrom 1 (p n) (ps_st M 84 1 (nI n)) = C at cp ⊢
  have fr : ∀ i, (i < 1 ∨ 28 ≤ i) → i ≠ 84 → C i = M i := fun i hi h84 => (cp.1 i (by omega)).trans (st84 i h84)
  have f84 : C 84 1 = nI n := by rw [cp.1 84 (by omega), e2]
  refine ⟨okU, rfl, ⟨⟨by omega, p, h2, f84, fun i hi => (congrFun (fr 85 (by omega) (by omega)) i).trans (h4 i hi), fun i hi => ?_⟩, fun q => ⟨(congrFun (fr 0 (by omega) (by omega)) 3).trans (g1 q).1, (EQ_frame (fun j j1 j2 => fr j (by omega) (by omega))).trans (g1 q).2⟩, fun q => (congrFun (fr 0 (by omega) (by omega)) 3).trans (g2 q)⟩, ((CP_EQ cp).trans eq2).trans (h5 n (by omega)), fun i hi h84 => fr i (by omega) h84⟩
  have hbi := hb i (by omega)
  exact (EQ_frame (fun j j1 j2 => fr j (by omega) (by omega))).trans (h5 i (by omega))
theorem st_undo0 {M : ps_M} (h : M 84 1 = 0) : fv_X5_undo M = (-5, M) ∧ ok_X5_undo M := by
  have hn : ¬ 0 < M 84 1 := by rw [h]; decide
  unfold fv_X5_undo ok_X5_undo
  rw [if_neg hn]
  exact ⟨rfl, fun q => absurd q hn, fun _ => trivial⟩
theorem st_keep {M : ps_M} {n : Nat} {H : Nat → ps_M} {k : Prop} {S : ps_M} (h : ST M n H k S) : ok_X5_keep M ∧ (fv_X5_keep M).1 = M 1 0 ∧ ST (fv_X5_keep M).2 n H True M ∧ EQ (fv_X5_keep M).2 1 M 1 ∧ (∀ i, 82 ≤ i → (fv_X5_keep M).2 i = M i) := by
  obtain ⟨⟨h1, p, h2, h3, h4, h5⟩, g1, g2⟩ := h
  obtain ⟨cp, ok⟩ := cp_day (M := M) (d := 55) (e := 1) (by omega)
  have eK : fv_X5_keep M = (ps_st (fv_X2_copyFrom 55 1 M) 0 3 1 1 0, ps_st (fv_X2_copyFrom 55 1 M) 0 3 1) := rfl
  have okK : ok_X5_keep M := ⟨ok, trivial⟩
  rw [eK]
  generalize fv_X2_copyFrom 55 1 M = C at cp ⊢
  have e1 : ps_st C 0 3 1 1 0 = M 1 0 := by rw [pq_stne (Or.inl (by omega)), cp.1 1 (by omega)]
  have st0 : ∀ i, i ≠ 0 → ps_st C 0 3 1 i = C i := fun i hi => ps_st_ne hi
  have f0 : ps_st C 0 3 1 0 3 = 1 := pq_stself
  generalize ps_st C 0 3 1 = Z at e1 st0 f0 ⊢
  have fr : ∀ i, (i < 55 ∨ 82 ≤ i) → i ≠ 0 → Z i = M i := fun i hi h0 => (st0 i h0).trans (cp.1 i (by omega))
  refine ⟨okK, e1, ⟨⟨h1, p, h2, (congrFun (fr 84 (by omega) (by omega)) 1).trans h3, fun i hi => (congrFun (fr 85 (by omega) (by omega)) i).trans (h4 i hi), fun i hi => ?_⟩, fun _ => ⟨f0, (EQ_frame (fun j j1 j2 => st0 j (by omega))).trans (CP_EQ cp)⟩, fun q => absurd trivial q⟩, EQ_frame (fun j j1 j2 => fr j (by omega) (by omega)), fun i hi => fr i (by omega) (by omega)⟩
  have hb : 86 ≤ p i ∧ p i ≤ 167 := by rcases h2.1 i (by omega) with e | e | e | e <;> omega
  exact (EQ_frame (fun j j1 j2 => fr j (by omega) (by omega))).trans (h5 i hi)
theorem st_restore {M : ps_M} {n : Nat} {H : Nat → ps_M} {S : ps_M} (h : ST M n H True S) : ok_X5_restore M ∧ (fv_X5_restore M).1 = S 1 0 ∧ ST (fv_X5_restore M).2 (h_len n) (h_push n H M) True S ∧ EQ (fv_X5_restore M).2 1 S 1 ∧ (∀ i, 194 ≤ i → (fv_X5_restore M).2 i = M i) := by
  obtain ⟨s1, s2, s3⟩ := ST_rem h
  have h03 : M 0 3 = 1 := (h.2.1 trivial).1
  have hne : ¬ M 0 3 = 0 := by rw [h03]; decide
  obtain ⟨cp, ok⟩ := cp_day (M := fv_X3_remember 1 M) (d := 1) (e := 55) (by omega)
  have eR : fv_X5_restore M = (fv_X2_copyFrom 1 55 (fv_X3_remember 1 M) 1 0, fv_X2_copyFrom 1 55 (fv_X3_remember 1 M)) := by
    unfold fv_X5_restore
    rw [if_neg hne]
  have eq1 : EQ (fv_X2_copyFrom 1 55 (fv_X3_remember 1 M)) 1 S 1 := (CP_EQ cp).trans (s1.2.1 trivial).2
  have okR : ok_X5_restore M := ⟨fun q => absurd q hne, fun _ => ⟨s3, ok, trivial⟩⟩
  rw [eR]
  generalize fv_X2_copyFrom 1 55 (fv_X3_remember 1 M) = C at cp eq1 ⊢
  refine ⟨okR, eq1.1 0 (by omega), ST_frame s1 (fun i i1 i2 i3 => cp.1 i (by omega)), eq1, fun i hi => ?_⟩
  exact (cp.1 i (by omega)).trans (s2 i (by omega))
theorem st_restore0 {M : ps_M} (h : M 0 3 = 0) : fv_X5_restore M = (-5, M) ∧ ok_X5_restore M := by
  unfold fv_X5_restore ok_X5_restore
  rw [if_pos h]
  exact ⟨rfl, fun _ => trivial, fun q => absurd h q⟩
