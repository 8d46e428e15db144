/-! ===== the clerks' turns ===== -/
theorem s_free {k : Nat} {M : ps_M} (h : ¬ fv_X1_isFree k M = 0) : M k 2 = -5 ∧ M k 5 ≤ 0 := by
  unfold fv_X1_isFree fv_X1_isOnDuty fv_X1_rests at h
  by_cases q : M k 2 = -5
  · by_cases q2 : M k 5 ≤ 0
    · exact ⟨q, q2⟩
    · rw [if_pos q, if_pos rfl, if_neg q2] at h
      exact absurd (by decide) h
  · rw [if_neg q, if_neg (by decide)] at h
    exact absurd rfl h
theorem s_free1 {k : Nat} {M : ps_M} (h2 : M k 2 = -5) (h5 : M k 5 ≤ 0) : fv_X1_isFree k M = 1 := by
  unfold fv_X1_isFree fv_X1_isOnDuty fv_X1_rests
  rw [if_pos h2, if_pos rfl, if_pos h5, if_pos rfl]
theorem s_free0 {k : Nat} {M : ps_M} (h : ¬ (M k 2 = -5 ∧ M k 5 ≤ 0)) : fv_X1_isFree k M = 0 := by
  by_cases q : fv_X1_isFree k M = 0
  · exact q
  · exact absurd (s_free q) h
theorem s_must0 {k : Nat} {M : ps_M} (h : fv_X1_mustLeave k M = 0) : M k 2 = -5 ∨ M k 3 < M k 1 := by
  unfold fv_X1_mustLeave fv_X1_isOnDuty at h
  by_cases q : M k 2 = -5
  · exact Or.inl q
  · rw [if_neg q, if_neg (by decide)] at h
    by_cases q2 : M k 3 < M k 1
    · exact Or.inr q2
    · rw [if_neg q2] at h
      exact absurd h (by decide)
theorem s_must1 {k : Nat} {M : ps_M} (h : ¬ fv_X1_mustLeave k M = 0) : ¬ M k 2 = -5 := by
  intro q
  apply h
  unfold fv_X1_mustLeave fv_X1_isOnDuty
  rw [if_pos q, if_pos rfl]
theorem s_leave (k : Nat) (v : Int32) (M : ps_M) : (∀ i, i ≠ k → fv_X1_leaveDuty k v M i = M i) ∧ fv_X1_leaveDuty k v M k = upd (upd (upd (M k) 2 (-5)) 3 0) 5 v := by
  unfold fv_X1_leaveDuty
  exact ⟨fun i hi => (ps_st_ne hi).trans ((ps_st_ne hi).trans (ps_st_ne hi)), by rw [ps_st_self, ps_st_self, ps_st_self]⟩
theorem s_come (k : Nat) (v : Int32) (M : ps_M) : (∀ i, i ≠ k → fv_X1_comeTo k v M i = M i) ∧ fv_X1_comeTo k v M k = upd (M k) 2 v := by
  unfold fv_X1_comeTo
  exact ⟨fun i hi => ps_st_ne hi, ps_st_self⟩
theorem upd_loc {f g : Nat → Int32} {n : Nat} (h : ∀ j, j < n → f j = g j) (i : Nat) {v v' : Int32} (hv : v = v') : ∀ j, j < n → upd f i v j = upd g i v' j := by
  intro j hj
  unfold upd
  by_cases q : j = i
  · rw [if_pos q, if_pos q, hv]
  · rw [if_neg q, if_neg q, h j hj]
theorem EQ_ck {M M' N N' : ps_M} {d e c : Nat} (hE : EQ M d N e) (hc : c < 12) (hM : ∀ k, k ≠ d + 14 + 1 + c → M' k = M k) (hN : ∀ k, k ≠ e + 14 + 1 + c → N' k = N k) (hr : ∀ j, j < 6 → M' (d + 14 + 1 + c) j = N' (e + 14 + 1 + c) j) : EQ M' d N' e := by
  refine ⟨fun j hj => by rw [hM d (by omega), hN e (by omega)]; exact hE.1 j hj, fun s hs => ⟨fun j h1 h2 => by rw [hM _ (by omega), hN _ (by omega)]; exact (hE.2.1 s hs).1 j h1 h2, fun t ht => by rw [hM _ (by omega), hN _ (by omega)]; exact (hE.2.1 s hs).2 t ht⟩, fun c' hc' j hj => ?_⟩
  by_cases q : c' = c
  · subst q; exact hr j hj
  · rw [hM _ (by omega), hN _ (by omega)]; exact hE.2.2 c' hc' j hj
theorem ff_loop {M N : ps_M} {d e h a b : Nat} (hE : EQ M d N e) (hM : HD M d h a b) : ∀ (k c n : Nat) (x : Int32), c + k = b → k < n → (x = -5 ∨ ∃ m, m < c ∧ x = nI m ∧ ¬ fv_X1_isFree (d + 14 + 1 + m) M = 0) → fv_X2_firstFree_5 n d x (nI c) M = fv_X2_firstFree_5 n e x (nI c) N ∧ ok_X2_firstFree_5 n d x (nI c) M ∧ (fv_X2_firstFree_5 n d x (nI c) M = -5 ∨ ∃ m, m < b ∧ fv_X2_firstFree_5 n d x (nI c) M = nI m ∧ ¬ fv_X1_isFree (d + 14 + 1 + m) M = 0) := by
  have hN := HD_EQ hE hM
  have hb := hM.2.2.2
  intro k
  induction k with
  | zero =>
    intro c n x h1 h2 h3
    cases n with
    | zero => omega
    | succ n =>
      have hcb : c = b := by omega
      subst hcb
      rw [fv_X2_firstFree_5_s, fv_X2_firstFree_5_s, ok_X2_firstFree_5_s, hM.1.2.2, hN.1.2.2]
      simp only [pq_leT (show ¬ c < c by omega) (by omega) (by omega), if_true, true_implies, not_true_eq_false, false_implies, and_true, true_and]
      exact h3
  | succ k ih =>
    intro c n x h1 h2 h3
    cases n with
    | zero => omega
    | succ n =>
      have v1 : vp_in (nI c) 12 := pq_vin (by omega) (by omega)
      have f1 := e_isFree hE (c := c) (by omega)
      have f2 := ok_free (d + 14 + 1 + c) M
      have i1 := ih (c + 1) n x (by omega) (by omega) (by
        rcases h3 with q | ⟨m, m1, m2⟩
        · exact Or.inl q
        · exact Or.inr ⟨m, by omega, m2⟩)
      rw [fv_X2_firstFree_5_s, fv_X2_firstFree_5_s, ok_X2_firstFree_5_s, hM.1.2.2, hN.1.2.2]
      by_cases q : fv_X1_isFree (d + 14 + 1 + c) M = 0
      · simp only [pq_leF (show c < b by omega) (by omega), pq_nI (show c < 4000 by omega), pq_nIadd1, ← f1, q, v1, f2, if_true, if_false, true_implies, false_implies, not_true_eq_false, not_false_eq_true, true_and, and_true]
        exact i1
      · have i2 := ih (c + 1) n (nI c) (by omega) (by omega) (Or.inr ⟨c, by omega, rfl, q⟩)
        rcases h3 with z | ⟨m, m1, m2, m3⟩
        · simp only [pq_leF (show c < b by omega) (by omega), pq_nI (show c < 4000 by omega), pq_nIadd1, ← f1, q, z, v1, f2, fv_X2_firstFree_40, ok_X2_firstFree_40, if_true, if_false, true_implies, false_implies, not_true_eq_false, not_false_eq_true, true_and, and_true]
          exact i2
        · have hz : ¬ x = -5 := by rw [m2]; exact fun w => pq_ne5 (by omega) w.symm
          have b1 : fv_X2_comesBefore d (nI c) x M = fv_X2_comesBefore e (nI c) x N := by rw [m2]; exact e_before hE (by omega) (by omega)
          have b2 : ok_X2_comesBefore d (nI c) x M := ⟨v1, by rw [m2]; exact pq_vin (by omega) (by omega), trivial⟩
          by_cases w : fv_X2_comesBefore d (nI c) x M = 0
          · simp only [pq_leF (show c < b by omega) (by omega), pq_nI (show c < 4000 by omega), pq_nIadd1, ← f1, q, hz, v1, f2, ← b1, b2, w, fv_X2_firstFree_40, ok_X2_firstFree_40, if_true, if_false, true_implies, false_implies, not_true_eq_false, not_false_eq_true, true_and, and_true]
            exact i1
          · simp only [pq_leF (show c < b by omega) (by omega), pq_nI (show c < 4000 by omega), pq_nIadd1, ← f1, q, hz, v1, f2, ← b1, b2, w, fv_X2_firstFree_40, ok_X2_firstFree_40, if_true, if_false, true_implies, false_implies, not_true_eq_false, not_false_eq_true, true_and, and_true]
            exact i2
theorem ff_first {M N : ps_M} {d e h a b : Nat} (hE : EQ M d N e) (hM : HD M d h a b) : fv_X2_firstFree d M = fv_X2_firstFree e N ∧ ok_X2_firstFree d M ∧ (fv_X2_firstFree d M = -5 ∨ ∃ m, m < b ∧ fv_X2_firstFree d M = nI m ∧ ¬ fv_X1_isFree (d + 14 + 1 + m) M = 0) :=
  ff_loop hE hM b 0 ps_FU (-5) (by omega) (pq_fu (by have := hM.2.2.2; omega)) (Or.inl rfl)
/-- clerks in the midst of an hour: those before i have had their turn -/
def pKm (a b w i : Nat) (c : Nat) (f : Nat → Int32) : Prop := (c < b → KI a w (if c < i then 1 else 0) 2 f) ∧ (¬ c < b → FK f)
theorem KI_leave {a w : Nat} {e q : Int} {f : Nat → Int32} (k : KI a w e q f) {v : Int32} (q' : Int) (hv : 0 ≤ v.toInt ∧ v.toInt ≤ q') : KI a w 1 q' (upd (upd (upd f 2 (-5)) 3 0) 5 v) := by
  obtain ⟨k1, k2, k3, ⟨k4, k5, k6⟩, k7, k8⟩ := k
  refine ⟨k1, k2, Or.inl ⟨rfl, rfl⟩, ?_, k7, hv⟩
  show 0 ≤ (0 : Int32).toInt ∧ (0 : Int32).toInt + 1 ≤ (f 1).toInt ∧ (0 : Int32).toInt ≤ (f 4).toInt
  rw [Int32.toInt_zero]
  omega
theorem KI_come {a w : Nat} {e q : Int} {f : Nat → Int32} (k : KI a w e q f) (h2 : f 2 = -5) (h5 : f 5 ≤ 0) {s : Nat} (hs : s < a) (ha : a ≤ 6) (q' : Int) (hq : 0 ≤ q') : KI a w 1 q' (upd f 2 (nI s)) := by
  obtain ⟨k1, k2, k3, ⟨k4, k5, k6⟩, k7, k8, k9⟩ := k
  have f3 : f 3 = 0 := by
    rcases k3 with g | ⟨-, t, ht, g⟩
    · exact g.2
    · rw [h2] at g; exact absurd g (pq_ne5 (by omega))
  have f5 : f 5 = 0 := by
    rw [pq_le, Int32.toInt_zero] at h5
    rw [pq_eq, Int32.toInt_zero]; omega
  refine ⟨k1, k2, Or.inr ⟨f5, s, hs, rfl⟩, ?_, k7, ?_⟩
  · show 0 ≤ (f 3).toInt ∧ (f 3).toInt + 1 ≤ (f 1).toInt ∧ (f 3).toInt ≤ (f 4).toInt
    rw [f3, Int32.toInt_zero]; rw [f3, Int32.toInt_zero] at k6; omega
  · show 0 ≤ (f 5).toInt ∧ (f 5).toInt ≤ q'
    rw [f5, Int32.toInt_zero]; omega
/-- the clerk i has had their turn -/
theorem DY_turned {M M' : ps_M} {d h a b w i : Nat} {S : Nat → (Nat → Int32) → (Nat → Int32) → Prop} (hx : DY M d h a b S (pKm a b w i)) (hi : i < b) (hb : b ≤ 12) (hM : ∀ k, k ≠ d + 14 + 1 + i → M' k = M k) (hn : KI a w 1 2 (M' (d + 14 + 1 + i))) : DY M' d h a b S (pKm a b w (i + 1)) := by
  refine DY_ck hx (c := i) (by omega) hM (fun c' hc' _ f hf => ⟨fun q => ?_, hf.2⟩) ⟨fun _ => by rw [if_pos (by omega)]; exact hn, fun q => absurd hi q⟩
  have := hf.1 q
  by_cases z : c' < i
  · rw [if_pos z] at this; rw [if_pos (by omega)]; exact this
  · rw [if_neg z] at this; rw [if_neg (by omega)]; exact this
theorem h_turn {d e h a b w : Nat} {S : Nat → (Nat → Int32) → (Nat → Int32) → Prop} : ∀ (k i n : Nat) (M N : ps_M), i + k = b → k < n → DY M d h a b S (pKm a b w i) → EQ M d N e → ok_X2_changeClerks_2 n d (nI i) M ∧ (∀ k, (k < d + 15 ∨ d + 27 ≤ k) → fv_X2_changeClerks_2 n d (nI i) M k = M k) ∧ DY (fv_X2_changeClerks_2 n d (nI i) M) d h a b S (pKm a b w b) ∧ (∀ c, c < 12 → M (d + 14 + 1 + c) 2 = -5 → M (d + 14 + 1 + c) 5 = 1 → fv_X2_changeClerks_2 n d (nI i) M (d + 14 + 1 + c) 2 = -5 ∧ fv_X2_changeClerks_2 n d (nI i) M (d + 14 + 1 + c) 5 = 1) ∧ EQ (fv_X2_changeClerks_2 n d (nI i) M) d (fv_X2_changeClerks_2 n e (nI i) N) e := by
  intro k
  induction k with
  | zero =>
    intro i n M N h1 h2 hx hE
    cases n with
    | zero => omega
    | succ n =>
      have hM := hx.1
      have hN := HD_EQ hE hM
      have hb := hM.2.2.2
      have hib : i = b := by omega
      subst hib
      rw [fv_X2_changeClerks_2_s, fv_X2_changeClerks_2_s, ok_X2_changeClerks_2_s, hM.1.2.2, hN.1.2.2]
      simp only [pq_leT (show ¬ i < i by omega) (by omega) (by omega), if_true, true_implies, not_true_eq_false, false_implies, and_true, true_and]
      exact ⟨fun _ _ => trivial, hx, fun c _ g1 g2 => ⟨g1, g2⟩, hE⟩
  | succ k ih =>
    intro i n M N h1 h2 hx hE
    cases n with
    | zero => omega
    | succ n =>
      have hM := hx.1
      have hN := HD_EQ hE hM
      have hb := hM.2.2.2
      have ha := hM.2.2.1
      have hi : i < b := by omega
      have v1 : vp_in (nI i) 12 := pq_vin (by omega) (by omega)
      have m1 := e_must hE (c := i) (by omega)
      have m2 : ok_X1_mustLeave (d + 14 + 1 + i) M := ⟨trivial, trivial⟩
      have hk := (hx.2.2 i (by omega)).1 hi
      rw [if_neg (by omega)] at hk
      rw [fv_X2_changeClerks_2_s, fv_X2_changeClerks_2_s, ok_X2_changeClerks_2_s, hM.1.2.2, hN.1.2.2]
      simp only [pq_leF (show i < b by omega) (by omega), pq_nI (show i < 4000 by omega), pq_nIadd1, ← m1, v1, m2, if_false, false_implies, not_false_eq_true, true_implies, true_and]
      by_cases q : fv_X1_mustLeave (d + 14 + 1 + i) M = 0
      · -- no turn
        have hx1 : DY M d h a b S (pKm a b w (i + 1)) := DY_turned hx hi hb (fun _ _ => rfl) (by
          obtain ⟨k1, k2, k3, ⟨k4, k5, k6⟩, k7⟩ := hk
          refine ⟨k1, k2, k3, ⟨k4, ?_, k6⟩, k7⟩
          rcases s_must0 q with z | z
          · rcases k3 with g | ⟨-, t, ht, g⟩
            · rw [g.2, Int32.toInt_zero]; omega
            · rw [z] at g; exact absurd g (pq_ne5 (by omega))
          · rw [pq_lt] at z; omega)
        have r := ih (i + 1) n M N (by omega) (by omega) hx1 hE
        simp only [q, if_true, if_false, true_implies, false_implies, not_true_eq_false, not_false_eq_true, true_and, and_true]
        exact r
      · have hne := s_must1 q
        obtain ⟨l1, l2⟩ := s_leave (d + 14 + 1 + i) 2 M
        obtain ⟨l3, l4⟩ := s_leave (e + 14 + 1 + i) 2 N
        have eS : M (d + 14 + 1 + i) 2 = N (e + 14 + 1 + i) 2 := hE.2.2 i (by omega) 2 (by omega)
        have hEL : EQ (fv_X1_leaveDuty (d + 14 + 1 + i) 2 M) d (fv_X1_leaveDuty (e + 14 + 1 + i) 2 N) e := EQ_ck hE (c := i) (by omega) l1 l3 (fun j hj => by
          rw [l2, l4]
          exact upd_loc (upd_loc (upd_loc (hE.2.2 i (by omega)) 2 rfl) 3 rfl) 5 rfl j hj)
        have hxL : DY (fv_X1_leaveDuty (d + 14 + 1 + i) 2 M) d h a b S (pKm a b w (i + 1)) := DY_turned hx hi hb l1 (by rw [l2]; exact KI_leave hk 2 (by decide))
        have oL : ok_X1_leaveDuty (d + 14 + 1 + i) 2 M = True := eq_true trivial
        -- those who rest are not the one who leaves
        have hR : ∀ c, c < 12 → M (d + 14 + 1 + c) 2 = -5 → M (d + 14 + 1 + c) 5 = 1 → fv_X1_leaveDuty (d + 14 + 1 + i) 2 M (d + 14 + 1 + c) 2 = -5 ∧ fv_X1_leaveDuty (d + 14 + 1 + i) 2 M (d + 14 + 1 + c) 5 = 1 := fun c hc g1 g2 => by
          have : c ≠ i := fun z => hne (by rw [← z]; exact g1)
          rw [l1 _ (by omega)]; exact ⟨g1, g2⟩
        obtain ⟨t, hts, hst⟩ : ∃ t, t < a ∧ M (d + 14 + 1 + i) 2 = nI t := by
          rcases hk.2.2.1 with g | ⟨-, t, ht, g⟩
          · exact absurd g.1 hne
          · exact ⟨t, ht, g⟩
        generalize fv_X1_leaveDuty (d + 14 + 1 + i) 2 M = ML at l1 l2 hEL hxL hR
        generalize fv_X1_leaveDuty (e + 14 + 1 + i) 2 N = NL at l3 l4 hEL
        obtain ⟨f1, f2, f3⟩ := ff_first hEL hxL.1
        by_cases z : fv_X2_firstFree d ML = -5
        · have r := ih (i + 1) n ML NL (by omega) (by omega) hxL hEL
          simp only [q, oL, ← f1, f2, z, if_true, if_false, true_implies, false_implies, not_true_eq_false, not_false_eq_true, true_and, and_true]
          obtain ⟨r1, r2, r3, r4, r5⟩ := r
          exact ⟨r1, fun k hk => (r2 k hk).trans (l1 k (by omega)), r3, fun c hc g1 g2 => r4 c hc (hR c hc g1 g2).1 (hR c hc g1 g2).2, r5⟩
        · obtain ⟨m, hm, em, hfree⟩ := f3.resolve_left z
          obtain ⟨p2, p5⟩ := s_free hfree
          obtain ⟨c1, c2⟩ := s_come (d + 14 + 1 + m) (M (d + 14 + 1 + i) 2) ML
          obtain ⟨c3, c4⟩ := s_come (e + 14 + 1 + m) (N (e + 14 + 1 + i) 2) NL
          have v2 : vp_in (nI m) 12 := pq_vin (by omega) (by omega)
          have oC : ok_X1_comeTo (d + 14 + 1 + m) (M (d + 14 + 1 + i) 2) ML := trivial
          have hxC : DY (fv_X1_comeTo (d + 14 + 1 + m) (M (d + 14 + 1 + i) 2) ML) d h a b S (pKm a b w (i + 1)) := by
            refine DY_ck hxL (c := m) (by omega) c1 (fun c' _ _ f hf => hf) ⟨fun _ => ?_, fun y => absurd hm y⟩
            rw [c2, hst]
            have hkm := (hxL.2.2 m (by omega)).1 hm
            have hc := KI_come hkm p2 p5 hts ha 2 (by omega)
            by_cases y : m < i + 1
            · rw [if_pos y]; exact hc
            · rw [if_neg y]
              obtain ⟨y1, y2, y3, ⟨y4, y5, y6⟩, y7⟩ := hc
              exact ⟨y1, y2, y3, ⟨y4, by omega, y6⟩, y7⟩
          have hEC : EQ (fv_X1_comeTo (d + 14 + 1 + m) (M (d + 14 + 1 + i) 2) ML) d (fv_X1_comeTo (e + 14 + 1 + m) (N (e + 14 + 1 + i) 2) NL) e := EQ_ck hEL (c := m) (by omega) c1 c3 (fun j hj => by
            rw [c2, c4]
            exact upd_loc (hEL.2.2 m (by omega)) 2 eS j hj)
          have r := ih (i + 1) n _ _ (by omega) (by omega) hxC hEC
          simp only [q, pq_nI (show m < 4000 by omega), pq_nIadd1, v2, oL, oC, ← f1, f2, em, show (nI m = (-5 : Int32)) = False from eq_false (fun y => pq_ne5 (by omega) y.symm), fv_X2_changeClerks_63, ok_X2_changeClerks_63, if_true, if_false, true_implies, false_implies, not_true_eq_false, not_false_eq_true, true_and, and_true]
          obtain ⟨r1, r2, r3, r4, r5⟩ := r
          refine ⟨r1, fun k hk => (r2 k hk).trans ((c1 k (by omega)).trans (l1 k (by omega))), r3, fun c hc g1 g2 => ?_, r5⟩
          obtain ⟨w1, w2⟩ := hR c hc g1 g2
          have hcm : c ≠ m := by
            intro y
            rw [← y, pq_le, w2] at p5
            exact absurd p5 (by decide)
          exact r4 c hc (by rw [c1 _ (by omega)]; exact w1) (by rw [c1 _ (by omega)]; exact w2)
