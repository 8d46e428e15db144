/-! ===== the turns and the whole hour ===== -/
theorem K_less {a h : Nat} {e e' : Int} {ad : Prop} {f r : Nat → Int32} (he : e' ≤ e) (hk : pq_K a h e ad f r) : pq_K a h e' ad f r := by
  obtain ⟨k1, k2, k3, k4, k5, k6⟩ := hk
  exact ⟨k1, k2, fun z => ⟨(k3 z).1, (k3 z).2.1, by have := (k3 z).2.2; omega⟩, k4, k5, k6⟩
theorem DX_leave2 {M N : ps_M} {d h a b : Nat} {S : Nat → (Nat → Int32) → (Nat → Int32) → (Nat → Int32) → Prop} {K K' : Nat → (Nat → Int32) → (Nat → Int32) → Prop} (hx : DX M d (N 1) h a b S K) {c : Nat} {v : Int32} (hc : c < 12) (hKK : ∀ c', c' ≠ c → c' < 12 → ∀ f r, K c' f r → K' c' f r) (hn : K' c (upd (upd (upd (M (d + 14 + 1 + c)) 2 (-5)) 3 0) 5 v) (upd (upd (upd (pq_kv (N 1) c) 2 (-1)) 3 0) 5 v)) : DX (fv_X1_leaveDuty (d + 14 + 1 + c) v M) d (fv_X6_leaves (nI c) v N 1) h a b S K' ∧ (∀ i, i ≠ d + 14 + 1 + c → fv_X1_leaveDuty (d + 14 + 1 + c) v M i = M i) ∧ (∀ i, i ≠ 1 → fv_X6_leaves (nI c) v N i = N i) ∧ ok_X6_leaves (nI c) v N := by
  have w2 : ∀ x N', fv_X6_laysClerk (nI c) 2 x N' = ps_st N' 1 (165 + 6 * c + 2) x := fun x N' => pq_lays (j := 2) hc (by omega) x N'
  have w3 : ∀ x N', fv_X6_laysClerk (nI c) 3 x N' = ps_st N' 1 (165 + 6 * c + 3) x := fun x N' => pq_lays (j := 3) hc (by omega) x N'
  have w5 : ∀ x N', fv_X6_laysClerk (nI c) 5 x N' = ps_st N' 1 (165 + 6 * c + 5) x := fun x N' => pq_lays (j := 5) hc (by omega) x N'
  have x2 : ∀ x N', ok_X6_laysClerk (nI c) 2 x N' := fun x N' => pq_laysok (j := 2) hc (by omega) x N'
  have x3 : ∀ x N', ok_X6_laysClerk (nI c) 3 x N' := fun x N' => pq_laysok (j := 3) hc (by omega) x N'
  have x5 : ∀ x N', ok_X6_laysClerk (nI c) 5 x N' := fun x N' => pq_laysok (j := 5) hc (by omega) x N'
  unfold fv_X1_leaveDuty fv_X6_leaves ok_X6_leaves
  rw [w2, w3, w5]
  refine ⟨?_, fun i hi => (ps_st_ne hi).trans ((ps_st_ne hi).trans (ps_st_ne hi)), fun i hi => (ps_st_ne hi).trans ((ps_st_ne hi).trans (ps_st_ne hi)), ⟨x2 _ _, x3 _ _, x5 _ _, trivial⟩⟩
  refine DX_ck (K := K) hx hc (fun k hk => (ps_st_ne hk).trans ((ps_st_ne hk).trans (ps_st_ne hk))) (fun i hi => by rw [pq_stne (Or.inr (by omega)), pq_stne (Or.inr (by omega)), pq_stne (Or.inr (by omega))]) hKK ?_
  rw [ps_st_self, ps_st_self, ps_st_self, pq_kvupd (by omega), pq_kvupd (by omega), pq_kvupd (by omega)]
  exact hn
theorem h_turn {d h a b : Nat} {S : Nat → (Nat → Int32) → (Nat → Int32) → (Nat → Int32) → Prop} : ∀ (k i n1 n2 : Nat) (M N : ps_M), i + k = b → k < n1 → k < n2 → DX M d (N 1) h a b S (fun c => pq_K a h (if c < i then 1 else 0) (c < b)) → ok_X2_changeClerks_2 n1 d (nI i) M ∧ ok_X6_takesTurns_2 n2 (nI i) N ∧ FR d M N (fv_X2_changeClerks_2 n1 d (nI i) M) (fv_X6_takesTurns_2 n2 (nI i) N) ∧ DX (fv_X2_changeClerks_2 n1 d (nI i) M) d (fv_X6_takesTurns_2 n2 (nI i) N 1) h a b S (fun c => pq_K a h 1 (c < b)) := by
  have w2 : vp_in (2 : Int32) 237 := pq_vin (n := 2) (by omega) (by omega)
  intro k
  induction k with
  | zero =>
    intro i n1 n2 M N h1 h2 h3 hx
    cases n1 with
    | zero => omega
    | succ n1 =>
      cases n2 with
      | zero => omega
      | succ n2 =>
        have hb := hx.2.2.1.2.2
        rw [fv_X2_changeClerks_2_s, ok_X2_changeClerks_2_s, fv_X6_takesTurns_2_s, ok_X6_takesTurns_2_s, pq_c2, hx.1.2.2, hx.2.1.2.2]
        simp only [pq_leT (show ¬ i < b by omega) (by omega) (by omega), w2, if_true, true_implies, not_true_eq_false, false_implies, and_true, true_and]
        refine ⟨FR_refl d M N, DX_mono hx (fun s _ f g r hs => hs) (fun c _ f r hc => ?_)⟩
        by_cases q : c < i
        · rw [if_pos q] at hc; exact hc
        · obtain ⟨k1, k2, k3, k4, k5, k6⟩ := hc
          exact ⟨k1, k2, fun z => absurd z (by omega), k4, k5, k6⟩
  | succ k ih =>
    intro i n1 n2 M N h1 h2 h3 hx
    cases n1 with
    | zero => omega
    | succ n1 =>
      cases n2 with
      | zero => omega
      | succ n2 =>
        have hb := hx.2.2.1.2.2
        have ha := hx.2.2.1.2.1
        have hi : i < 12 := by omega
        have v1 : vp_in (nI i) 12 := pq_vin hi (by omega)
        have hK := hx.2.2.2.2 i hi
        dsimp only at hK
        rw [if_neg (show ¬ i < i by omega)] at hK
        have hK := K_true (show i < b by omega) hK
        have hoff := K_off ha hK
        have O1 : fv_X6_ofClerk (nI i) 1 N = pq_kv (N 1) i 1 := pq_ofK (j := 1) hi (by omega) N
        have O2 : fv_X6_ofClerk (nI i) 2 N = pq_kv (N 1) i 2 := pq_ofK (j := 2) hi (by omega) N
        have O3 : fv_X6_ofClerk (nI i) 3 N = pq_kv (N 1) i 3 := pq_ofK (j := 3) hi (by omega) N
        have Q1 : ok_X6_ofClerk (nI i) 1 N := pq_ofKok (j := 1) hi (by omega) N
        have Q2 : ok_X6_ofClerk (nI i) 2 N := pq_ofKok (j := 2) hi (by omega) N
        have Q3 : ok_X6_ofClerk (nI i) 3 N := pq_ofKok (j := 3) hi (by omega) N
        have hstep : (pq_K a h 1 True (M (d + 14 + 1 + i)) (pq_kv (N 1) i)) → DX M d (N 1) h a b S (fun c => pq_K a h (if c < i + 1 then 1 else 0) (c < b)) := by
          intro hk
          refine DX_ck hx hi (fun _ _ => rfl) (fun _ _ => rfl) (fun c hc _ f r hz => ?_) ?_
          · by_cases q : c < i
            · rw [if_pos q] at hz; rw [if_pos (by omega)]; exact hz
            · rw [if_neg q] at hz; rw [if_neg (by omega)]; exact hz
          · rw [if_pos (by omega), show (i < b) = True from eq_true (by omega)]
            exact hk
        have k3 := hK.2.2.1 trivial
        have e1 := hK.1.2.1
        have e3 := hK.1.2.2.1
        rw [fv_X2_changeClerks_2_s, ok_X2_changeClerks_2_s, fv_X6_takesTurns_2_s, ok_X6_takesTurns_2_s, pq_c2, hx.1.2.2, hx.2.1.2.2]
        simp only [pq_leF (show i < b by omega) (show b < 4000 by omega), pq_nI (show i < 4000 by omega), pq_nIadd1, v1, w2, O1, O2, O3, Q1, Q2, Q3, if_false, false_implies, not_false_eq_true, true_implies, true_and, and_true]
        by_cases q : pq_kv (N 1) i 2 = -1
        · have m0 : fv_X1_mustLeave (d + 14 + 1 + i) M = 0 := by
            unfold fv_X1_mustLeave fv_X1_isOnDuty
            rw [if_pos (hoff.mpr q), if_pos rfl]
          have r30 : (pq_kv (N 1) i 3).toInt = 0 := by
            rcases hK.2.1 with ⟨-, -, g⟩ | ⟨-, s, hs, g, g'⟩
            · rw [g]; decide
            · rw [q] at g'; exact absurd g' (pq_ne1 (s := s) (by omega))
          obtain ⟨i1, i2, i3, i4⟩ := ih (i + 1) n1 n2 M N (by omega) (by omega) (by omega) (hstep (by
            obtain ⟨j1, j2, j3, j4, j5, j6⟩ := hK
            exact ⟨j1, j2, fun _ => ⟨k3.1, k3.2.1, by omega⟩, j4, j5, j6⟩))
          have om : ok_X1_mustLeave (d + 14 + 1 + i) M := ⟨trivial, trivial⟩
          simp only [m0, om, q, i1, i2, if_true, true_implies, not_true_eq_false, false_implies, and_true, true_and]
          exact ⟨i3, i4⟩
        · have hon : ¬ (M (d + 14 + 1 + i) 2 = -5) := fun z => q (hoff.mp z)
          have om : ok_X1_mustLeave (d + 14 + 1 + i) M := ⟨trivial, trivial⟩
          have mz : (fv_X1_mustLeave (d + 14 + 1 + i) M = 0) = ¬ (pq_kv (N 1) i 3 = pq_kv (N 1) i 1) := by
            unfold fv_X1_mustLeave fv_X1_isOnDuty
            rw [if_neg hon, if_neg (by decide), e1, e3]
            by_cases g : pq_kv (N 1) i 3 < pq_kv (N 1) i 1
            · rw [if_pos g]
              rw [pq_lt] at g
              exact propext ⟨fun _ z => by rw [z] at g; omega, fun _ => rfl⟩
            · rw [if_neg g]
              rw [pq_lt] at g
              exact propext ⟨fun z => absurd z (by decide), fun z => absurd (pq_eq.mpr (by omega)) z⟩
          by_cases q3 : pq_kv (N 1) i 3 = pq_kv (N 1) i 1
          · obtain ⟨s, hs, d1, d2⟩ : ∃ s, s < a ∧ M (d + 14 + 1 + i) 2 = nI s ∧ pq_kv (N 1) i 2 = nI s := by
              rcases hK.2.1 with ⟨g, -⟩ | ⟨-, s, hs, g, g'⟩
              · exact absurd g hon
              · exact ⟨s, hs, g, g'⟩
            obtain ⟨x1, x2, x3, x4⟩ := DX_leave2 (K' := fun c => pq_K a h (if c < i + 1 then 1 else 0) (c < b)) hx (v := 2) hi (fun c hc _ f r hz => by
              by_cases q : c < i
              · rw [if_pos q] at hz; rw [if_pos (by omega)]; exact hz
              · rw [if_neg q] at hz; rw [if_neg (by omega)]; exact hz) (by
              show pq_K a h (if i < i + 1 then 1 else 0) (i < b) _ _
              rw [if_pos (by omega), show (i < b) = True from eq_true (by omega)]
              exact K_leave hK (by omega) (Or.inr (Or.inr rfl)))
            have x0 : DX (fv_X1_leaveDuty (d + 14 + 1 + i) 2 M) d (fv_X6_leaves (nI i) 2 N 1) h a b S (fun c => pq_K a h 0 (c < b)) := DX_mono x1 (fun s _ f g r hs => hs) (fun c _ f r hc => K_less (by split <;> omega) hc)
            obtain ⟨t1, t2, t3, t4⟩ := t_first x0
            have ol : ok_X1_leaveDuty (d + 14 + 1 + i) 2 M := trivial
            have hfr : FR d M N (fv_X1_leaveDuty (d + 14 + 1 + i) 2 M) (fv_X6_leaves (nI i) 2 N) := ⟨fun k hk => x2 k (by omega), x3⟩
            rcases t4 with t4 | ⟨m, hm, t4⟩
            · obtain ⟨i1, i2, i3, i4⟩ := ih (i + 1) n1 n2 _ _ (by omega) (by omega) (by omega) x1
              simp only [mz, om, ol, q, q3, x4, t1, t2, t3, t4, i1, i2, if_true, if_false, true_implies, not_true_eq_false, not_false_eq_true, false_implies, and_true, true_and]
              exact ⟨FR_trans hfr i3, i4⟩
            · have hm12 : m < 12 := by omega
              have ne5 : (nI m = (-5 : Int32)) = False := eq_false (fun z => pq_ne5 (s := m) (by omega) z.symm)
              have L2 : ∀ v N', fv_X6_laysClerk (nI m) 2 v N' = ps_st N' 1 (165 + 6 * m + 2) v := fun v N' => pq_lays (j := 2) hm12 (by omega) v N'
              have B2 : ∀ v N', ok_X6_laysClerk (nI m) 2 v N' := fun v N' => pq_laysok (j := 2) hm12 (by omega) v N'
              have v2 : vp_in (nI m) 12 := pq_vin hm12 (by omega)
              have x5 : DX (ps_st (fv_X1_leaveDuty (d + 14 + 1 + i) 2 M) (d + 14 + 1 + m) 2 (nI s)) d (ps_st (fv_X6_leaves (nI i) 2 N) 1 (165 + 6 * m + 2) (nI s) 1) h a b S (fun c => pq_K a h (if c < i + 1 then 1 else 0) (c < b)) := by
                refine DX_setK (K := fun c => pq_K a h (if c < i + 1 then 1 else 0) (c < b)) x1 hm12 (by omega) ?_
                have := x1.2.2.2.2 m hm12
                dsimp only at this ⊢
                rw [show (m < b) = True from eq_true hm] at this ⊢
                exact K_come this hs
              obtain ⟨i1, i2, i3, i4⟩ := ih (i + 1) n1 n2 _ _ (by omega) (by omega) (by omega) x5
              have hfr2 : FR d (fv_X1_leaveDuty (d + 14 + 1 + i) 2 M) (fv_X6_leaves (nI i) 2 N) (ps_st (fv_X1_leaveDuty (d + 14 + 1 + i) 2 M) (d + 14 + 1 + m) 2 (nI s)) (ps_st (fv_X6_leaves (nI i) 2 N) 1 (165 + 6 * m + 2) (nI s)) := ⟨fun k hk => ps_st_ne (by omega), fun k hk => ps_st_ne hk⟩
              have q' : ¬ (nI s = (-1 : Int32)) := by rw [← d2]; exact q
              simp only [mz, om, ol, q', q3, x4, t1, t2, t3, t4, ne5, d1, d2, L2, B2, v2, pq_nI (show m < 4000 by omega), fv_X1_comeTo, ok_X1_comeTo, fv_X2_changeClerks_63, ok_X2_changeClerks_63, fv_X6_takesTurns_64, ok_X6_takesTurns_64, pq_nIadd1, i1, i2, if_true, if_false, true_implies, not_true_eq_false, not_false_eq_true, false_implies, and_true, true_and]
              exact ⟨FR_trans hfr (FR_trans hfr2 i3), i4⟩
          · obtain ⟨i1, i2, i3, i4⟩ := ih (i + 1) n1 n2 M N (by omega) (by omega) (by omega) (hstep (by
              obtain ⟨j1, j2, j3, j4, j5, j6⟩ := hK
              refine ⟨j1, j2, fun _ => ⟨k3.1, k3.2.1, ?_⟩, j4, j5, j6⟩
              have : ¬ ((pq_kv (N 1) i 3).toInt = (pq_kv (N 1) i 1).toInt) := fun z => q3 (pq_eq.mpr z)
              omega))
            simp only [mz, om, q, q3, fv_X6_takesTurns_64, ok_X6_takesTurns_64, pq_nIadd1, i1, i2, if_true, if_false, true_implies, not_true_eq_false, not_false_eq_true, false_implies, and_true, true_and]
            exact ⟨i3, i4⟩
