/-! ===== reading loops ===== -/
theorem pq_leF {b c : Nat} (h : c < b) (hb : b < 4000) : (nI b ≤ nI c) = False := eq_false (nI_ge h (by omega))
theorem pq_leT {b c : Nat} (h : ¬ c < b) (hb : b < 4000) (hc : c < 4000) : (nI b ≤ nI c) = True := eq_true (nI_le (by omega) (by omega))
theorem pq_nIadd1 (n : Nat) : nI n + (1 : Int32) = nI (n + 1) := nI_1 n
theorem pq_sta {M : ps_M} {N : ps_M} {d h a b : Nat} {S : Nat → (Nat → Int32) → (Nat → Int32) → (Nat → Int32) → Prop} {K : Nat → (Nat → Int32) → (Nat → Int32) → Prop} (hx : DX M d (N 1) h a b S K) (x : Int32) : ok_X6_isStation x N ∧ ((fv_X2_hasStation d x M = 0 ∧ fv_X6_isStation x N = 0) ∨ (∃ s, s < a ∧ x = nI s ∧ fv_X2_hasStation d x M = 1 ∧ fv_X6_isStation x N = 1)) := by
  obtain ⟨⟨-, H1, -⟩, ⟨-, N1, -⟩, ⟨-, ha, -⟩, -, -⟩ := hx
  have e : (nI a - 1).toInt = (a : Int) - 1 := by rw [show (1 : Int32) = nI 1 from rfl, pk_sub_toInt (by omega) (by omega)]; rfl
  unfold fv_X2_hasStation fv_X6_isStation ok_X6_isStation fv_X6_in ok_X6_in
  rw [pq_c1, H1, N1]
  rcases pk_ix x (show a < 2 ^ 31 by omega) with g | g | ⟨s, hs, rfl⟩
  · refine ⟨⟨pq_vin (n := 1) (by omega) (by omega), trivial, ?_, trivial⟩, Or.inl ⟨?_, ?_⟩⟩
    · rw [if_pos g]; exact Or.inl rfl
    · rw [if_pos g]
    · rw [if_pos g]
  · have g2 : nI a - 1 < x := by
      rw [pq_lt, e]; rw [pq_le, pq_nT (by omega)] at g; omega
    refine ⟨⟨pq_vin (n := 1) (by omega) (by omega), trivial, ?_, trivial⟩, Or.inl ⟨?_, ?_⟩⟩
    · rw [if_pos g2]; split <;> exact Or.inl rfl
    · rw [if_pos g]; split <;> rfl
    · rw [if_pos g2]; split <;> rfl
  · have g0 : ¬ nI s < 0 := nI_pos (by omega)
    have g1 : ¬ nI a ≤ nI s := nI_ge hs (by omega)
    have g2 : ¬ nI a - 1 < nI s := by
      rw [pq_lt, e, pq_nT (by omega)]; omega
    refine ⟨⟨pq_vin (n := 1) (by omega) (by omega), trivial, ?_, trivial⟩, Or.inr ⟨s, hs, rfl, ?_, ?_⟩⟩
    · rw [if_neg g0, if_neg g2]; exact Or.inr rfl
    · rw [if_neg g0, if_neg g1]
    · rw [if_neg g0, if_neg g2]
theorem pq_cle {M : ps_M} {N : ps_M} {d h a b : Nat} {S : Nat → (Nat → Int32) → (Nat → Int32) → (Nat → Int32) → Prop} {K : Nat → (Nat → Int32) → (Nat → Int32) → Prop} (hx : DX M d (N 1) h a b S K) (x : Int32) : ok_X6_isClerk x N ∧ ((fv_X2_hasClerk d x M = 0 ∧ fv_X6_isClerk x N = 0) ∨ (∃ s, s < b ∧ x = nI s ∧ fv_X2_hasClerk d x M = 1 ∧ fv_X6_isClerk x N = 1)) := by
  obtain ⟨⟨-, -, H1⟩, ⟨-, -, N1⟩, ⟨-, -, ha⟩, -, -⟩ := hx
  have e : (nI b - 1).toInt = (b : Int) - 1 := by rw [show (1 : Int32) = nI 1 from rfl, pk_sub_toInt (by omega) (by omega)]; rfl
  unfold fv_X2_hasClerk fv_X6_isClerk ok_X6_isClerk fv_X6_in ok_X6_in
  rw [pq_c2, H1, N1]
  rcases pk_ix x (show b < 2 ^ 31 by omega) with g | g | ⟨s, hs, rfl⟩
  · refine ⟨⟨pq_vin (n := 2) (by omega) (by omega), trivial, ?_, trivial⟩, Or.inl ⟨?_, ?_⟩⟩
    · rw [if_pos g]; exact Or.inl rfl
    · rw [if_pos g]
    · rw [if_pos g]
  · have g2 : nI b - 1 < x := by
      rw [pq_lt, e]; rw [pq_le, pq_nT (by omega)] at g; omega
    refine ⟨⟨pq_vin (n := 2) (by omega) (by omega), trivial, ?_, trivial⟩, Or.inl ⟨?_, ?_⟩⟩
    · rw [if_pos g2]; split <;> exact Or.inl rfl
    · rw [if_pos g]; split <;> rfl
    · rw [if_pos g2]; split <;> rfl
  · have g0 : ¬ nI s < 0 := nI_pos (by omega)
    have g1 : ¬ nI b ≤ nI s := nI_ge hs (by omega)
    have g2 : ¬ nI b - 1 < nI s := by
      rw [pq_lt, e, pq_nT (by omega)]; omega
    refine ⟨⟨pq_vin (n := 2) (by omega) (by omega), trivial, ?_, trivial⟩, Or.inr ⟨s, hs, rfl, ?_, ?_⟩⟩
    · rw [if_neg g0, if_neg g2]; exact Or.inr rfl
    · rw [if_neg g0, if_neg g1]
    · rw [if_neg g0, if_neg g2]
theorem pq_clerksAt {M : ps_M} {N : ps_M} {d h a b : Nat} {S : Nat → (Nat → Int32) → (Nat → Int32) → (Nat → Int32) → Prop} {K : Nat → (Nat → Int32) → (Nat → Int32) → Prop} (hx : DX M d (N 1) h a b S K) (x : Int32) (hq : ∀ c, c < b → (M (d + 14 + 1 + c) 2 = x ↔ pq_kv (N 1) c 2 = x)) : ∀ (n1 n2 c : Nat) (acc : Int32), c ≤ b → b < c + n1 → b < c + n2 → fv_X2_clerksAt_4 n1 d x acc (nI c) M = fv_X6_onDutyAt_4 n2 x acc (nI c) N ∧ ok_X2_clerksAt_4 n1 d x acc (nI c) M ∧ ok_X6_onDutyAt_4 n2 x acc (nI c) N := by
  obtain ⟨⟨-, -, H2⟩, ⟨-, -, N2⟩, ⟨-, -, hb⟩, -, -⟩ := hx
  intro n1
  induction n1 with
  | zero => intro n2 c acc h1 h2; omega
  | succ n1 ih =>
    intro n2 c acc h1 h2 h3
    cases n2 with
    | zero => omega
    | succ n2 =>
      rw [fv_X2_clerksAt_4_s, fv_X6_onDutyAt_4_s, ok_X2_clerksAt_4_s, ok_X6_onDutyAt_4_s, pq_c2, H2, N2]
      by_cases hc : c < b
      · have e := hq c hc
        have e2 : fv_X6_ofClerk (nI c) 2 N = pq_kv (N 1) c 2 := pq_ofK (j := 2) (by omega) (by omega) N
        have e3 : ok_X6_ofClerk (nI c) 2 N := pq_ofKok (j := 2) (by omega) (by omega) N
        have i1 := ih n2 (c + 1) (acc + 1) (by omega) (by omega) (by omega)
        have i2 := ih n2 (c + 1) acc (by omega) (by omega) (by omega)
        have v1 : vp_in (nI c) 12 := pq_vin (by omega) (by omega)
        have v2 : vp_in (2 : Int32) 237 := pq_vin (n := 2) (by omega) (by omega)
        simp only [pq_leF hc (by omega), pq_nI (show c < 4000 by omega), pq_nIadd1, e2, e3, v1, v2, fv_X6_onDutyAt_30, ok_X6_onDutyAt_30, if_false, false_implies, true_and, not_false_eq_true, true_implies, e]
        by_cases hm : pq_kv (N 1) c 2 = x
        · simp only [hm, if_true, true_implies, not_true_eq_false, false_implies, and_true]
          exact i1
        · simp only [hm, if_false, false_implies, not_false_eq_true, true_implies, true_and, show acc + 0 = acc from Int32.add_zero acc]
          exact i2
      · have v2 : vp_in (2 : Int32) 237 := pq_vin (n := 2) (by omega) (by omega)
        simp only [pq_leT hc (by omega) (by omega), if_true, true_implies, not_true_eq_false, false_implies, and_true, v2]
