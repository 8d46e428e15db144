/-! ===== the law's up, act ===== -/
theorem up_and (x : Int32) : ∃ j, j < 2 ^ 31 ∧ x &&& 2147483647 = nI j := by
  refine ⟨(x &&& 2147483647).toBitVec.toNat, ?_, ?_⟩
  · rw [Int32.toBitVec_and, BitVec.toNat_and]
    exact Nat.lt_of_le_of_lt Nat.and_le_right (by decide)
  · apply Int32.toBitVec_inj.mp
    unfold nI
    simp
theorem up_spec (x : Int32) {m : Nat} (h0 : 0 < m) (hm : m < 4000) : ∃ k, k < m ∧ (∀ M, fv_L_up x (nI m) M = nI k) ∧ ∀ M, ok_L_up x (nI m) M := by
  obtain ⟨j, h1, h2⟩ := up_and x
  refine ⟨j % m, Nat.mod_lt _ h0, fun M => ?_, fun M => ⟨fun z => ?_, trivial⟩⟩
  · unfold fv_L_up
    rw [h2, pk_rem h1 h0 (by omega)]
  · have := (pq_inj (t := 0) hm (by omega)).mp z
    omega
theorem bit_01 (x : Int32) : x &&& 1 = 0 ∨ x &&& 1 = 1 := by
  have h : (x &&& 1).toBitVec.toNat ≤ 1 := by
    rw [Int32.toBitVec_and, BitVec.toNat_and]
    exact Nat.and_le_right
  rcases Nat.lt_or_ge (x &&& 1).toBitVec.toNat 1 with q | q
  · left
    apply Int32.toBitVec_inj.mp
    apply BitVec.eq_of_toNat_eq
    show _ = 0
    omega
  · right
    apply Int32.toBitVec_inj.mp
    apply BitVec.eq_of_toNat_eq
    show _ = 1
    omega
theorem ps_same (M : ps_M) (k i : Nat) : ps_st M k i (M k i) = M := by
  funext a b
  unfold ps_st
  by_cases q1 : b = i
  · by_cases q2 : a = k
    · rw [if_pos q1, if_pos q2, q1, q2]
    · rw [if_pos q1, if_neg q2]
  · rw [if_neg q1]
/-- what the law's act answers: nothing has changed, or a state is recorded and 'given' is told right -/
def AL (M : ps_M) (n : Nat) (H : Nat → ps_M) (k : Prop) (S : ps_M) (h a b : Nat) (r : Int32 × ps_M) : Prop :=
  (r.1 < 0 ∧ r.2 = M) ∨ (¬ r.1 < 0 ∧ ST r.2 (h_len n) (h_push n H M) k S ∧ DI r.2 1 h a b (r.2 197))
theorem pq_nneg {x : Int32} (h : 0 ≤ x.toInt) : ¬ x < 0 := by
  rw [pq_lt, Int32.toInt_zero]; omega
section LACT
variable {M : ps_M} {n h a b : Nat} {H : Nat → ps_M} {k : Prop} {S : ps_M}
theorem AL_of {r : Int32 × ps_M} (hr : AR M n H k S h a b (M 197) r) : AL M n H k S h a b r := by
  rcases hr with ⟨h1, h2⟩ | ⟨h1, h2, h3, h4⟩
  · exact Or.inl ⟨h1, h2⟩
  · refine Or.inr ⟨pq_nneg h1, h2, ?_⟩
    rw [h4 197 (by omega)]
    exact h3
/-- 'given' may change: nothing else sees it -/
theorem G_DI {Z Z' : ps_M} {gv : Nat → Int32} (hx : DI Z 1 h a b gv) (hz : ∀ i, i ≠ 197 → Z' i = Z i) : DI Z' 1 h a b gv := DI_EQ (EQ_frame (fun k k1 k2 => hz k (by omega))) hx
theorem l_supply (hS : ST M n H k S) (hx : DI M 1 h a b (M 197)) {s p : Nat} (hs : s < a) (hp1 : 1 ≤ p) (hp : p ≤ 9999) : ok_X5_supply (nI s) (nI p) M ∧ ok_L_act_161 (nI s) (nI p) (fv_X5_supply (nI s) (nI p) M).1 (fv_X5_supply (nI s) (nI p) M).2 ∧ AL M n H k S h a b (fv_L_act_161 (nI s) (nI p) (fv_X5_supply (nI s) (nI p) M).1 (fv_X5_supply (nI s) (nI p) M).2) := by
  have ha := hx.1.2.2.1
  have v1 : vp_in (nI s) 6 := pq_vin (by omega) (by omega)
  by_cases q : (M (1 + 1 + 1 + 2 * s) 5).toInt + (p : Int) ≤ 9999
  · obtain ⟨o1, M', e1, e2, s1, s2, s3⟩ := x_supply1 hS hx hs hp1 hp q
    have ep : (nI p).toInt = (p : Int) := nI_toInt (by omega)
    have g4 := (p_S hx hs).2.2.2.1
    have nn : ¬ M (1 + 1 + 1 + 2 * s) 5 + nI p < 0 := pq_nneg (by rw [pq_add (by omega) (by omega), ep]; omega)
    rw [e1]
    refine ⟨o1, ⟨v1, fun z => absurd z nn, fun _ => ⟨v1, trivial⟩⟩, Or.inr ?_⟩
    show ¬ (fv_L_act_161 (nI s) (nI p) (M (1 + 1 + 1 + 2 * s) 5 + nI p) M').1 < 0 ∧ _
    unfold fv_L_act_161
    rw [if_neg nn, pq_nI (show s < 4000 by omega)]
    have z1 : ∀ i, i ≠ 197 → ps_st M' 197 s (M' 197 s + nI p) i = M' i := fun i hi => ps_st_ne hi
    have z2 : ps_st M' 197 s (M' 197 s + nI p) 197 = upd (M 197) s (M 197 s + nI p) := by rw [ps_st_self, s3 197 (by omega)]
    refine ⟨nn, ST_frame s1 (fun i i1 i2 i3 => z1 i (by omega)), ?_⟩
    show DI (ps_st M' 197 s (M' 197 s + nI p)) 1 h a b (ps_st M' 197 s (M' 197 s + nI p) 197)
    rw [z2]
    exact DI_gv (fun s' _ => rfl) (G_DI s2 z1)
  · obtain ⟨o1, e1⟩ := x_supply0 hx hs hp1 hp q
    have nn : (-3 : Int32) < 0 := by decide
    rw [e1]
    refine ⟨o1, ⟨v1, fun _ => ⟨v1, trivial⟩, fun z => absurd nn z⟩, Or.inl ?_⟩
    unfold fv_L_act_161
    rw [if_pos nn]
    refine ⟨nn, ?_⟩
    show ps_st M 197 (nI s).toNatClampNeg (M 197 (nI s).toNatClampNeg + 0) = M
    rw [Int32.add_zero]
    exact ps_same M 197 _
theorem l_move (hS : ST M n H k S) (hx : DI M 1 h a b (M 197)) {s t p : Nat} (hs : s < a) (ht : t < a) (hp1 : 1 ≤ p) (hp : p ≤ 9999) : ok_X5_movePapers (nI s) (nI t) (nI p) M ∧ ok_L_act_194 (nI s) (nI t) (nI p) (fv_X5_movePapers (nI s) (nI t) (nI p) M).1 (fv_X5_movePapers (nI s) (nI t) (nI p) M).2 ∧ AL M n H k S h a b (fv_L_act_194 (nI s) (nI t) (nI p) (fv_X5_movePapers (nI s) (nI t) (nI p) M).1 (fv_X5_movePapers (nI s) (nI t) (nI p) M).2) := by
  have ha := hx.1.2.2.1
  have v1 : vp_in (nI s) 6 := pq_vin (by omega) (by omega)
  have v2 : vp_in (nI t) 6 := pq_vin (by omega) (by omega)
  obtain ⟨o1, hA, hst⟩ := x_move hS hx hs ht hp1 hp
  have okk : ∀ (v : Int32) (Z : ps_M), ok_L_act_194 (nI s) (nI t) (nI p) v Z := fun v Z => ⟨v1, fun q => ⟨v1, v2, fun _ => ⟨v2, trivial⟩, fun _ => ⟨v2, trivial⟩⟩, fun q => ⟨v1, v2, fun _ => ⟨v2, trivial⟩, fun _ => ⟨v2, trivial⟩⟩⟩
  refine ⟨o1, okk _ _, ?_⟩
  generalize fv_X5_movePapers (nI s) (nI t) (nI p) M = r at hA hst
  obtain ⟨v, Z⟩ := r
  show AL M n H k S h a b (fv_L_act_194 (nI s) (nI t) (nI p) v Z)
  unfold fv_L_act_194 fv_L_act_212 fv_L_act_232
  rw [pq_nI (show s < 4000 by omega), pq_nI (show t < 4000 by omega)]
  rcases hA with ⟨h1, h2⟩ | ⟨h1, h2, h3, h4⟩
  · have h1 : v < 0 := h1
    have h2 : Z = M := h2
    subst h2
    rw [if_pos h1, if_pos h1]
    refine Or.inl ⟨h1, ?_⟩
    show ps_st (ps_st Z 197 s (Z 197 s - 0)) 197 t (ps_st Z 197 s (Z 197 s - 0) 197 t + 0) = Z
    rw [Int32.sub_zero, ps_same, Int32.add_zero, ps_same]
  · have nn : ¬ v < 0 := pq_nneg h1
    have hne : s ≠ t := fun z => nn (hst z)
    have h4 : ∀ i, 194 ≤ i → Z i = M i := h4
    have h2 : ST Z (h_len n) (h_push n H M) k S := h2
    rw [if_neg nn, if_neg nn]
    obtain ⟨Y, hY⟩ : ∃ Y, Y = ps_st (ps_st Z 197 s (Z 197 s - nI p)) 197 t (ps_st Z 197 s (Z 197 s - nI p) 197 t + nI p) := ⟨_, rfl⟩
    have z1 : ∀ i, i ≠ 197 → Y i = Z i := fun i hi => by rw [hY]; exact (ps_st_ne hi).trans (ps_st_ne hi)
    have z2 : Y 197 = upd (upd (M 197) s (M 197 s - nI p)) t (M 197 t + nI p) := by
      rw [hY, ps_st_self, pq_stne (Or.inr (Ne.symm hne)), ps_st_self, h4 197 (by omega)]
    rw [← hY]
    refine Or.inr ⟨nn, ST_frame h2 (fun i i1 i2 i3 => z1 i (by omega)), ?_⟩
    show DI Y 1 h a b (Y 197)
    rw [z2]
    refine DI_gv (fun s' _ => ?_) (G_DI h3 z1)
    unfold upd
    by_cases w1 : s' = t
    · rw [if_pos w1, if_neg (by omega), if_pos w1]
    · rw [if_neg w1]
      by_cases w2 : s' = s
      · rw [if_pos w2, if_pos w2]
      · rw [if_neg w2, if_neg w2, if_neg w1]
end LACT
