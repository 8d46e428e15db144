/-! ===== the acts ===== -/
theorem a_wiI {x : Int32} {l m : Nat} (M : ps_M) (h1 : (l : Int) ≤ x.toInt) (h2 : x.toInt ≤ (m : Int)) (hm : m < 2147483648) : fv_X5_isWithin x (nI l) (nI m) M = 1 := by
  have e1 : (nI l).toInt = (l : Int) := nI_toInt (by omega)
  have e2 : (nI m).toInt = (m : Int) := nI_toInt (by omega)
  unfold fv_X5_isWithin
  rw [if_neg (fun q => by rw [pq_lt, e1] at q; omega), if_neg (fun q => by rw [pq_lt, e2] at q; omega)]
theorem a_pn {p : Nat} (M : ps_M) (h1 : 1 ≤ p) (h2 : p ≤ 9999) : fv_X5_isPaperNumber (nI p) M = 1 := a_wi (l := 1) (m := 9999) M h1 h2 (by omega)
theorem o_pn (x : Int32) (M : ps_M) : ok_X5_isPaperNumber x M := by
  refine ⟨trivial, ?_, trivial⟩
  unfold fv_X5_isWithin
  by_cases q1 : x < 1
  · rw [if_pos q1]; exact Or.inl rfl
  · rw [if_neg q1]
    by_cases q2 : (9999 : Int32) < x
    · rw [if_pos q2]; exact Or.inl rfl
    · rw [if_neg q2]; exact Or.inr rfl
/-- what an act's answer r says of the memory behind it: nothing has changed, or a state is recorded -/
def AR (M : ps_M) (n : Nat) (H : Nat → ps_M) (k : Prop) (S : ps_M) (h a b : Nat) (gv' : Nat → Int32) (r : Int32 × ps_M) : Prop :=
  (r.1 < 0 ∧ r.2 = M) ∨ (0 ≤ r.1.toInt ∧ ST r.2 (h_len n) (h_push n H M) k S ∧ DI r.2 1 h a b gv' ∧ ∀ i, 194 ≤ i → r.2 i = M i)
theorem AR_err {M : ps_M} {n h a b : Nat} {H : Nat → ps_M} {k : Prop} {S : ps_M} {gv : Nat → Int32} {v : Int32} (hv : v < 0) : AR M n H k S h a b gv (v, M) := Or.inl ⟨hv, rfl⟩
theorem AR_ok {M M' : ps_M} {n h a b : Nat} {H : Nat → ps_M} {k : Prop} {S : ps_M} {gv : Nat → Int32} {v : Int32} (hv : 0 ≤ v.toInt) (r : ST M' (h_len n) (h_push n H M) k S ∧ DI M' 1 h a b gv ∧ ∀ i, 194 ≤ i → M' i = M i) : AR M n H k S h a b gv (v, M') := Or.inr ⟨hv, r⟩
section ACT
variable {M : ps_M} {n h a b : Nat} {H : Nat → ps_M} {k : Prop} {S : ps_M} {gv : Nat → Int32}
theorem act_R (hS : ST M n H k S) (hx : DI M 1 h a b gv) : ok_X3_remember 1 M ∧ (∀ i, i < 82 → fv_X3_remember 1 M i = M i) ∧ DI (fv_X3_remember 1 M) 1 h a b gv := by
  obtain ⟨s1, s2, s3⟩ := ST_rem hS
  exact ⟨s3, fun i hi => s2 i (Or.inl hi), DI_EQ (EQ_frame (fun k k1 k2 => s2 k (by omega))) hx⟩
theorem act_st (hS : ST M n H k S) (hx : DI M 1 h a b gv) {s : Nat} (hs : s < a) {M' : ps_M} {gv' : Nat → Int32} (hM : ∀ i, i ≠ 1 + 1 + 1 + 2 * s → i ≠ 1 + 1 + 1 + 2 * s + 1 → M' i = fv_X3_remember 1 M i) (hg : ∀ s', s' ≠ s → gv' s' = gv s') (hn : SI True h (gv' s) (M' (1 + 1 + 1 + 2 * s)) (M' (1 + 1 + 1 + 2 * s + 1))) : ST M' (h_len n) (h_push n H M) k S ∧ DI M' 1 h a b gv' ∧ ∀ i, 194 ≤ i → M' i = M i := by
  have ha := hx.1.2.2.1
  obtain ⟨s1, s2, s3⟩ := ST_rem hS
  obtain ⟨-, -, hR⟩ := act_R hS hx
  refine ⟨ST_frame s1 (fun i i1 i2 i3 => hM i (by omega) (by omega)), DY_st hR (s := s) (by omega) hM (fun s' hs' _ f g q => ⟨fun z => by rw [hg s' hs']; exact q.1 z, q.2⟩) ⟨fun _ => hn, fun z => absurd hs z⟩, fun i hi => (hM i (by omega) (by omega)).trans (s2 i (by omega))⟩
theorem act_ck (hS : ST M n H k S) (hx : DI M 1 h a b gv) {c : Nat} (hc : c < b) {M' : ps_M} (hM : ∀ i, i ≠ 1 + 14 + 1 + c → M' i = fv_X3_remember 1 M i) (hn : KI a h 0 1 (M' (1 + 14 + 1 + c))) : ST M' (h_len n) (h_push n H M) k S ∧ DI M' 1 h a b gv ∧ ∀ i, 194 ≤ i → M' i = M i := by
  have hb := hx.1.2.2.2
  obtain ⟨s1, s2, s3⟩ := ST_rem hS
  obtain ⟨-, -, hR⟩ := act_R hS hx
  refine ⟨ST_frame s1 (fun i i1 i2 i3 => hM i (by omega)), DY_ck hR (c := c) (by omega) hM (fun c' _ _ f q => q) ⟨fun _ => hn, fun z => absurd hc z⟩, fun i hi => (hM i (by omega)).trans (s2 i (by omega))⟩
theorem x_setArrivals (hS : ST M n H k S) (hx : DI M 1 h a b gv) {s t p : Nat} (hs : s < a) (ht : t < 15) (hp : p ≤ 500) : ok_X5_setArrivals (nI s) (nI t) (nI p) M ∧ AR M n H k S h a b gv (fv_X5_setArrivals (nI s) (nI t) (nI p) M) := by
  have ha := hx.1.2.2.1
  have hh := hx.1.2.1
  have h1 := a_hs hx.1.1.2.1 ha hs
  have w1 : fv_X5_isWithin (nI t) 0 14 M = 1 := a_wi (l := 0) (m := 14) M (by omega) (by omega) (by omega)
  have w2 : fv_X5_isWithin (nI p) 0 500 M = 1 := a_wi (l := 0) (m := 500) M (by omega) hp (by omega)
  obtain ⟨r1, r2, -⟩ := act_R hS hx
  have v1 : vp_in (nI s) 6 := pq_vin (by omega) (by omega)
  have v2 : vp_in (nI t) 15 := pq_vin ht (by omega)
  have oh : ok_X2_hasStation 1 (nI s) M := trivial
  have oc : ok_X5_isHourToCome (nI t) M := ⟨fun _ => trivial, fun _ => ⟨trivial, trivial⟩⟩
  have ow : ok_X5_isWithin (nI p) 0 500 M := trivial
  unfold fv_X5_setArrivals ok_X5_setArrivals
  rw [h1, if_neg (by decide), pq_nI (show s < 4000 by omega), pq_nI (show t < 4000 by omega)]
  by_cases q : t < h
  · have e : fv_X5_isHourToCome (nI t) M = 0 := by
      unfold fv_X5_isHourToCome
      rw [hx.1.1.1, if_pos (nI_lt q (by omega))]
    rw [e, if_pos rfl]
    exact ⟨⟨oh, fun z => absurd z (by decide), fun _ => ⟨oc, fun _ => trivial, fun z => absurd rfl z⟩⟩, AR_err (by decide)⟩
  · have e : fv_X5_isHourToCome (nI t) M = 1 := by
      unfold fv_X5_isHourToCome
      rw [hx.1.1.1, if_neg (nI_nlt (by omega) (by omega)), w1, if_neg (by decide)]
    rw [e, if_neg (by decide), w2, if_neg (by decide)]
    have hSI := (hx.2.1 s (by omega)).1 hs
    by_cases z : M (1 + 1 + 1 + 2 * s + 1) t = nI p
    · rw [if_pos z]
      exact ⟨⟨oh, fun y => absurd y (by decide), fun _ => ⟨oc, fun y => absurd y (by decide), fun _ => ⟨ow, fun y => absurd y (by decide), fun _ => ⟨v1, v2, fun _ => trivial, fun y => absurd z y⟩⟩⟩⟩, AR_err (by decide)⟩
    · rw [if_neg z]
      refine ⟨⟨oh, fun y => absurd y (by decide), fun _ => ⟨oc, fun y => absurd y (by decide), fun _ => ⟨ow, fun y => absurd y (by decide), fun _ => ⟨v1, v2, fun y => absurd y z, fun _ => ⟨r1, v2, trivial⟩⟩⟩⟩⟩, AR_ok (hSI.1 t ht).1 ?_⟩
      refine act_st hS hx hs (fun i _ i2 => ps_st_ne i2) (fun _ _ => rfl) ?_
      rw [ps_st_self, ps_st_ne (by omega), r2 _ (by omega), r2 _ (by omega)]
      obtain ⟨g1, g2, g3⟩ := hSI
      have ec : cam (upd (M (1 + 1 + 1 + 2 * s + 1)) t (nI p)) (min h 15) = cam (M (1 + 1 + 1 + 2 * s + 1)) (min h 15) := cam_congr _ (fun t' ht' => by unfold upd; rw [if_neg (by omega)])
      refine ⟨fun t' ht' => ?_, by rw [ec]; exact g2, g3⟩
      unfold upd
      by_cases y : t' = t
      · rw [if_pos y, pq_nT (by omega)]; omega
      · rw [if_neg y]; exact g1 t' ht'
theorem x_assign (hS : ST M n H k S) (hx : DI M 1 h a b gv) {c s : Nat} (hc : c < b) (hs : s < a) : ok_X5_assign (nI c) (nI s) M ∧ AR M n H k S h a b gv (fv_X5_assign (nI c) (nI s) M) := by
  have ha := hx.1.2.2.1
  have hb := hx.1.2.2.2
  have h1 := a_hs hx.1.1.2.1 ha hs
  have h2 := a_hc hx.1.1.2.2 hb hc
  obtain ⟨r1, r2, hR⟩ := act_R hS hx
  have v1 : vp_in (nI c) 12 := pq_vin (by omega) (by omega)
  have oh : ok_X2_hasStation 1 (nI s) M := trivial
  have oc : ok_X2_hasClerk 1 (nI c) M := trivial
  have of := ok_free (1 + 14 + 1 + c) M
  unfold fv_X5_assign ok_X5_assign
  rw [h2, if_neg (by decide), h1, if_neg (by decide), pq_nI (show c < 4000 by omega)]
  by_cases q : fv_X1_isFree (1 + 14 + 1 + c) M = 0
  · rw [if_pos q]
    exact ⟨⟨oc, fun y => absurd y (by decide), fun _ => ⟨oh, fun y => absurd y (by decide), fun _ => ⟨v1, of, fun _ => trivial, fun y => absurd q y⟩⟩⟩, AR_err (by decide)⟩
  · rw [if_neg q]
    obtain ⟨c1, c2⟩ := s_come (1 + 14 + 1 + c) (nI s) (fv_X3_remember 1 M)
    have oo : ok_X1_comeTo (1 + 14 + 1 + c) (nI s) (fv_X3_remember 1 M) := trivial
    generalize fv_X1_comeTo (1 + 14 + 1 + c) (nI s) (fv_X3_remember 1 M) = M' at c1 c2 oo
    obtain ⟨p2, p5⟩ := s_free q
    have hk := (hx.2.2 c (by omega)).1 hc
    have key := act_ck hS hx hc c1 (by
      rw [c2, r2 _ (by omega)]
      obtain ⟨y1, y2, y3, ⟨y4, y5, y6⟩, y7⟩ := KI_come hk p2 p5 hs ha 1 (by omega)
      exact ⟨y1, y2, y3, ⟨y4, by omega, y6⟩, y7⟩)
    obtain ⟨k1, k2⟩ := cl_clerksAt key.2.1.1.1.2.2 hb (nI s)
    refine ⟨⟨oc, fun y => absurd y (by decide), fun _ => ⟨oh, fun y => absurd y (by decide), fun _ => ⟨v1, of, fun y => absurd y q, fun _ => ⟨r1, v1, oo, k2, trivial⟩⟩⟩⟩, AR_ok ?_ key⟩
    show 0 ≤ (fv_X2_clerksAt 1 (nI s) M').toInt
    rw [k1]
    refine (sm_bd (B := 1) (by omega) b 0 0 (fun i _ _ => ?_) (by rw [Int32.toInt_zero]; omega) (by rw [Int32.toInt_zero]; omega)).1
    by_cases y : M' (1 + 14 + 1 + i) 2 = nI s
    · rw [if_pos y]; decide
    · rw [if_neg y]; decide
theorem x_relieve (hS : ST M n H k S) (hx : DI M 1 h a b gv) {c : Nat} (hc : c < b) : ok_X5_relieve (nI c) M ∧ AR M n H k S h a b gv (fv_X5_relieve (nI c) M) := by
  have hb := hx.1.2.2.2
  have h2 := a_hc hx.1.1.2.2 hb hc
  obtain ⟨r1, r2, hR⟩ := act_R hS hx
  have v1 : vp_in (nI c) 12 := pq_vin (by omega) (by omega)
  have oc : ok_X2_hasClerk 1 (nI c) M := trivial
  have od : ok_X1_isOnDuty (1 + 14 + 1 + c) M := trivial
  unfold fv_X5_relieve ok_X5_relieve
  rw [h2, if_neg (by decide), pq_nI (show c < 4000 by omega)]
  by_cases q : fv_X1_isOnDuty (1 + 14 + 1 + c) M = 0
  · rw [if_pos q]
    exact ⟨⟨oc, fun y => absurd y (by decide), fun _ => ⟨v1, od, fun _ => trivial, fun y => absurd q y⟩⟩, AR_err (by decide)⟩
  · rw [if_neg q]
    have oo : ok_X1_leaveDuty (1 + 14 + 1 + c) 1 (fv_X3_remember 1 M) := trivial
    obtain ⟨c1, c2⟩ := s_leave (1 + 14 + 1 + c) 1 (fv_X3_remember 1 M)
    have hk := (hx.2.2 c (by omega)).1 hc
    refine ⟨⟨oc, fun y => absurd y (by decide), fun _ => ⟨v1, od, fun y => absurd y q, fun _ => ⟨r1, v1, v1, oo, trivial⟩⟩⟩, AR_ok ?_ ?_⟩
    · show 0 ≤ (fv_X3_remember 1 M (1 + 14 + 1 + c) 3).toInt
      rw [r2 _ (by omega)]; exact hk.2.2.2.1.1
    · refine act_ck hS hx hc c1 ?_
      rw [c2, r2 _ (by omega)]
      obtain ⟨y1, y2, y3, ⟨y4, y5, y6⟩, y7⟩ := KI_leave hk (v := 1) 1 (by decide)
      exact ⟨y1, y2, y3, ⟨y4, by omega, y6⟩, y7⟩
/-- papers that are supplied -/
theorem x_supply1 (hS : ST M n H k S) (hx : DI M 1 h a b gv) {s p : Nat} (hs : s < a) (hp1 : 1 ≤ p) (hp : p ≤ 9999) (hf : (M (1 + 1 + 1 + 2 * s) 5).toInt + (p : Int) ≤ 9999) : ok_X5_supply (nI s) (nI p) M ∧ ∃ M', fv_X5_supply (nI s) (nI p) M = (M (1 + 1 + 1 + 2 * s) 5 + nI p, M') ∧ M' = ps_st (fv_X3_remember 1 M) (1 + 1 + 1 + 2 * s) 5 (M (1 + 1 + 1 + 2 * s) 5 + nI p) ∧ ST M' (h_len n) (h_push n H M) k S ∧ DI M' 1 h a b (fun s' => if s' = s then gv s + nI p else gv s') ∧ (∀ i, 194 ≤ i → M' i = M i) := by
  have ha := hx.1.2.2.1
  have h1 := a_hs hx.1.1.2.1 ha hs
  obtain ⟨r1, r2, -⟩ := act_R hS hx
  have v1 : vp_in (nI s) 6 := pq_vin (by omega) (by omega)
  have oh : ok_X2_hasStation 1 (nI s) M := trivial
  have op : ok_X5_isPaperNumber (nI p) M := o_pn _ M
  have hSI := (hx.2.1 s (by omega)).1 hs
  obtain ⟨g1, g2, g3, ⟨g4, g5⟩, g6, g7, g8⟩ := hSI
  have ep : (nI p).toInt = (p : Int) := nI_toInt (by omega)
  have es : (M (1 + 1 + 1 + 2 * s) 5 + nI p).toInt = (M (1 + 1 + 1 + 2 * s) 5).toInt + (p : Int) := by rw [pq_add (by omega) (by omega), ep]
  have c1 : M (1 + 1 + 1 + 2 * s) 5 + nI p ≤ (9999 : Int32) := by rw [pq_le, es]; exact hf
  refine ⟨?_, ps_st (fv_X3_remember 1 M) (1 + 1 + 1 + 2 * s) 5 (M (1 + 1 + 1 + 2 * s) 5 + nI p), ?_, rfl, ?_⟩
  · unfold ok_X5_supply
    rw [h1, a_pn M hp1 hp, pq_nI (show s < 4000 by omega)]
    exact ⟨oh, fun y => absurd y (by decide), fun _ => ⟨op, fun y => absurd y (by decide), fun _ => ⟨v1, fun _ => ⟨r1, trivial⟩, fun _ => trivial⟩⟩⟩
  · unfold fv_X5_supply
    rw [h1, if_neg (by decide), a_pn M hp1 hp, if_neg (by decide), pq_nI (show s < 4000 by omega), if_pos c1, r2 _ (by omega), pq_stself]
  · refine act_st hS hx hs (fun i i1 _ => ps_st_ne i1) (fun s' hs' => by rw [if_neg hs']) ?_
    rw [if_pos rfl, ps_st_self, ps_st_ne (by omega), r2 _ (by omega), r2 _ (by omega)]
    refine ⟨g1, g2, g3, ?_, g6, ?_, g8⟩
    · show 0 ≤ (M (1 + 1 + 1 + 2 * s) 5 + nI p).toInt ∧ (M (1 + 1 + 1 + 2 * s) 5 + nI p).toInt ≤ 9999
      rw [es]; omega
    · show M (1 + 1 + 1 + 2 * s) 5 + nI p + M (1 + 1 + 1 + 2 * s) 6 = gv s + nI p
      rw [← g7]; grind
theorem x_supply0 (hx : DI M 1 h a b gv) {s p : Nat} (hs : s < a) (hp1 : 1 ≤ p) (hp : p ≤ 9999) (hf : ¬ (M (1 + 1 + 1 + 2 * s) 5).toInt + (p : Int) ≤ 9999) : ok_X5_supply (nI s) (nI p) M ∧ fv_X5_supply (nI s) (nI p) M = (-3, M) := by
  have ha := hx.1.2.2.1
  have h1 := a_hs hx.1.1.2.1 ha hs
  have v1 : vp_in (nI s) 6 := pq_vin (by omega) (by omega)
  have oh : ok_X2_hasStation 1 (nI s) M := trivial
  have op : ok_X5_isPaperNumber (nI p) M := o_pn _ M
  have hSI := (hx.2.1 s (by omega)).1 hs
  obtain ⟨g1, g2, g3, ⟨g4, g5⟩, g6, g7, g8⟩ := hSI
  have ep : (nI p).toInt = (p : Int) := nI_toInt (by omega)
  have es : (M (1 + 1 + 1 + 2 * s) 5 + nI p).toInt = (M (1 + 1 + 1 + 2 * s) 5).toInt + (p : Int) := by rw [pq_add (by omega) (by omega), ep]
  have c1 : ¬ M (1 + 1 + 1 + 2 * s) 5 + nI p ≤ (9999 : Int32) := by rw [pq_le, es]; exact hf
  unfold fv_X5_supply ok_X5_supply
  rw [h1, if_neg (by decide), a_pn M hp1 hp, if_neg (by decide), pq_nI (show s < 4000 by omega), if_neg c1]
  exact ⟨⟨oh, fun y => absurd y (by decide), fun _ => ⟨op, fun y => absurd y (by decide), fun _ => ⟨v1, fun y => absurd y c1, fun _ => trivial⟩⟩⟩, rfl⟩
theorem x_spoil (hS : ST M n H k S) (hx : DI M 1 h a b gv) {s p : Nat} (hs : s < a) (hp1 : 1 ≤ p) (hp : p ≤ 9999) : ok_X5_spoil (nI s) (nI p) M ∧ AR M n H k S h a b gv (fv_X5_spoil (nI s) (nI p) M) := by
  have ha := hx.1.2.2.1
  have h1 := a_hs hx.1.1.2.1 ha hs
  obtain ⟨r1, r2, -⟩ := act_R hS hx
  have v1 : vp_in (nI s) 6 := pq_vin (by omega) (by omega)
  have oh : ok_X2_hasStation 1 (nI s) M := trivial
  have op : ok_X5_isPaperNumber (nI p) M := o_pn _ M
  obtain ⟨g1, g2, g3, ⟨g4, g5⟩, g6, g7, g8⟩ := (hx.2.1 s (by omega)).1 hs
  have ep : (nI p).toInt = (p : Int) := nI_toInt (by omega)
  unfold fv_X5_spoil ok_X5_spoil
  rw [h1, if_neg (by decide), a_pn M hp1 hp, if_neg (by decide), pq_nI (show s < 4000 by omega)]
  by_cases q1 : M (1 + 1 + 1 + 2 * s) 10 < nI p
  · rw [if_pos q1]
    exact ⟨⟨oh, fun y => absurd y (by decide), fun _ => ⟨op, fun y => absurd y (by decide), fun _ => ⟨v1, fun _ => trivial, fun y => absurd q1 y⟩⟩⟩, AR_err (by decide)⟩
  rw [if_neg q1]
  by_cases q2 : nI p ≤ M (1 + 1 + 1 + 2 * s) 5
  · rw [if_pos q2]
    have o8 : ∀ M', ok_X5_spoil_83 (nI p) (1 + 1 + 1 + 2 * s) M' := fun _ => trivial
    refine ⟨⟨oh, fun y => absurd y (by decide), fun _ => ⟨op, fun y => absurd y (by decide), fun _ => ⟨v1, fun y => absurd y q1, fun _ => ⟨fun _ => ⟨r1, o8 _⟩, fun _ => trivial⟩⟩⟩⟩, ?_⟩
    unfold fv_X5_spoil_83
    rw [pq_le, ep] at q2
    have es : (M (1 + 1 + 1 + 2 * s) 5 - nI p).toInt = (M (1 + 1 + 1 + 2 * s) 5).toInt - (p : Int) := by rw [pq_sub (by omega) (by omega), ep]
    generalize hR : fv_X3_remember 1 M = R at r2
    have e1 : ps_st (ps_st R (1 + 1 + 1 + 2 * s) 7 (R (1 + 1 + 1 + 2 * s) 7 + nI p)) (1 + 1 + 1 + 2 * s) 6 (ps_st R (1 + 1 + 1 + 2 * s) 7 (R (1 + 1 + 1 + 2 * s) 7 + nI p) (1 + 1 + 1 + 2 * s) 6 + nI p) (1 + 1 + 1 + 2 * s) = upd (upd (M (1 + 1 + 1 + 2 * s)) 7 (M (1 + 1 + 1 + 2 * s) 7 + nI p)) 6 (M (1 + 1 + 1 + 2 * s) 6 + nI p) := by
      rw [ps_st_self, ps_st_self, r2 _ (by omega)]; rfl
    have e2 : ∀ i, i ≠ 1 + 1 + 1 + 2 * s → ps_st (ps_st R (1 + 1 + 1 + 2 * s) 7 (R (1 + 1 + 1 + 2 * s) 7 + nI p)) (1 + 1 + 1 + 2 * s) 6 (ps_st R (1 + 1 + 1 + 2 * s) 7 (R (1 + 1 + 1 + 2 * s) 7 + nI p) (1 + 1 + 1 + 2 * s) 6 + nI p) i = R i := fun i hi => (ps_st_ne hi).trans (ps_st_ne hi)
    generalize ps_st (ps_st R (1 + 1 + 1 + 2 * s) 7 (R (1 + 1 + 1 + 2 * s) 7 + nI p)) (1 + 1 + 1 + 2 * s) 6 (ps_st R (1 + 1 + 1 + 2 * s) 7 (R (1 + 1 + 1 + 2 * s) 7 + nI p) (1 + 1 + 1 + 2 * s) 6 + nI p) = Z at e1 e2
    have e5 : Z (1 + 1 + 1 + 2 * s) 5 = M (1 + 1 + 1 + 2 * s) 5 := by rw [e1]; rfl
    rw [e5]
    refine AR_ok ?_ (act_st hS hx hs (fun i i1 _ => by rw [hR]; exact (ps_st_ne i1).trans (e2 i i1)) (fun _ _ => rfl) ?_)
    · show 0 ≤ (ps_st Z (1 + 1 + 1 + 2 * s) 5 (M (1 + 1 + 1 + 2 * s) 5 - nI p) (1 + 1 + 1 + 2 * s) 5).toInt
      rw [pq_stself, es]; omega
    · rw [ps_st_self, e1, ps_st_ne (by omega), e2 _ (by omega), r2 _ (by omega)]
      refine ⟨g1, g2, g3, ?_, ?_, ?_, g8⟩
      · show 0 ≤ (M (1 + 1 + 1 + 2 * s) 5 - nI p).toInt ∧ (M (1 + 1 + 1 + 2 * s) 5 - nI p).toInt ≤ 9999
        rw [es]; omega
      · show M (1 + 1 + 1 + 2 * s) 6 + nI p = M (1 + 1 + 1 + 2 * s) 3 + (M (1 + 1 + 1 + 2 * s) 7 + nI p)
        rw [g6]; grind
      · show M (1 + 1 + 1 + 2 * s) 5 - nI p + (M (1 + 1 + 1 + 2 * s) 6 + nI p) = gv s
        rw [← g7]; grind
  · rw [if_neg q2]
    exact ⟨⟨oh, fun y => absurd y (by decide), fun _ => ⟨op, fun y => absurd y (by decide), fun _ => ⟨v1, fun y => absurd y q1, fun _ => ⟨fun y => absurd y q2, fun _ => trivial⟩⟩⟩⟩, AR_err (by decide)⟩
theorem x_carryOff (hS : ST M n H k S) (hx : DI M 1 h a b gv) {s p : Nat} (hs : s < a) (hp1 : 1 ≤ p) (hp : p ≤ 9999) : ok_X5_carryOff (nI s) (nI p) M ∧ AR M n H k S h a b gv (fv_X5_carryOff (nI s) (nI p) M) := by
  have ha := hx.1.2.2.1
  have h1 := a_hs hx.1.1.2.1 ha hs
  obtain ⟨r1, r2, -⟩ := act_R hS hx
  have v1 : vp_in (nI s) 6 := pq_vin (by omega) (by omega)
  have oh : ok_X2_hasStation 1 (nI s) M := trivial
  have op : ok_X5_isPaperNumber (nI p) M := o_pn _ M
  obtain ⟨g1, ⟨g2, g2b, g2c⟩, g3, g4, g6, g7, ⟨g8, g9, g10, g11⟩, g12⟩ := (hx.2.1 s (by omega)).1 hs
  have b1 := cam_bd g1 (min h 15) (by omega)
  have ep : (nI p).toInt = (p : Int) := nI_toInt (by omega)
  unfold fv_X5_carryOff ok_X5_carryOff
  rw [h1, if_neg (by decide), a_pn M hp1 hp, if_neg (by decide), pq_nI (show s < 4000 by omega)]
  by_cases q2 : nI p ≤ M (1 + 1 + 1 + 2 * s) 10
  · rw [if_pos q2]
    have o8 : ∀ M', ok_X5_carryOff_65 (nI p) (1 + 1 + 1 + 2 * s) M' := fun _ => trivial
    refine ⟨⟨oh, fun y => absurd y (by decide), fun _ => ⟨op, fun y => absurd y (by decide), fun _ => ⟨v1, fun _ => ⟨r1, o8 _⟩, fun _ => trivial⟩⟩⟩, ?_⟩
    rw [pq_le, ep] at q2
    have e1 : (M (1 + 1 + 1 + 2 * s) 10 - nI p).toInt = (M (1 + 1 + 1 + 2 * s) 10).toInt - (p : Int) := by rw [pq_sub (by omega) (by omega), ep]
    have e2 : (M (1 + 1 + 1 + 2 * s) 8 + nI p).toInt = (M (1 + 1 + 1 + 2 * s) 8).toInt + (p : Int) := by rw [pq_add (by omega) (by omega), ep]
    generalize hR : fv_X3_remember 1 M = R at r2
    obtain ⟨Z, hZ⟩ : ∃ Z, Z = ps_st (ps_st R (1 + 1 + 1 + 2 * s) 10 (R (1 + 1 + 1 + 2 * s) 10 - nI p)) (1 + 1 + 1 + 2 * s) 8 (ps_st R (1 + 1 + 1 + 2 * s) 10 (R (1 + 1 + 1 + 2 * s) 10 - nI p) (1 + 1 + 1 + 2 * s) 8 + nI p) := ⟨_, rfl⟩
    have z1 : Z (1 + 1 + 1 + 2 * s) = upd (upd (M (1 + 1 + 1 + 2 * s)) 10 (M (1 + 1 + 1 + 2 * s) 10 - nI p)) 8 (M (1 + 1 + 1 + 2 * s) 8 + nI p) := by
      rw [hZ, ps_st_self, ps_st_self, r2 _ (by omega)]; rfl
    have z2 : ∀ i, i ≠ 1 + 1 + 1 + 2 * s → Z i = R i := fun i hi => by rw [hZ]; exact (ps_st_ne hi).trans (ps_st_ne hi)
    have key := act_st hS hx hs (M' := Z) (gv' := gv) (fun i i1 _ => by rw [hR]; exact z2 i i1) (fun _ _ => rfl) (by
      rw [z1, z2 _ (by omega), r2 _ (by omega)]
      refine ⟨g1, ⟨g2, g2b, g2c⟩, g3, g4, g6, g7, ?_, g12⟩
      show (M (1 + 1 + 1 + 2 * s) 10 - nI p).toInt + (M (1 + 1 + 1 + 2 * s) 8 + nI p).toInt + (M (1 + 1 + 1 + 2 * s) 9).toInt = (M (1 + 1 + 1 + 2 * s) 3).toInt ∧ 0 ≤ (M (1 + 1 + 1 + 2 * s) 10 - nI p).toInt ∧ 0 ≤ (M (1 + 1 + 1 + 2 * s) 8 + nI p).toInt ∧ 0 ≤ (M (1 + 1 + 1 + 2 * s) 9).toInt
      rw [e1, e2]; omega)
    have ea : AR M n H k S h a b gv (Z (1 + 1 + 1 + 2 * s) 10, Z) := AR_ok (by
      rw [z1]
      show 0 ≤ (M (1 + 1 + 1 + 2 * s) 10 - nI p).toInt
      rw [e1]; omega) key
    rw [hZ] at ea
    exact ea
  · rw [if_neg q2]
    exact ⟨⟨oh, fun y => absurd y (by decide), fun _ => ⟨op, fun y => absurd y (by decide), fun _ => ⟨v1, fun y => absurd y q2, fun _ => trivial⟩⟩⟩, AR_err (by decide)⟩
theorem x_find (hS : ST M n H k S) (hx : DI M 1 h a b gv) {s p : Nat} (hs : s < a) (hp1 : 1 ≤ p) (hp : p ≤ 9999) : ok_X5_find (nI s) (nI p) M ∧ AR M n H k S h a b gv (fv_X5_find (nI s) (nI p) M) := by
  have ha := hx.1.2.2.1
  have h1 := a_hs hx.1.1.2.1 ha hs
  obtain ⟨r1, r2, -⟩ := act_R hS hx
  have v1 : vp_in (nI s) 6 := pq_vin (by omega) (by omega)
  have oh : ok_X2_hasStation 1 (nI s) M := trivial
  have op : ok_X5_isPaperNumber (nI p) M := o_pn _ M
  obtain ⟨g1, ⟨g2, g2b, g2c⟩, g3, g4, g6, g7, ⟨g8, g9, g10, g11⟩, g12⟩ := (hx.2.1 s (by omega)).1 hs
  have b1 := cam_bd g1 (min h 15) (by omega)
  have ep : (nI p).toInt = (p : Int) := nI_toInt (by omega)
  unfold fv_X5_find ok_X5_find
  rw [h1, if_neg (by decide), a_pn M hp1 hp, if_neg (by decide), pq_nI (show s < 4000 by omega)]
  by_cases q2 : nI p ≤ M (1 + 1 + 1 + 2 * s) 8
  · rw [if_pos q2]
    have o8 : ∀ M', ok_X5_find_75 (1 + 1 + 1 + 2 * s) M' := fun _ => trivial
    refine ⟨⟨oh, fun y => absurd y (by decide), fun _ => ⟨op, fun y => absurd y (by decide), fun _ => ⟨v1, fun _ => ⟨r1, o8 _⟩, fun _ => trivial⟩⟩⟩, ?_⟩
    rw [pq_le, ep] at q2
    have e1 : (M (1 + 1 + 1 + 2 * s) 8 - nI p).toInt = (M (1 + 1 + 1 + 2 * s) 8).toInt - (p : Int) := by rw [pq_sub (by omega) (by omega), ep]
    have e2 : (M (1 + 1 + 1 + 2 * s) 9 + nI p).toInt = (M (1 + 1 + 1 + 2 * s) 9).toInt + (p : Int) := by rw [pq_add (by omega) (by omega), ep]
    generalize hR : fv_X3_remember 1 M = R at r2
    obtain ⟨Z, hZ⟩ : ∃ Z, Z = ps_st (ps_st R (1 + 1 + 1 + 2 * s) 8 (R (1 + 1 + 1 + 2 * s) 8 - nI p)) (1 + 1 + 1 + 2 * s) 9 (ps_st R (1 + 1 + 1 + 2 * s) 8 (R (1 + 1 + 1 + 2 * s) 8 - nI p) (1 + 1 + 1 + 2 * s) 9 + nI p) := ⟨_, rfl⟩
    have z1 : Z (1 + 1 + 1 + 2 * s) = upd (upd (M (1 + 1 + 1 + 2 * s)) 8 (M (1 + 1 + 1 + 2 * s) 8 - nI p)) 9 (M (1 + 1 + 1 + 2 * s) 9 + nI p) := by
      rw [hZ, ps_st_self, ps_st_self, r2 _ (by omega)]; rfl
    have z2 : ∀ i, i ≠ 1 + 1 + 1 + 2 * s → Z i = R i := fun i hi => by rw [hZ]; exact (ps_st_ne hi).trans (ps_st_ne hi)
    have key := act_st hS hx hs (M' := Z) (gv' := gv) (fun i i1 _ => by rw [hR]; exact z2 i i1) (fun _ _ => rfl) (by
      rw [z1, z2 _ (by omega), r2 _ (by omega)]
      refine ⟨g1, ⟨g2, g2b, g2c⟩, g3, g4, g6, g7, ?_, g12⟩
      show (M (1 + 1 + 1 + 2 * s) 10).toInt + (M (1 + 1 + 1 + 2 * s) 8 - nI p).toInt + (M (1 + 1 + 1 + 2 * s) 9 + nI p).toInt = (M (1 + 1 + 1 + 2 * s) 3).toInt ∧ 0 ≤ (M (1 + 1 + 1 + 2 * s) 10).toInt ∧ 0 ≤ (M (1 + 1 + 1 + 2 * s) 8 - nI p).toInt ∧ 0 ≤ (M (1 + 1 + 1 + 2 * s) 9 + nI p).toInt
      rw [e1, e2]; omega)
    have ea : AR M n H k S h a b gv (Z (1 + 1 + 1 + 2 * s) 8, Z) := AR_ok (by
      rw [z1]
      show 0 ≤ (M (1 + 1 + 1 + 2 * s) 8 - nI p).toInt
      rw [e1]; omega) key
    rw [hZ] at ea
    exact ea
  · rw [if_neg q2]
    exact ⟨⟨oh, fun y => absurd y (by decide), fun _ => ⟨op, fun y => absurd y (by decide), fun _ => ⟨v1, fun y => absurd y q2, fun _ => trivial⟩⟩⟩, AR_err (by decide)⟩
theorem x_countBox (hS : ST M n H k S) (hx : DI M 1 h a b gv) {s : Nat} {x : Int32} (hs : s < a) (h0 : 0 ≤ x.toInt) (h9 : x.toInt ≤ 99999) : ok_X5_countBox (nI s) x M ∧ AR M n H k S h a b gv (fv_X5_countBox (nI s) x M) := by
  have ha := hx.1.2.2.1
  have hh := hx.1.2.1
  have h1 := a_hs hx.1.1.2.1 ha hs
  have w1 : fv_X5_isWithin x 0 99999 M = 1 := a_wiI (l := 0) (m := 99999) M (by omega) (by omega) (by omega)
  obtain ⟨r1, r2, -⟩ := act_R hS hx
  have v1 : vp_in (nI s) 6 := pq_vin (by omega) (by omega)
  have oh : ok_X2_hasStation 1 (nI s) M := trivial
  have ow : ok_X5_isWithin x 0 99999 M := trivial
  obtain ⟨g1, g2, g3, g4, g6, g7, g8, g12⟩ := (hx.2.1 s (by omega)).1 hs
  unfold fv_X5_countBox ok_X5_countBox
  rw [h1, if_neg (by decide), w1, if_neg (by decide), pq_nI (show s < 4000 by omega), hx.1.1.1]
  by_cases q1 : nI h < (15 : Int32)
  · rw [if_pos q1]
    exact ⟨⟨oh, fun y => absurd y (by decide), fun _ => ⟨ow, fun y => absurd y (by decide), fun _ => ⟨v1, fun _ => trivial, fun y => absurd q1 y⟩⟩⟩, AR_err (by decide)⟩
  rw [if_neg q1]
  by_cases q2 : M (1 + 1 + 1 + 2 * s) 1 ≤ 0
  · rw [if_pos q2]
    by_cases q3 : M (1 + 1 + 1 + 2 * s) 12 < (3 : Int32)
    · rw [if_pos q3]
      have o8 : ∀ M', ok_X5_countBox_95 (1 + 1 + 1 + 2 * s) M' := fun _ => trivial
      refine ⟨⟨oh, fun y => absurd y (by decide), fun _ => ⟨ow, fun y => absurd y (by decide), fun _ => ⟨v1, fun y => absurd y q1, fun _ => ⟨fun _ => ⟨fun _ => ⟨r1, o8 _⟩, fun _ => trivial⟩, fun _ => trivial⟩⟩⟩⟩, ?_⟩
      generalize hR : fv_X3_remember 1 M = R at r2
      obtain ⟨Z, hZ⟩ : ∃ Z, Z = ps_st (ps_st R (1 + 1 + 1 + 2 * s) 11 x) (1 + 1 + 1 + 2 * s) 12 (ps_st R (1 + 1 + 1 + 2 * s) 11 x (1 + 1 + 1 + 2 * s) 12 + 1) := ⟨_, rfl⟩
      have z1 : Z (1 + 1 + 1 + 2 * s) = upd (upd (M (1 + 1 + 1 + 2 * s)) 11 x) 12 (M (1 + 1 + 1 + 2 * s) 12 + 1) := by
        rw [hZ, ps_st_self, ps_st_self, r2 _ (by omega)]; rfl
      have z2 : ∀ i, i ≠ 1 + 1 + 1 + 2 * s → Z i = R i := fun i hi => by rw [hZ]; exact (ps_st_ne hi).trans (ps_st_ne hi)
      have g13 : M (1 + 1 + 1 + 2 * s) 12 + 1 = 1 ∨ M (1 + 1 + 1 + 2 * s) 12 + 1 = 2 ∨ M (1 + 1 + 1 + 2 * s) 12 + 1 = 3 := by
        rcases g12 with y | ⟨y | y | y, -⟩
        · rw [y]; decide
        · rw [y]; decide
        · rw [y]; decide
        · rw [y] at q3; exact absurd q3 (by decide)
      have key := act_st hS hx hs (M' := Z) (gv' := gv) (fun i i1 _ => by rw [hR]; exact z2 i i1) (fun _ _ => rfl) (by
        rw [z1, z2 _ (by omega), r2 _ (by omega)]
        exact ⟨g1, g2, g3, g4, g6, g7, g8, Or.inr ⟨g13, h0, h9⟩⟩)
      have ea : AR M n H k S h a b gv (Z (1 + 1 + 1 + 2 * s) 12, Z) := AR_ok (by
        rw [z1]
        show 0 ≤ (M (1 + 1 + 1 + 2 * s) 12 + 1).toInt
        rcases g13 with y | y | y <;> rw [y] <;> decide) key
      rw [hZ] at ea
      exact ea
    · rw [if_neg q3]
      exact ⟨⟨oh, fun y => absurd y (by decide), fun _ => ⟨ow, fun y => absurd y (by decide), fun _ => ⟨v1, fun y => absurd y q1, fun _ => ⟨fun _ => ⟨fun y => absurd y q3, fun _ => trivial⟩, fun _ => trivial⟩⟩⟩⟩, AR_err (by decide)⟩
  · rw [if_neg q2]
    exact ⟨⟨oh, fun y => absurd y (by decide), fun _ => ⟨ow, fun y => absurd y (by decide), fun _ => ⟨v1, fun y => absurd y q1, fun _ => ⟨fun y => absurd y q2, fun _ => trivial⟩⟩⟩⟩, AR_err (by decide)⟩
theorem x_move (hS : ST M n H k S) (hx : DI M 1 h a b gv) {s t p : Nat} (hs : s < a) (ht : t < a) (hp1 : 1 ≤ p) (hp : p ≤ 9999) : ok_X5_movePapers (nI s) (nI t) (nI p) M ∧ AR M n H k S h a b (fun s' => if s' = s then gv s - nI p else if s' = t then gv t + nI p else gv s') (fv_X5_movePapers (nI s) (nI t) (nI p) M) ∧ (s = t → (fv_X5_movePapers (nI s) (nI t) (nI p) M).1 < 0) := by
  have ha := hx.1.2.2.1
  have h1 := a_hs hx.1.1.2.1 ha hs
  have h2 := a_hs hx.1.1.2.1 ha ht
  obtain ⟨r1, r2, hRx⟩ := act_R hS hx
  have v1 : vp_in (nI s) 6 := pq_vin (by omega) (by omega)
  have v2 : vp_in (nI t) 6 := pq_vin (by omega) (by omega)
  have oh : ok_X2_hasStation 1 (nI s) M := trivial
  have oh2 : ok_X2_hasStation 1 (nI t) M := trivial
  have op : ok_X5_isPaperNumber (nI p) M := o_pn _ M
  obtain ⟨g1, g2, g3, ⟨g4, g5⟩, g6, g7, g8⟩ := (hx.2.1 s (by omega)).1 hs
  obtain ⟨f1, f2, f3, ⟨f4, f5⟩, f6, f7, f8⟩ := (hx.2.1 t (by omega)).1 ht
  have ep : (nI p).toInt = (p : Int) := nI_toInt (by omega)
  unfold fv_X5_movePapers ok_X5_movePapers
  rw [h1, if_neg (by decide), h2, if_neg (by decide), a_pn M hp1 hp, if_neg (by decide), pq_nI (show s < 4000 by omega), pq_nI (show t < 4000 by omega)]
  by_cases q0 : nI s = nI t
  · rw [if_pos q0]
    exact ⟨⟨oh, fun y => absurd y (by decide), fun _ => ⟨oh2, fun y => absurd y (by decide), fun _ => ⟨op, fun y => absurd y (by decide), fun _ => ⟨fun _ => trivial, fun y => absurd q0 y⟩⟩⟩⟩, AR_err (by decide), fun _ => (by decide : (-2 : Int32) < 0)⟩
  rw [if_neg q0]
  have hst : s ≠ t := fun y => q0 (by rw [y])
  have fin : ∀ {P : Prop}, s = t → P := fun y => absurd y hst
  by_cases q1 : nI p ≤ M (1 + 1 + 1 + 2 * s) 5
  · rw [if_pos q1]
    by_cases q2 : M (1 + 1 + 1 + 2 * t) 5 + nI p ≤ (9999 : Int32)
    · rw [if_pos q2]
      have o8 : ∀ M', ok_X5_movePapers_122 (1 + 1 + 1 + 2 * s) M' := fun _ => trivial
      refine ⟨⟨oh, fun y => absurd y (by decide), fun _ => ⟨oh2, fun y => absurd y (by decide), fun _ => ⟨op, fun y => absurd y (by decide), fun _ => ⟨fun y => absurd y q0, fun _ => ⟨v1, v2, fun _ => ⟨fun _ => ⟨r1, o8 _⟩, fun _ => trivial⟩, fun _ => trivial⟩⟩⟩⟩⟩, ?_, fin⟩
      have e2 : (M (1 + 1 + 1 + 2 * t) 5 + nI p).toInt = (M (1 + 1 + 1 + 2 * t) 5).toInt + (p : Int) := by rw [pq_add (by omega) (by omega), ep]
      have c2 : (M (1 + 1 + 1 + 2 * t) 5 + nI p).toInt ≤ 9999 := pq_le.mp q2
      rw [pq_le, ep] at q1
      have e1 : (M (1 + 1 + 1 + 2 * s) 5 - nI p).toInt = (M (1 + 1 + 1 + 2 * s) 5).toInt - (p : Int) := by rw [pq_sub (by omega) (by omega), ep]
      obtain ⟨s1, s2, s3⟩ := ST_rem hS
      generalize hR : fv_X3_remember 1 M = R at r2 hRx s1 s2
      obtain ⟨Z, hZ⟩ : ∃ Z, Z = ps_st (ps_st R (1 + 1 + 1 + 2 * s) 5 (R (1 + 1 + 1 + 2 * s) 5 - nI p)) (1 + 1 + 1 + 2 * t) 5 (ps_st R (1 + 1 + 1 + 2 * s) 5 (R (1 + 1 + 1 + 2 * s) 5 - nI p) (1 + 1 + 1 + 2 * t) 5 + nI p) := ⟨_, rfl⟩
      have hxA : DI (ps_st R (1 + 1 + 1 + 2 * s) 5 (R (1 + 1 + 1 + 2 * s) 5 - nI p)) 1 h a b (fun s' => if s' = s then gv s - nI p else gv s') := by
        refine DY_st hRx (s := s) (by omega) (fun i i1 _ => ps_st_ne i1) (fun s' hs' _ f g q => ⟨fun z => by dsimp only; rw [if_neg hs']; exact q.1 z, q.2⟩) ⟨fun _ => ?_, fun z => absurd hs z⟩
        dsimp only
        rw [if_pos rfl, ps_st_self, ps_st_ne (by omega), r2 _ (by omega), r2 _ (by omega)]
        refine ⟨g1, g2, g3, ?_, g6, ?_, g8⟩
        · show 0 ≤ (M (1 + 1 + 1 + 2 * s) 5 - nI p).toInt ∧ (M (1 + 1 + 1 + 2 * s) 5 - nI p).toInt ≤ 9999
          rw [e1]; omega
        · show M (1 + 1 + 1 + 2 * s) 5 - nI p + M (1 + 1 + 1 + 2 * s) 6 = gv s - nI p
          rw [← g7]; grind
      have y1 : ∀ i, i ≠ 1 + 1 + 1 + 2 * s → ps_st R (1 + 1 + 1 + 2 * s) 5 (R (1 + 1 + 1 + 2 * s) 5 - nI p) i = R i := fun i hi => ps_st_ne hi
      have y2 : ps_st R (1 + 1 + 1 + 2 * s) 5 (R (1 + 1 + 1 + 2 * s) 5 - nI p) (1 + 1 + 1 + 2 * s) 5 = M (1 + 1 + 1 + 2 * s) 5 - nI p := by rw [pq_stself, r2 _ (by omega)]
      generalize ps_st R (1 + 1 + 1 + 2 * s) 5 (R (1 + 1 + 1 + 2 * s) 5 - nI p) = Y at hZ hxA y1 y2
      have z2 : ∀ i, i ≠ 1 + 1 + 1 + 2 * t → Z i = Y i := fun i hi => by rw [hZ]; exact ps_st_ne hi
      have z1 : Z (1 + 1 + 1 + 2 * t) = upd (M (1 + 1 + 1 + 2 * t)) 5 (M (1 + 1 + 1 + 2 * t) 5 + nI p) := by
        rw [hZ, ps_st_self, y1 _ (by omega), r2 _ (by omega)]
      have hxB : DI Z 1 h a b (fun s' => if s' = s then gv s - nI p else if s' = t then gv t + nI p else gv s') := by
        refine DY_st hxA (s := t) (by omega) (fun i i1 _ => z2 i i1) (fun s' hs' _ f g q => ⟨fun z => ?_, q.2⟩) ⟨fun _ => ?_, fun z => absurd ht z⟩
        · have := q.1 z
          dsimp only at this ⊢
          by_cases y : s' = s
          · rw [if_pos y] at this ⊢; exact this
          · rw [if_neg y] at this ⊢; rw [if_neg hs']; exact this
        · dsimp only
          rw [if_neg (Ne.symm hst), if_pos rfl, z1, z2 _ (by omega), y1 _ (by omega), r2 _ (by omega)]
          refine ⟨f1, f2, f3, ?_, f6, ?_, f8⟩
          · show 0 ≤ (M (1 + 1 + 1 + 2 * t) 5 + nI p).toInt ∧ (M (1 + 1 + 1 + 2 * t) 5 + nI p).toInt ≤ 9999
            rw [e2] at c2 ⊢; omega
          · show M (1 + 1 + 1 + 2 * t) 5 + nI p + M (1 + 1 + 1 + 2 * t) 6 = gv t + nI p
            rw [← f7]; grind
      have ea : AR M n H k S h a b (fun s' => if s' = s then gv s - nI p else if s' = t then gv t + nI p else gv s') (Z (1 + 1 + 1 + 2 * s) 5, Z) := AR_ok (by
        rw [z2 _ (by omega), y2, e1]; omega) ⟨ST_frame s1 (fun i i1 i2 i3 => (z2 i (by omega)).trans (y1 i (by omega))), hxB, fun i hi => (z2 i (by omega)).trans ((y1 i (by omega)).trans (s2 i (by omega)))⟩
      rw [hZ] at ea
      exact ea
    · rw [if_neg q2]
      exact ⟨⟨oh, fun y => absurd y (by decide), fun _ => ⟨oh2, fun y => absurd y (by decide), fun _ => ⟨op, fun y => absurd y (by decide), fun _ => ⟨fun y => absurd y q0, fun _ => ⟨v1, v2, fun _ => ⟨fun y => absurd y q2, fun _ => trivial⟩, fun _ => trivial⟩⟩⟩⟩⟩, AR_err (by decide), fin⟩
  · rw [if_neg q1]
    exact ⟨⟨oh, fun y => absurd y (by decide), fun _ => ⟨oh2, fun y => absurd y (by decide), fun _ => ⟨op, fun y => absurd y (by decide), fun _ => ⟨fun y => absurd y q0, fun _ => ⟨v1, v2, fun y => absurd y q1, fun _ => trivial⟩⟩⟩⟩⟩, AR_err (by decide), fin⟩
end ACT
