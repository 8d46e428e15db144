/-! ===== an hour, hours ===== -/
theorem pKm_0 {a b w c : Nat} {f : Nat → Int32} (k : pK a b w 0 1 c f) : pKm a b w 0 c f := by
  refine ⟨fun q => ?_, k.2⟩
  rw [if_neg (by omega)]
  obtain ⟨k1, k2, k3, k4, k5, k6, k7⟩ := k.1 q
  exact ⟨k1, k2, k3, k4, k5, k6, by omega⟩
theorem h_hour {M N : ps_M} {d e h a b : Nat} {gv : Nat → Int32} (hh : h < 18) (hx : DI M d h a b gv) (hE : EQ M d N e) : ∃ (v : Int32) (Ms Ns M' N' : ps_M), fv_X2_serveQueues d (fv_X2_changeClerks d (fv_X2_letArrive d M)) = (v, Ms) ∧ fv_X2_serveQueues e (fv_X2_changeClerks e (fv_X2_letArrive e N)) = (v, Ns) ∧ ps_st (fv_X2_endHourOfClerks d Ms) d 0 (fv_X2_endHourOfClerks d Ms d 0 + 1) = M' ∧ ps_st (fv_X2_endHourOfClerks e Ns) e 0 (fv_X2_endHourOfClerks e Ns e 0 + 1) = N' ∧ (ok_X2_letArrive d M ∧ ok_X2_changeClerks d (fv_X2_letArrive d M) ∧ ok_X2_serveQueues d (fv_X2_changeClerks d (fv_X2_letArrive d M)) ∧ ok_X2_endHourOfClerks d Ms) ∧ (∀ k, (k < d ∨ d + 27 ≤ k) → M' k = M k) ∧ DI M' d (h + 1) a b gv ∧ v + TS M d a = TS M' d a ∧ EQ M' d N' e ∧ (∀ c, c < b → M (d + 14 + 1 + c) 2 = -5 → M (d + 14 + 1 + c) 5 = 1 → M' (d + 14 + 1 + c) 5 = 0) := by
  have hb := hx.1.2.2.2
  have ha := hx.1.2.2.1
  obtain ⟨a1, a2, a3, a4, a5, a6⟩ := h_arrive hx hE
  generalize fv_X2_letArrive d M = MA at a2 a3 a4 a5 a6
  generalize fv_X2_letArrive e N = NA at a6
  obtain ⟨b1, b2, b3, b4, b5⟩ := h_turn (w := h) b 0 ps_FU MA NA (by omega) (pq_fu (by omega)) (DY_mono a5 (fun _ _ _ _ k => k) (fun c _ f k => pKm_0 k)) a6
  have eC : fv_X2_changeClerks d MA = fv_X2_changeClerks_2 ps_FU d (nI 0) MA := rfl
  have eC' : fv_X2_changeClerks e NA = fv_X2_changeClerks_2 ps_FU e (nI 0) NA := rfl
  have oC : ok_X2_changeClerks d MA := b1
  rw [eC, eC']
  generalize fv_X2_changeClerks_2 ps_FU d (nI 0) MA = MC at b2 b3 b4 b5
  generalize fv_X2_changeClerks_2 ps_FU e (nI 0) NA = NC at b5
  obtain ⟨c1, c2, c3, c4, c5, c6, c7⟩ := h_serve b3 b5
  have p1 : fv_X2_serveQueues d MC = ((fv_X2_serveQueues d MC).1, (fv_X2_serveQueues d MC).2) := rfl
  have p2 : fv_X2_serveQueues e NC = ((fv_X2_serveQueues d MC).1, (fv_X2_serveQueues e NC).2) := by rw [c6]
  generalize (fv_X2_serveQueues d MC).2 = MS at p1 c2 c3 c4 c5 c7
  generalize (fv_X2_serveQueues e NC).2 = NS at p2 c7
  generalize (fv_X2_serveQueues d MC).1 = v at p1 p2 c5
  obtain ⟨M', N', d1, d2, d3, d4, d5, d6, d7, d8⟩ := h_end hh c4 c7
  refine ⟨v, MS, NS, M', N', p1, p2, d1, d2, ⟨a1, oC, c1, d3⟩, fun k hk => (d4 k hk).trans ((c2 k hk).trans ((b2 k (by omega)).trans (a2 k hk))), d6, ?_, d8, fun c hc g1 g2 => ?_⟩
  · have e1 : TS M d a = TS MC d a := pq_sm_congr _ _ _ (fun s _ hs => by rw [b2 _ (by omega), a4 s (by omega)])
    rw [e1, c5, d7]
  · have g1' : MA (d + 14 + 1 + c) 2 = -5 := by rw [a3]; exact g1
    have g2' : MA (d + 14 + 1 + c) 5 = 1 := by rw [a3]; exact g2
    obtain ⟨w1, w2⟩ := b4 c (by omega) g1' g2'
    rw [← c3] at w1 w2
    rw [d5 c hc]
    exact eF_rest w1 w2
theorem h_hours {d e a b t : Nat} {gv : Nat → Int32} (ht : t < 4000) : ∀ (k i n h : Nat) (acc : Int32) (M N : ps_M), i + k = t → k < n → h + k ≤ 18 → DI M d h a b gv → EQ M d N e → ∃ (v : Int32) (M' N' : ps_M), fv_X2_letHoursPass_4 n d (nI t) acc (nI i) M = (v, M') ∧ fv_X2_letHoursPass_4 n e (nI t) acc (nI i) N = (v, N') ∧ ok_X2_letHoursPass_4 n d (nI t) acc (nI i) M ∧ (∀ k, (k < d ∨ d + 27 ≤ k) → M' k = M k) ∧ DI M' d (h + k) a b gv ∧ v + TS M d a = acc + TS M' d a ∧ EQ M' d N' e ∧ (k = 0 → M' = M) ∧ (k = 1 → ∀ c, c < b → M (d + 14 + 1 + c) 2 = -5 → M (d + 14 + 1 + c) 5 = 1 → M' (d + 14 + 1 + c) 5 = 0) := by
  intro k
  induction k with
  | zero =>
    intro i n h acc M N h1 h2 h3 hx hE
    cases n with
    | zero => omega
    | succ n =>
      rw [fv_X2_letHoursPass_4_s, fv_X2_letHoursPass_4_s, ok_X2_letHoursPass_4_s]
      simp only [pq_leT (show ¬ i < t by omega) (by omega) (by omega), if_true, true_implies, not_true_eq_false, false_implies, and_true]
      exact ⟨acc, M, N, rfl, rfl, trivial, fun _ _ => rfl, hx, rfl, hE, rfl, fun q => absurd q (by omega)⟩
  | succ k ih =>
    intro i n h acc M N h1 h2 h3 hx hE
    cases n with
    | zero => omega
    | succ n =>
      obtain ⟨v, Ms, Ns, M', N', e1, e2, e3, e4, ⟨o1, o2, o3, o4⟩, f1, f2, f3, f4, f5⟩ := h_hour (by omega) hx hE
      obtain ⟨v2, M2, N2, g1, g2, g3, g4, g5, g6, g7, g8, g9⟩ := ih (i + 1) n (h + 1) (acc + v) M' N' (by omega) (by omega) (by omega) f2 f4
      rw [fv_X2_letHoursPass_4_s, fv_X2_letHoursPass_4_s, ok_X2_letHoursPass_4_s]
      simp only [pq_leF (show i < t by omega) (by omega), e1, e2, e3, e4, o1, o2, o3, o4, fv_X2_letHoursPass_38, ok_X2_letHoursPass_38, pq_nIadd1, if_false, false_implies, not_false_eq_true, true_implies, true_and]
      refine ⟨v2, M2, N2, g1, g2, ?_, fun k hk => (g4 k hk).trans (f1 k hk), by rw [show h + (k + 1) = h + 1 + k by omega]; exact g5, ?_, g7, fun q => absurd q (by omega), fun q c hc w1 w2 => ?_⟩
      · exact g3
      · have : v2 + TS M d a + v = acc + v + TS M2 d a := by
          rw [← f3] at g6
          rw [← g6]; grind
        grind
      · rw [g8 (by omega)]
        exact f5 c hc w1 w2
theorem h_pass {d e a b h t : Nat} {gv : Nat → Int32} {M N : ps_M} (ht : h + t ≤ 18) (hx : DI M d h a b gv) (hE : EQ M d N e) : ∃ (v : Int32) (M' N' : ps_M), fv_X2_letHoursPass d (nI t) M = (v, M') ∧ fv_X2_letHoursPass e (nI t) N = (v, N') ∧ ok_X2_letHoursPass d (nI t) M ∧ (∀ k, (k < d ∨ d + 27 ≤ k) → M' k = M k) ∧ DI M' d (h + t) a b gv ∧ v + TS M d a = TS M' d a ∧ EQ M' d N' e ∧ (t = 1 → ∀ c, c < b → M (d + 14 + 1 + c) 2 = -5 → M (d + 14 + 1 + c) 5 = 1 → M' (d + 14 + 1 + c) 5 = 0) := by
  obtain ⟨v, M', N', g1, g2, g3, g4, g5, g6, g7, g8, g9⟩ := h_hours (t := t) (by omega) t 0 ps_FU h 0 M N (by omega) (pq_fu (by omega)) ht hx hE
  exact ⟨v, M', N', g1, g2, g3, g4, g5, by rw [g6, Int32.zero_add], g7, g9⟩
theorem pq_le18 {h t : Nat} (hh : h ≤ 18) (ht : t ≤ 18) : (nI h + nI t ≤ (18 : Int32)) = (h + t ≤ 18) := by
  rw [nI_add, show (18 : Int32) = nI 18 from rfl]
  exact propext (nI_leI (by omega) (by omega))
/-- the day that is told ahead: the forecast -/
theorem f_start {M : ps_M} {h a b : Nat} {gv : Nat → Int32} (hx : DI M 1 h a b gv) : ok_X2_copyFrom 28 1 M ∧ (∀ k, (k < 28 ∨ 55 ≤ k) → fv_X2_copyFrom 28 1 M k = M k) ∧ EQ (fv_X2_copyFrom 28 1 M) 28 M 1 ∧ DI (fv_X2_copyFrom 28 1 M) 28 h a b gv := by
  obtain ⟨cp, ok⟩ := cp_day (M := M) (d := 28) (e := 1) (by omega)
  exact ⟨ok, fun k hk => cp.1 k hk, CP_EQ cp, DI_EQ (CP_EQ cp) hx⟩
theorem x_queueIn {M : ps_M} {h a b s t : Nat} {gv : Nat → Int32} (hx : DI M 1 h a b gv) (hs : s < a) (ht : h + t ≤ 18) : ok_X5_queueIn (nI s) (nI t) M ∧ (∀ k, (k < 28 ∨ 55 ≤ k) → (fv_X5_queueIn (nI s) (nI t) M).2 k = M k) ∧ ∃ v M' N', fv_X2_letHoursPass 1 (nI t) M = (v, M') ∧ fv_X5_queueIn (nI s) (nI t) M = (M' (1 + 1 + 1 + 2 * s) 1, N') := by
  have ha := hx.1.2.2.1
  obtain ⟨f1, f2, f3, f4⟩ := f_start hx
  obtain ⟨v, N', M', g1, g2, g3, g4, g5, g6, g7, -⟩ := h_pass ht f4 f3
  have hs1 := a_hs hx.1.1.2.1 ha hs
  have oh : ok_X2_hasStation 1 (nI s) M := trivial
  have hw : fv_X5_isWithin (nI t) 0 18 M = 1 := a_wi (l := 0) (m := 18) M (by omega) (by omega) (by omega)
  have ow : ok_X5_isWithin (nI t) 0 18 M := trivial
  have h18 : (nI h + nI t ≤ (18 : Int32)) = True := by rw [pq_le18 hx.1.2.1 (by omega)]; exact eq_true ht
  have v1 : vp_in (nI s) 6 := pq_vin (by omega) (by omega)
  have e1 : N' (28 + 1 + 1 + 2 * s) 1 = M' (1 + 1 + 1 + 2 * s) 1 := (g7.2.1 s (by omega)).1 1 (by omega) (by omega)
  have eQ : fv_X5_queueIn (nI s) (nI t) M = (M' (1 + 1 + 1 + 2 * s) 1, N') := by
    unfold fv_X5_queueIn
    rw [hs1, if_neg (by decide), hw, if_neg (by decide), hx.1.1.1, if_pos (of_eq_true h18), g1, pq_nI (show s < 4000 by omega)]
    show (N' (28 + 1 + 1 + 2 * s) 1, N') = _
    rw [e1]
  refine ⟨?_, fun k hk => by rw [eQ]; exact (g4 k (by omega)).trans (f2 k hk), v, M', N', g2, eQ⟩
  unfold ok_X5_queueIn
  rw [hs1, hw, hx.1.1.1]
  exact ⟨oh, fun q => absurd q (by decide), fun _ => ⟨ow, fun q => absurd q (by decide), fun _ => ⟨fun _ => ⟨f1, g3, v1, trivial⟩, fun _ => trivial⟩⟩⟩
theorem x_pass {M : ps_M} {n h a b t : Nat} {H : Nat → ps_M} {k : Prop} {S : ps_M} {gv : Nat → Int32} (hS : ST M n H k S) (hx : DI M 1 h a b gv) (h1 : 1 ≤ t) (ht : h + t ≤ 18) : ok_X5_pass (nI t) M ∧ ST (fv_X5_pass (nI t) M).2 (h_len n) (h_push n H M) k S ∧ DI (fv_X5_pass (nI t) M).2 1 (h + t) a b gv ∧ (fv_X5_pass (nI t) M).1 + TS M 1 a = TS (fv_X5_pass (nI t) M).2 1 a ∧ (∀ i, 194 ≤ i → (fv_X5_pass (nI t) M).2 i = M i) ∧ (t = 1 → ∀ c, c < b → M (1 + 14 + 1 + c) 2 = -5 → M (1 + 14 + 1 + c) 5 = 1 → (fv_X5_pass (nI t) M).2 (1 + 14 + 1 + c) 5 = 0) ∧ ∃ v M', fv_X2_letHoursPass 1 (nI t) M = (v, M') ∧ EQ M' 1 (fv_X5_pass (nI t) M).2 1 := by
  obtain ⟨s1, s2, s3⟩ := ST_rem hS
  have hE : EQ (fv_X3_remember 1 M) 1 M 1 := EQ_frame (fun k k1 k2 => s2 k (by omega))
  have hxR := DI_EQ hE hx
  obtain ⟨v, M', N', g1, g2, g3, g4, g5, g6, g7, g8⟩ := h_pass ht hxR hE
  have hw : fv_X5_isWithin (nI t) 1 18 M = 1 := a_wi (l := 1) (m := 18) M (by omega) (by omega) (by omega)
  have ow : ok_X5_isWithin (nI t) 1 18 M := trivial
  have h18 : (nI h + nI t ≤ (18 : Int32)) = True := by rw [pq_le18 hx.1.2.1 (by omega)]; exact eq_true ht
  have eP : fv_X5_pass (nI t) M = (v, M') := by
    unfold fv_X5_pass
    rw [hw, if_neg (by decide), hx.1.1.1, if_pos (of_eq_true h18), g1]
  have eT : TS (fv_X3_remember 1 M) 1 a = TS M 1 a := pq_sm_congr _ _ _ (fun s _ hs => by have ha := hx.1.2.2.1; rw [s2 _ (by omega)])
  rw [eP]
  refine ⟨?_, ST_frame s1 (fun i i1 i2 i3 => g4 i (by omega)), g5, by rw [← eT]; exact g6, fun i hi => (g4 i (by omega)).trans (s2 i (by omega)), fun q c hc w1 w2 => ?_, v, N', g2, g7.symm⟩
  · unfold ok_X5_pass
    rw [hw, hx.1.1.1]
    exact ⟨ow, fun q => absurd q (by decide), fun _ => ⟨fun _ => ⟨s3, g3, trivial⟩, fun _ => trivial⟩⟩
  · have hb := hx.1.2.2.2
    exact g8 q c hc (by rw [s2 _ (by omega)]; exact w1) (by rw [s2 _ (by omega)]; exact w2)
