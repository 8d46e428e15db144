/-! ===== the same days are told alike ===== -/
def HD (M : ps_M) (d h a b : Nat) : Prop := (M d 0 = nI h ∧ M d 1 = nI a ∧ M d 2 = nI b) ∧ (h ≤ 18 ∧ a ≤ 6 ∧ b ≤ 12)
theorem HD_EQ {M N : ps_M} {d e h a b : Nat} (hE : EQ M d N e) (hM : HD M d h a b) : HD N e h a b :=
  ⟨⟨(hE.1 0 (by omega)).symm.trans hM.1.1, (hE.1 1 (by omega)).symm.trans hM.1.2.1, (hE.1 2 (by omega)).symm.trans hM.1.2.2⟩, hM.2⟩
section SAME
variable {M N : ps_M} {d e h a b : Nat}
theorem e_served (hE : EQ M d N e) (hM : HD M d h a b) (x : Int32) : fv_X2_servedAnHourAt d x M = fv_X2_servedAnHourAt e x N := by
  have hN := HD_EQ hE hM
  rw [(cl_served hM.1.2.2 hM.2.2.2 x).1, (cl_served hN.1.2.2 hM.2.2.2 x).1]
  exact pq_sm_congr _ _ _ (fun c _ hc => by have hb := hM.2.2.2; rw [hE.2.2 c (by omega) 2 (by omega), hE.2.2 c (by omega) 0 (by omega)])
theorem e_clerksAt (hE : EQ M d N e) (hM : HD M d h a b) (x : Int32) : fv_X2_clerksAt d x M = fv_X2_clerksAt e x N := by
  have hN := HD_EQ hE hM
  rw [(cl_clerksAt hM.1.2.2 hM.2.2.2 x).1, (cl_clerksAt hN.1.2.2 hM.2.2.2 x).1]
  exact pq_sm_congr _ _ _ (fun c _ hc => by have hb := hM.2.2.2; rw [hE.2.2 c (by omega) 2 (by omega)])
theorem e_isOn (hE : EQ M d N e) {c : Nat} (hc : c < 12) : fv_X1_isOnDuty (d + 14 + 1 + c) M = fv_X1_isOnDuty (e + 14 + 1 + c) N := by
  unfold fv_X1_isOnDuty
  rw [hE.2.2 c hc 2 (by omega)]
theorem e_rests (hE : EQ M d N e) {c : Nat} (hc : c < 12) : fv_X1_rests (d + 14 + 1 + c) M = fv_X1_rests (e + 14 + 1 + c) N := by
  unfold fv_X1_rests
  rw [hE.2.2 c hc 5 (by omega)]
theorem e_isFree (hE : EQ M d N e) {c : Nat} (hc : c < 12) : fv_X1_isFree (d + 14 + 1 + c) M = fv_X1_isFree (e + 14 + 1 + c) N := by
  unfold fv_X1_isFree
  rw [e_isOn hE hc, e_rests hE hc]
theorem e_must (hE : EQ M d N e) {c : Nat} (hc : c < 12) : fv_X1_mustLeave (d + 14 + 1 + c) M = fv_X1_mustLeave (e + 14 + 1 + c) N := by
  unfold fv_X1_mustLeave
  rw [e_isOn hE hc, hE.2.2 c hc 3 (by omega), hE.2.2 c hc 1 (by omega)]
theorem e_before (hE : EQ M d N e) {c c' : Nat} (hc : c < 12) (hc' : c' < 12) : fv_X2_comesBefore d (nI c) (nI c') M = fv_X2_comesBefore e (nI c) (nI c') N := by
  unfold fv_X2_comesBefore
  rw [pq_nI (show c < 4000 by omega), pq_nI (show c' < 4000 by omega), hE.2.2 c hc 4 (by omega), hE.2.2 c' hc' 4 (by omega)]
theorem e_onDuty (hE : EQ M d N e) (hM : HD M d h a b) : fv_X2_clerksOnDuty d M = fv_X2_clerksOnDuty e N := by
  have hN := HD_EQ hE hM
  rw [(cl_onDuty hM.1.2.2 hM.2.2.2).1, (cl_onDuty hN.1.2.2 hM.2.2.2).1]
  exact pq_sm_congr _ _ _ (fun c _ hc => by have hb := hM.2.2.2; rw [e_isOn hE (by omega)])
theorem e_freeClerks (hE : EQ M d N e) (hM : HD M d h a b) : fv_X2_freeClerks d M = fv_X2_freeClerks e N := by
  have hN := HD_EQ hE hM
  rw [(cl_freeClerks hM.1.2.2 hM.2.2.2).1, (cl_freeClerks hN.1.2.2 hM.2.2.2).1]
  exact pq_sm_congr _ _ _ (fun c _ hc => by have hb := hM.2.2.2; rw [e_isFree hE (by omega)])
theorem e_worked (hE : EQ M d N e) (hM : HD M d h a b) : fv_X2_hoursWorked d M = fv_X2_hoursWorked e N := by
  have hN := HD_EQ hE hM
  rw [(cl_worked hM.1.2.2 hM.2.2.2).1, (cl_worked hN.1.2.2 hM.2.2.2).1]
  exact pq_sm_congr _ _ _ (fun c _ hc => by have hb := hM.2.2.2; rw [hE.2.2 c (by omega) 4 (by omega)])
theorem e_place (hE : EQ M d N e) (hM : HD M d h a b) {c : Nat} (hc : c < b) : fv_X2_placeAmongFree d (nI c) M = fv_X2_placeAmongFree e (nI c) N := by
  have hN := HD_EQ hE hM
  have hb := hM.2.2.2
  rw [(cl_place hM.1.2.2 hM.2.2.2 (by omega)).1, (cl_place hN.1.2.2 hM.2.2.2 (by omega)).1]
  exact pq_sm_congr _ _ _ (fun c' _ hc' => by rw [e_isFree hE (by omega), e_before hE (by omega) (by omega)])
theorem e_isCounted (hE : EQ M d N e) {s : Nat} (hs : s < 6) : fv_X4_isCounted (d + 1 + 1 + 2 * s) M = fv_X4_isCounted (e + 1 + 1 + 2 * s) N := by
  unfold fv_X4_isCounted
  rw [(hE.2.1 s hs).1 12 (by omega) (by omega)]
theorem e_agrees (hE : EQ M d N e) {s : Nat} (hs : s < 6) : fv_X4_countAgrees (d + 1 + 1 + 2 * s) M = fv_X4_countAgrees (e + 1 + 1 + 2 * s) N := by
  unfold fv_X4_countAgrees
  rw [(hE.2.1 s hs).1 11 (by omega) (by omega), (hE.2.1 s hs).1 10 (by omega) (by omega)]
theorem e_counted (hE : EQ M d N e) (hM : HD M d h a b) (x : Int32) : fv_X2_stationsCounted d x M = fv_X2_stationsCounted e x N := by
  have hN := HD_EQ hE hM
  rw [(cl_counted hM.1.2.1 hM.2.2.1 x).1, (cl_counted hN.1.2.1 hM.2.2.1 x).1]
  exact pq_sm_congr _ _ _ (fun c _ hc => by have ha := hM.2.2.1; rw [e_isCounted hE (by omega), e_agrees hE (by omega)])
theorem e_allArr (hE : EQ M d N e) {s : Nat} (hs : s < 6) : fv_X4_allArrivals (d + 1 + 1 + 2 * s) M = fv_X4_allArrivals (e + 1 + 1 + 2 * s) N := by
  rw [(cl_arrivals _ M).1, (cl_arrivals _ N).1]
  exact pq_sm_congr _ _ _ (fun t _ ht => (hE.2.1 s hs).2 t (by omega))
theorem e_hoursFor (hE : EQ M d N e) (hM : HD M d h a b) {s : Nat} (hs : s < 6) : fv_X2_hoursForQueueOf d (nI s) M = fv_X2_hoursForQueueOf e (nI s) N := by
  unfold fv_X2_hoursForQueueOf
  rw [pq_nI (show s < 4000 by omega), e_served hE hM, (hE.2.1 s hs).1 1 (by omega) (by omega)]
theorem e_total {h a b : Nat} {M N : ps_M} (hE : EQ M 1 N 1) (hM : HD M 1 h a b) {j : Nat} (hj : j = 1 ∨ j = 3 ∨ j = 4 ∨ j = 5 ∨ j = 6 ∨ j = 10) : fv_X5_total M 82 j = fv_X5_total N 82 j := by
  have hN := HD_EQ hE hM
  rw [(t_total hM.1.2.1 hM.2.2.1).2.1 j hj, (t_total hN.1.2.1 hM.2.2.1).2.1 j hj]
  exact pq_sm_congr _ _ _ (fun s _ hs => by have ha := hM.2.2.1; exact (hE.2.1 s (by omega)).1 j (by omega) (by omega))
end SAME
/-- a number of the whole, on two memories of the same day -/
theorem e_count {M N : ps_M} {h a b : Nat} (hE : EQ M 1 N 1) (hM : HD M 1 h a b) {k : Nat} (hk : k < 14) : (fv_X5_count (nI k) M).1 = (fv_X5_count (nI k) N).1 ∧ ok_X5_count (nI k) M ∧ (∀ i, i ≠ 82 → (fv_X5_count (nI k) M).2 i = M i) := by
  have t := t_total hM.1.2.1 hM.2.2.1
  match k, hk with
  | 0, _ => rw [show nI 0 = (0 : Int32) from rfl, v_count0, v_count0]; exact ⟨hE.1 0 (by omega), o_count0 M, fun _ _ => rfl⟩
  | 1, _ => rw [show nI 1 = (1 : Int32) from rfl, v_count1, v_count1]; exact ⟨hE.1 1 (by omega), o_count1 M, fun _ _ => rfl⟩
  | 2, _ => rw [show nI 2 = (2 : Int32) from rfl, v_count2, v_count2]; exact ⟨hE.1 2 (by omega), o_count2 M, fun _ _ => rfl⟩
  | 3, _ => rw [show nI 3 = (3 : Int32) from rfl, v_count3, v_count3]; exact ⟨e_onDuty hE hM, o_count3 (cl_onDuty hM.1.2.2 hM.2.2.2).2, fun _ _ => rfl⟩
  | 4, _ => rw [show nI 4 = (4 : Int32) from rfl, v_count4, v_count4]; exact ⟨e_freeClerks hE hM, o_count4 (cl_freeClerks hM.1.2.2 hM.2.2.2).2, fun _ _ => rfl⟩
  | 5, _ => rw [show nI 5 = (5 : Int32) from rfl, v_count5, v_count5]; exact ⟨e_total hE hM (by omega), o_count5 t.2.2, t.1⟩
  | 6, _ => rw [show nI 6 = (6 : Int32) from rfl, v_count6, v_count6]; exact ⟨e_total hE hM (by omega), o_count6 t.2.2, t.1⟩
  | 7, _ => rw [show nI 7 = (7 : Int32) from rfl, v_count7, v_count7]; exact ⟨e_total hE hM (by omega), o_count7 t.2.2, t.1⟩
  | 8, _ => rw [show nI 8 = (8 : Int32) from rfl, v_count8, v_count8]; exact ⟨e_total hE hM (by omega), o_count8 t.2.2, t.1⟩
  | 9, _ => rw [show nI 9 = (9 : Int32) from rfl, v_count9, v_count9]; exact ⟨e_total hE hM (by omega), o_count9 t.2.2, t.1⟩
  | 10, _ => rw [show nI 10 = (10 : Int32) from rfl, v_count10, v_count10]; exact ⟨e_counted hE hM 1, o_count10 (cl_counted hM.1.2.1 hM.2.2.1 1).2, fun _ _ => rfl⟩
  | 11, _ => rw [show nI 11 = (11 : Int32) from rfl, v_count11, v_count11]; exact ⟨e_counted hE hM 0, o_count11 (cl_counted hM.1.2.1 hM.2.2.1 0).2, fun _ _ => rfl⟩
  | 12, _ => rw [show nI 12 = (12 : Int32) from rfl, v_count12, v_count12]; exact ⟨e_total hE hM (by omega), o_count12 t.2.2, t.1⟩
  | 13, _ => rw [show nI 13 = (13 : Int32) from rfl, v_count13, v_count13]; exact ⟨e_worked hE hM, o_count13 (cl_worked hM.1.2.2 hM.2.2.2).2, fun _ _ => rfl⟩
theorem o_hoursFor {M : ps_M} {d h a b s : Nat} (hM : HD M d h a b) (hs : s < 6) : ok_X2_hoursForQueueOf d (nI s) M := by
  refine ⟨pq_vin hs (by omega), (cl_served hM.1.2.2 hM.2.2.2 _).2, fun _ => trivial, fun _ => ⟨fun q => ⟨fun z => ?_, trivial⟩, fun _ => trivial⟩⟩
  rw [z] at q
  exact absurd q (by decide)
theorem e_station {M N : ps_M} {h a b s : Nat} (hE : EQ M 1 N 1) (hM : HD M 1 h a b) (hs : s < a) {k : Nat} (hk : k < 8) : fv_X5_station (nI s) (nI k) M = fv_X5_station (nI s) (nI k) N ∧ ok_X5_station (nI s) (nI k) M := by
  have H1 := hM.1.2.1
  have ha := hM.2.2.1
  have N1 := (HD_EQ hE hM).1.2.1
  have hs6 : s < 6 := by omega
  match k, hk with
  | 0, _ => rw [show nI 0 = (0 : Int32) from rfl, v_st0 H1 ha hs, v_st0 N1 ha hs]; exact ⟨(hE.2.1 s hs6).1 1 (by omega) (by omega), o_st0 H1 ha hs⟩
  | 1, _ => rw [show nI 1 = (1 : Int32) from rfl, v_st1 H1 ha hs, v_st1 N1 ha hs]; exact ⟨(hE.2.1 s hs6).1 2 (by omega) (by omega), o_st1 H1 ha hs⟩
  | 2, _ => rw [show nI 2 = (2 : Int32) from rfl, v_st2 H1 ha hs, v_st2 N1 ha hs]; exact ⟨(hE.2.1 s hs6).1 3 (by omega) (by omega), o_st2 H1 ha hs⟩
  | 3, _ => rw [show nI 3 = (3 : Int32) from rfl, v_st3 H1 ha hs, v_st3 N1 ha hs]; exact ⟨(hE.2.1 s hs6).1 4 (by omega) (by omega), o_st3 H1 ha hs⟩
  | 4, _ => rw [show nI 4 = (4 : Int32) from rfl, v_st4 H1 ha hs, v_st4 N1 ha hs]; exact ⟨e_clerksAt hE hM _, o_st4 H1 ha hs (cl_clerksAt hM.1.2.2 hM.2.2.2 _).2⟩
  | 5, _ => rw [show nI 5 = (5 : Int32) from rfl, v_st5 H1 ha hs, v_st5 N1 ha hs]; exact ⟨e_served hE hM _, o_st5 H1 ha hs (cl_served hM.1.2.2 hM.2.2.2 _).2⟩
  | 6, _ => rw [show nI 6 = (6 : Int32) from rfl, v_st6 H1 ha hs, v_st6 N1 ha hs]; exact ⟨e_allArr hE hs6, o_st6 H1 ha hs (cl_arrivals _ M).2⟩
  | 7, _ => rw [show nI 7 = (7 : Int32) from rfl, v_st7 H1 ha hs, v_st7 N1 ha hs]; exact ⟨e_hoursFor hE hM hs6, o_st7 H1 ha hs (o_hoursFor hM hs6)⟩
theorem e_papers {M N : ps_M} {h a b s : Nat} (hE : EQ M 1 N 1) (hM : HD M 1 h a b) (hs : s < a) {k : Nat} (hk : k < 9) : fv_X5_papers (nI s) (nI k) M = fv_X5_papers (nI s) (nI k) N ∧ ok_X5_papers (nI s) (nI k) M := by
  have H1 := hM.1.2.1
  have ha := hM.2.2.1
  have N1 := (HD_EQ hE hM).1.2.1
  have hs6 : s < 6 := by omega
  match k, hk with
  | 0, _ => rw [show nI 0 = (0 : Int32) from rfl, v_pa0 H1 ha hs, v_pa0 N1 ha hs]; exact ⟨(hE.2.1 s hs6).1 5 (by omega) (by omega), o_pa0 H1 ha hs⟩
  | 1, _ => rw [show nI 1 = (1 : Int32) from rfl, v_pa1 H1 ha hs, v_pa1 N1 ha hs]; exact ⟨(hE.2.1 s hs6).1 6 (by omega) (by omega), o_pa1 H1 ha hs⟩
  | 2, _ => rw [show nI 2 = (2 : Int32) from rfl, v_pa2 H1 ha hs, v_pa2 N1 ha hs]; exact ⟨(hE.2.1 s hs6).1 7 (by omega) (by omega), o_pa2 H1 ha hs⟩
  | 3, _ => rw [show nI 3 = (3 : Int32) from rfl, v_pa3 H1 ha hs, v_pa3 N1 ha hs]; exact ⟨(hE.2.1 s hs6).1 8 (by omega) (by omega), o_pa3 H1 ha hs⟩
  | 4, _ => rw [show nI 4 = (4 : Int32) from rfl, v_pa4 H1 ha hs, v_pa4 N1 ha hs]; exact ⟨(hE.2.1 s hs6).1 9 (by omega) (by omega), o_pa4 H1 ha hs⟩
  | 5, _ => rw [show nI 5 = (5 : Int32) from rfl, v_pa5 H1 ha hs, v_pa5 N1 ha hs]; exact ⟨(hE.2.1 s hs6).1 10 (by omega) (by omega), o_pa5 H1 ha hs⟩
  | 6, _ => rw [show nI 6 = (6 : Int32) from rfl, v_pa6 H1 ha hs, v_pa6 N1 ha hs, e_isCounted hE hs6, (hE.2.1 s hs6).1 11 (by omega) (by omega)]; exact ⟨rfl, o_pa6 H1 ha hs⟩
  | 7, _ => rw [show nI 7 = (7 : Int32) from rfl, v_pa7 H1 ha hs, v_pa7 N1 ha hs, e_isCounted hE hs6, (hE.2.1 s hs6).1 11 (by omega) (by omega), (hE.2.1 s hs6).1 10 (by omega) (by omega)]; exact ⟨rfl, o_pa7 H1 ha hs⟩
  | 8, _ => rw [show nI 8 = (8 : Int32) from rfl, v_pa8 H1 ha hs, v_pa8 N1 ha hs]; exact ⟨(hE.2.1 s hs6).1 12 (by omega) (by omega), o_pa8 H1 ha hs⟩
theorem e_clerk {M N : ps_M} {h a b c : Nat} (hE : EQ M 1 N 1) (hM : HD M 1 h a b) (hc : c < b) {k : Nat} (hk : k < 7) : fv_X5_clerk (nI c) (nI k) M = fv_X5_clerk (nI c) (nI k) N ∧ ok_X5_clerk (nI c) (nI k) M := by
  have H2 := hM.1.2.2
  have hb := hM.2.2.2
  have N2 := (HD_EQ hE hM).1.2.2
  have hc12 : c < 12 := by omega
  match k, hk with
  | 0, _ => rw [show nI 0 = (0 : Int32) from rfl, v_ck0 H2 hb hc, v_ck0 N2 hb hc]; exact ⟨hE.2.2 c hc12 0 (by omega), o_ck0 H2 hb hc⟩
  | 1, _ => rw [show nI 1 = (1 : Int32) from rfl, v_ck1 H2 hb hc, v_ck1 N2 hb hc]; exact ⟨hE.2.2 c hc12 1 (by omega), o_ck1 H2 hb hc⟩
  | 2, _ => rw [show nI 2 = (2 : Int32) from rfl, v_ck2 H2 hb hc, v_ck2 N2 hb hc]; exact ⟨hE.2.2 c hc12 2 (by omega), o_ck2 H2 hb hc⟩
  | 3, _ => rw [show nI 3 = (3 : Int32) from rfl, v_ck3 H2 hb hc, v_ck3 N2 hb hc]; exact ⟨hE.2.2 c hc12 3 (by omega), o_ck3 H2 hb hc⟩
  | 4, _ => rw [show nI 4 = (4 : Int32) from rfl, v_ck4 H2 hb hc, v_ck4 N2 hb hc]; exact ⟨hE.2.2 c hc12 4 (by omega), o_ck4 H2 hb hc⟩
  | 5, _ => rw [show nI 5 = (5 : Int32) from rfl, v_ck5 H2 hb hc, v_ck5 N2 hb hc, e_rests hE hc12]; exact ⟨rfl, o_ck5 H2 hb hc⟩
  | 6, _ => rw [show nI 6 = (6 : Int32) from rfl, v_ck6 H2 hb hc, v_ck6 N2 hb hc, e_isFree hE hc12, e_place hE hM hc]; exact ⟨rfl, o_ck6 H2 hb hc⟩
theorem e_arrivals {M N : ps_M} {h a b s : Nat} (hE : EQ M 1 N 1) (hM : HD M 1 h a b) (hs : s < a) {t : Nat} (ht : t < 15) : fv_X5_arrivals (nI s) (nI t) M = fv_X5_arrivals (nI s) (nI t) N ∧ ok_X5_arrivals (nI s) (nI t) M := by
  have ha := hM.2.2.1
  rw [(v_ar hM.1.2.1 ha hs ht).1, (v_ar (HD_EQ hE hM).1.2.1 ha hs ht).1]
  exact ⟨(hE.2.1 s (by omega)).2 t ht, (v_ar hM.1.2.1 ha hs ht).2⟩
