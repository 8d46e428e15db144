/-! ===== an hour: arrivals, turns, service, its end; hours that pass. Two days that are the same stay so ===== -/
/-- the stations before i have new numbers F -/
def RW (M0 M : ps_M) (d : Nat) (F : Nat → Nat → Int32) (i : Nat) : Prop := (∀ k, (∀ s, s < i → k ≠ d + 1 + 1 + 2 * s) → M k = M0 k) ∧ ∀ s, s < i → M (d + 1 + 1 + 2 * s) = F s
theorem RW_0 (M : ps_M) (d : Nat) (F : Nat → Nat → Int32) : RW M M d F 0 := ⟨fun _ _ => rfl, fun s hs => absurd hs (by omega)⟩
theorem RW_step {M0 M M' : ps_M} {d i : Nat} {F : Nat → Nat → Int32} (h : RW M0 M d F i) (hM : ∀ k, k ≠ d + 1 + 1 + 2 * i → M' k = M k) (hn : M' (d + 1 + 1 + 2 * i) = F i) : RW M0 M' d F (i + 1) := by
  refine ⟨fun k hk => ?_, fun s hs => ?_⟩
  · rw [hM k (hk i (by omega))]
    exact h.1 k (fun s hs => hk s (by omega))
  · by_cases e : s = i
    · rw [e]; exact hn
    · rw [hM _ (by omega)]; exact h.2 s (by omega)
theorem RW_st {M0 M : ps_M} {d i s : Nat} {F : Nat → Nat → Int32} (h : RW M0 M d F i) (hs : i ≤ s) : M (d + 1 + 1 + 2 * s) = M0 (d + 1 + 1 + 2 * s) := h.1 _ (fun s' hs' => by omega)
theorem RW_ar {M0 M : ps_M} {d i : Nat} {F : Nat → Nat → Int32} (h : RW M0 M d F i) (s : Nat) : M (d + 1 + 1 + 2 * s + 1) = M0 (d + 1 + 1 + 2 * s + 1) := h.1 _ (fun s' hs' => by omega)
theorem RW_hd {M0 M : ps_M} {d i : Nat} {F : Nat → Nat → Int32} (h : RW M0 M d F i) : M d = M0 d := h.1 _ (fun s' hs' => by omega)
theorem RW_ck {M0 M : ps_M} {d i : Nat} {F : Nat → Nat → Int32} (h : RW M0 M d F i) (hi : i ≤ 6) (c : Nat) : M (d + 14 + 1 + c) = M0 (d + 14 + 1 + c) := h.1 _ (fun s' hs' => by omega)
theorem RW_out {M0 M : ps_M} {d i : Nat} {F : Nat → Nat → Int32} (h : RW M0 M d F i) (hi : i ≤ 6) : ∀ k, (k < d ∨ d + 27 ≤ k) → M k = M0 k := fun k hk => h.1 k (fun s hs => by omega)
theorem DY_RW {M0 M : ps_M} {d h a b : Nat} {F : Nat → Nat → Int32} {S S' : Nat → (Nat → Int32) → (Nat → Int32) → Prop} {K : Nat → (Nat → Int32) → Prop} (hx : DY M0 d h a b S K) (hr : RW M0 M d F a) (h1 : ∀ s, s < a → S s (M0 (d + 1 + 1 + 2 * s)) (M0 (d + 1 + 1 + 2 * s + 1)) → S' s (F s) (M0 (d + 1 + 1 + 2 * s + 1))) (h2 : ∀ s, ¬ s < a → ∀ f g, S s f g → S' s f g) : DY M d h a b S' K := by
  have ha := hx.1.2.2.1
  refine ⟨by unfold HD; rw [RW_hd hr]; exact hx.1, fun s hs => ?_, fun c hc => by rw [RW_ck hr ha]; exact hx.2.2 c hc⟩
  rw [RW_ar hr]
  by_cases q : s < a
  · rw [hr.2 s q]; exact h1 s q (hx.2.1 s hs)
  · rw [RW_st hr (by omega)]; exact h2 s q _ _ (hx.2.1 s hs)
theorem EQ_RW {M0 M N0 N : ps_M} {d e a : Nat} {F G : Nat → Nat → Int32} (hE : EQ M0 d N0 e) (ha : a ≤ 6) (hr : RW M0 M d F a) (hr' : RW N0 N e G a) (hFG : ∀ s, s < a → ∀ j, 1 ≤ j → j ≤ 12 → F s j = G s j) : EQ M d N e := by
  refine ⟨fun j hj => by rw [RW_hd hr, RW_hd hr']; exact hE.1 j hj, fun s hs => ⟨fun j h1 h2 => ?_, fun t ht => by rw [RW_ar hr, RW_ar hr']; exact (hE.2.1 s hs).2 t ht⟩, fun c hc j hj => by rw [RW_ck hr ha, RW_ck hr' ha]; exact hE.2.2 c hc j hj⟩
  by_cases q : s < a
  · rw [hr.2 s q, hr'.2 s q]; exact hFG s q j h1 h2
  · rw [RW_st hr (by omega), RW_st hr' (by omega)]; exact (hE.2.1 s hs).1 j h1 h2
/-- the clerks before i have new numbers F -/
def RK (M0 M : ps_M) (d : Nat) (F : Nat → Nat → Int32) (i : Nat) : Prop := (∀ k, (∀ c, c < i → k ≠ d + 14 + 1 + c) → M k = M0 k) ∧ ∀ c, c < i → M (d + 14 + 1 + c) = F c
theorem RK_0 (M : ps_M) (d : Nat) (F : Nat → Nat → Int32) : RK M M d F 0 := ⟨fun _ _ => rfl, fun s hs => absurd hs (by omega)⟩
theorem RK_step {M0 M M' : ps_M} {d i : Nat} {F : Nat → Nat → Int32} (h : RK M0 M d F i) (hM : ∀ k, k ≠ d + 14 + 1 + i → M' k = M k) (hn : M' (d + 14 + 1 + i) = F i) : RK M0 M' d F (i + 1) := by
  refine ⟨fun k hk => ?_, fun s hs => ?_⟩
  · rw [hM k (hk i (by omega))]
    exact h.1 k (fun s hs => hk s (by omega))
  · by_cases e : s = i
    · rw [e]; exact hn
    · rw [hM _ (by omega)]; exact h.2 s (by omega)
theorem RK_ck {M0 M : ps_M} {d i c : Nat} {F : Nat → Nat → Int32} (h : RK M0 M d F i) (hc : i ≤ c) : M (d + 14 + 1 + c) = M0 (d + 14 + 1 + c) := h.1 _ (fun s' hs' => by omega)
/-! arrivals -/
def aF (M : ps_M) (d h : Nat) (s : Nat) : Nat → Int32 := upd (M (d + 1 + 1 + 2 * s)) 1 (M (d + 1 + 1 + 2 * s) 1 + M (d + 1 + 1 + 2 * s + 1) h)
theorem ha_loop {M0 : ps_M} {d h a b : Nat} (hM : HD M0 d h a b) (hh : h < 15) : ∀ (k i n : Nat) (M : ps_M), i + k = a → k < n → RW M0 M d (aF M0 d h) i → RW M0 (fv_X2_letArrive_12 n d (nI i) M) d (aF M0 d h) a ∧ ok_X2_letArrive_12 n d (nI i) M := by
  have ha := hM.2.2.1
  intro k
  induction k with
  | zero =>
    intro i n M h1 h2 hr
    cases n with
    | zero => omega
    | succ n =>
      have hia : i = a := by omega
      subst hia
      rw [fv_X2_letArrive_12_s, ok_X2_letArrive_12_s, RW_hd hr, hM.1.2.1]
      simp only [pq_leT (show ¬ i < i by omega) (by omega) (by omega), if_true, true_implies, not_true_eq_false, false_implies, and_true]
      exact hr
  | succ k ih =>
    intro i n M h1 h2 hr
    cases n with
    | zero => omega
    | succ n =>
      have v1 : vp_in (nI i) 6 := pq_vin (by omega) (by omega)
      have v2 : vp_in (nI h) 15 := pq_vin hh (by omega)
      have r := ih (i + 1) n (ps_st M (d + 1 + 1 + 2 * i) 1 (M (d + 1 + 1 + 2 * i) 1 + M (d + 1 + 1 + 2 * i + 1) h)) (by omega) (by omega) (RW_step hr (fun k hk => ps_st_ne hk) (by rw [ps_st_self, RW_st hr (by omega), RW_ar hr]; rfl))
      rw [fv_X2_letArrive_12_s, ok_X2_letArrive_12_s, RW_hd hr, hM.1.2.1, hM.1.1]
      simp only [pq_leF (show i < a by omega) (by omega), fv_X2_letArrive_48, ok_X2_letArrive_48, pq_nI (show i < 4000 by omega), pq_nI (show h < 4000 by omega), v1, v2, pq_nIadd1, if_false, false_implies, not_false_eq_true, true_implies, true_and, and_true]
      exact r
theorem h_arrive {M N : ps_M} {d e h a b : Nat} {gv : Nat → Int32} (hx : DI M d h a b gv) (hE : EQ M d N e) : ok_X2_letArrive d M ∧ (∀ k, (k < d ∨ d + 27 ≤ k) → fv_X2_letArrive d M k = M k) ∧ (∀ c, fv_X2_letArrive d M (d + 14 + 1 + c) = M (d + 14 + 1 + c)) ∧ (∀ s, s < 6 → fv_X2_letArrive d M (d + 1 + 1 + 2 * s) 3 = M (d + 1 + 1 + 2 * s) 3) ∧ DY (fv_X2_letArrive d M) d h a b (pS False (h + 1) a gv) (pK a b h 0 1) ∧ EQ (fv_X2_letArrive d M) d (fv_X2_letArrive e N) e := by
  have hM := hx.1
  have hN := HD_EQ hE hM
  have ha := hM.2.2.1
  have h18 := hM.2.1
  unfold fv_X2_letArrive ok_X2_letArrive
  rw [hM.1.1, hN.1.1]
  by_cases q : h < 15
  · have c1 : nI h < (15 : Int32) := nI_lt (b := 15) q (by omega)
    obtain ⟨r1, r2⟩ := ha_loop hM q a 0 ps_FU M (by omega) (pq_fu (by omega)) (RW_0 _ _ _)
    obtain ⟨r3, r4⟩ := ha_loop hN q a 0 ps_FU N (by omega) (pq_fu (by omega)) (RW_0 _ _ _)
    have r1 : RW M (fv_X2_letArrive_12 ps_FU d 0 M) d (aF M d h) a := r1
    have r3 : RW N (fv_X2_letArrive_12 ps_FU e 0 N) e (aF N e h) a := r3
    rw [if_pos c1, if_pos c1]
    refine ⟨⟨fun _ => r2, fun z => absurd c1 z⟩, RW_out r1 ha, RW_ck r1 ha, fun s hs => ?_, ?_, ?_⟩
    · by_cases z : s < a
      · rw [r1.2 s z]; rfl
      · rw [RW_st r1 (by omega)]
    · refine DY_RW hx r1 (fun s hs k => ⟨fun _ => SI_arrive q (k.1 hs), fun z => absurd hs z⟩) (fun s hs f g k => ⟨fun z => absurd z hs, k.2⟩)
    · refine EQ_RW hE ha r1 r3 (fun s hs j j1 j2 => ?_)
      unfold aF upd
      rw [(hE.2.1 s (by omega)).1 1 (by omega) (by omega), (hE.2.1 s (by omega)).2 h (by omega), (hE.2.1 s (by omega)).1 j j1 j2]
  · have c1 : ¬ nI h < (15 : Int32) := nI_nlt (b := 15) (by omega) (by omega)
    rw [if_neg c1, if_neg c1]
    refine ⟨⟨fun z => absurd z c1, fun _ => trivial⟩, fun _ _ => rfl, fun _ => rfl, fun _ _ => rfl, DY_mono hx (fun s _ f g k => ⟨fun z => SI_later (by omega) (k.1 z), k.2⟩) (fun c _ f k => k), hE⟩
/-! service -/
def vF (M : ps_M) (d s : Nat) : Int32 := sVf (M (d + 1 + 1 + 2 * s)) (fv_X2_servedAnHourAt d (nI s) M)
theorem hv_loop {M0 : ps_M} {d h a b : Nat} (hM : HD M0 d h a b) : ∀ (k i n : Nat) (acc : Int32) (M : ps_M), i + k = a → k < n → RW M0 M d (fun s => sF (vF M0 d s) (M0 (d + 1 + 1 + 2 * s))) i → (fv_X2_serveQueues_4 n d acc (nI i) M).1 = pq_sm (vF M0 d) k i acc ∧ RW M0 (fv_X2_serveQueues_4 n d acc (nI i) M).2 d (fun s => sF (vF M0 d s) (M0 (d + 1 + 1 + 2 * s))) a ∧ ok_X2_serveQueues_4 n d acc (nI i) M := by
  have ha := hM.2.2.1
  intro k
  induction k with
  | zero =>
    intro i n acc M h1 h2 hr
    cases n with
    | zero => omega
    | succ n =>
      have hia : i = a := by omega
      subst hia
      rw [fv_X2_serveQueues_4_s, ok_X2_serveQueues_4_s, RW_hd hr, hM.1.2.1]
      simp only [pq_leT (show ¬ i < i by omega) (by omega) (by omega), if_true, true_implies, not_true_eq_false, false_implies, and_true]
      exact ⟨rfl, hr⟩
  | succ k ih =>
    intro i n acc M h1 h2 hr
    cases n with
    | zero => omega
    | succ n =>
      have v1 : vp_in (nI i) 6 := pq_vin (by omega) (by omega)
      have hM2 : M d 2 = nI b := by rw [RW_hd hr]; exact hM.1.2.2
      have w1 : fv_X2_servedAnHourAt d (nI i) M = fv_X2_servedAnHourAt d (nI i) M0 := by
        rw [(cl_served hM2 hM.2.2.2 _).1, (cl_served hM.1.2.2 hM.2.2.2 _).1]
        exact pq_sm_congr _ _ _ (fun c _ _ => by rw [RW_ck hr (by omega)])
      obtain ⟨s1, s2, s3, s4⟩ := cl_serve (d + 1 + 1 + 2 * i) (fv_X2_servedAnHourAt d (nI i) M) M
      have es : M (d + 1 + 1 + 2 * i) = M0 (d + 1 + 1 + 2 * i) := RW_st hr (by omega)
      rw [es, w1] at s1 s3
      rw [w1] at s2 s4
      obtain ⟨i1, i2, i3⟩ := ih (i + 1) n (acc + vF M0 d i) (fv_X4_serveQueue (d + 1 + 1 + 2 * i) (fv_X2_servedAnHourAt d (nI i) M0) M).2 (by omega) (by omega) (RW_step hr s2 s3)
      have sv : (fv_X4_serveQueue (d + 1 + 1 + 2 * i) (fv_X2_servedAnHourAt d (nI i) M0) M).1 = vF M0 d i := s1
      have w3 : ok_X2_servedAnHourAt d (nI i) M := (cl_served hM2 hM.2.2.2 (nI i)).2
      rw [fv_X2_serveQueues_4_s, ok_X2_serveQueues_4_s, RW_hd hr, hM.1.2.1]
      simp only [pq_leF (show i < a by omega) (by omega), pq_nI (show i < 4000 by omega), v1, w1, w3, sv, s4, pq_nIadd1, if_false, false_implies, not_false_eq_true, true_implies, true_and, and_true]
      exact ⟨i1, i2, i3⟩
theorem sm_add {α β : Nat → Int32} : ∀ (k c : Nat) (x y : Int32), pq_sm (fun s => α s + β s) k c (x + y) = pq_sm α k c x + pq_sm β k c y := by
  intro k
  induction k with
  | zero => intro c x y; rfl
  | succ k ih =>
    intro c x y
    show pq_sm _ k (c + 1) (x + y + (α c + β c)) = pq_sm α k (c + 1) (x + α c) + pq_sm β k (c + 1) (y + β c)
    rw [← ih, show x + y + (α c + β c) = x + α c + (y + β c) by grind]
/-- a sum of small numbers from nothing is not below 0 -/
theorem sm_bd {δ : Nat → Int32} {B : Int} (hB : 0 ≤ B) : ∀ (k c : Nat) (acc : Int32), (∀ i, c ≤ i → i < c + k → 0 ≤ (δ i).toInt ∧ (δ i).toInt ≤ B) → 0 ≤ acc.toInt → acc.toInt + B * (k : Int) ≤ 1000000000 → 0 ≤ (pq_sm δ k c acc).toInt ∧ (pq_sm δ k c acc).toInt ≤ acc.toInt + B * (k : Int) := by
  intro k
  induction k with
  | zero => intro c acc _ h1 h2; exact ⟨h1, by show acc.toInt ≤ acc.toInt + B * 0; omega⟩
  | succ k ih =>
    intro c acc h h1 h2
    obtain ⟨g1, g2⟩ := h c (by omega) (by omega)
    have hk : B * ((k + 1 : Nat) : Int) = B * (k : Int) + B := by
      rw [show ((k + 1 : Nat) : Int) = (k : Int) + 1 by omega, Int.mul_add, Int.mul_one]
    have hbk : 0 ≤ B * (k : Int) := Int.mul_nonneg hB (by omega)
    rw [hk] at h2 ⊢
    have e : (acc + δ c).toInt = acc.toInt + (δ c).toInt := pq_add (by omega) (by omega)
    obtain ⟨i1, i2⟩ := ih (c + 1) (acc + δ c) (fun i i1 i2 => h i (by omega) (by omega)) (by omega) (by omega)
    exact ⟨i1, by show (pq_sm δ k (c + 1) (acc + δ c)).toInt ≤ _; omega⟩
/-- people served an hour at a station: not below 0 -/
theorem served_bd {M : ps_M} {d h a b w : Nat} {e q : Int} {S : Nat → (Nat → Int32) → (Nat → Int32) → Prop} {K : Nat → (Nat → Int32) → Prop} (hx : DY M d h a b S K) (hK : ∀ c, c < b → ∀ f, K c f → KI a w e q f) (x : Int32) : 0 ≤ (fv_X2_servedAnHourAt d x M).toInt ∧ (fv_X2_servedAnHourAt d x M).toInt ≤ 720 := by
  have hb := hx.1.2.2.2
  rw [(cl_served hx.1.1.2.2 hb x).1]
  have := sm_bd (δ := fun c => if M (d + 14 + 1 + c) 2 = x then M (d + 14 + 1 + c) 0 else 0) (B := 60) (by omega) b 0 0 (fun c _ hc => by
    have k := hK c (by omega) _ (hx.2.2 c (by omega))
    by_cases z : M (d + 14 + 1 + c) 2 = x
    · rw [if_pos z]; have := k.1; omega
    · rw [if_neg z, Int32.toInt_zero]; omega) (by rw [Int32.toInt_zero]; omega) (by rw [Int32.toInt_zero]; omega)
  rw [Int32.toInt_zero] at this
  omega
def TS (M : ps_M) (d a : Nat) : Int32 := pq_sm (fun s => M (d + 1 + 1 + 2 * s) 3) a 0 0
theorem h_serve {M N : ps_M} {d e h a b : Nat} {gv : Nat → Int32} (hx : DY M d h a b (pS False (h + 1) a gv) (pKm a b h b)) (hE : EQ M d N e) : ok_X2_serveQueues d M ∧ (∀ k, (k < d ∨ d + 27 ≤ k) → (fv_X2_serveQueues d M).2 k = M k) ∧ (∀ c, (fv_X2_serveQueues d M).2 (d + 14 + 1 + c) = M (d + 14 + 1 + c)) ∧ DY (fv_X2_serveQueues d M).2 d h a b (pS True (h + 1) a gv) (pKm a b h b) ∧ (fv_X2_serveQueues d M).1 + TS M d a = TS (fv_X2_serveQueues d M).2 d a ∧ (fv_X2_serveQueues d M).1 = (fv_X2_serveQueues e N).1 ∧ EQ (fv_X2_serveQueues d M).2 d (fv_X2_serveQueues e N).2 e := by
  have hM := hx.1
  have hN := HD_EQ hE hM
  have ha := hM.2.2.1
  obtain ⟨p1, p2, p3⟩ := hv_loop hM a 0 ps_FU 0 M (by omega) (pq_fu (by omega)) (RW_0 _ _ _)
  obtain ⟨q1, q2, q3⟩ := hv_loop hN a 0 ps_FU 0 N (by omega) (pq_fu (by omega)) (RW_0 _ _ _)
  have eS : fv_X2_serveQueues d M = fv_X2_serveQueues_4 ps_FU d 0 (nI 0) M := rfl
  have eS' : fv_X2_serveQueues e N = fv_X2_serveQueues_4 ps_FU e 0 (nI 0) N := rfl
  have ev : ∀ s, s < 6 → vF M d s = vF N e s := fun s hs => by
    unfold vF sVf
    rw [e_served hE hM, (hE.2.1 s hs).1 1 (by omega) (by omega), (hE.2.1 s hs).1 5 (by omega) (by omega)]
  rw [eS, eS']
  refine ⟨p3, RW_out p2 ha, RW_ck p2 ha, ?_, ?_, ?_, ?_⟩
  · refine DY_RW hx p2 (fun s hs k => ⟨fun _ => SI_serve (k.1 hs) ?_, fun z => absurd hs z⟩) (fun s hs f g k => ⟨fun z => absurd z hs, k.2⟩)
    exact (served_bd (w := h) (e := 1) (q := 2) hx (fun c hc f k => by have := k.1 hc; rw [if_pos hc] at this; exact this) (nI s)).1
  · rw [p1]
    have e1 : TS (fv_X2_serveQueues_4 ps_FU d 0 (nI 0) M).2 d a = pq_sm (fun s => vF M d s + M (d + 1 + 1 + 2 * s) 3) a 0 (0 + 0) := pq_sm_congr _ _ _ (fun s _ hs => by
      rw [p2.2 s (by omega)]
      show M (d + 1 + 1 + 2 * s) 3 + vF M d s = vF M d s + M (d + 1 + 1 + 2 * s) 3
      exact Int32.add_comm _ _)
    rw [e1, sm_add]
    rfl
  · rw [p1, q1]
    exact pq_sm_congr _ _ _ (fun s _ hs => ev s (by omega))
  · refine EQ_RW hE ha p2 q2 (fun s hs j j1 j2 => ?_)
    have f := (hE.2.1 s (by omega)).1
    show sF (vF M d s) (M (d + 1 + 1 + 2 * s)) j = sF (vF N e s) (N (e + 1 + 1 + 2 * s)) j
    unfold sF upd
    rw [ev s (by omega), f 1 (by omega) (by omega), f 2 (by omega) (by omega), f 3 (by omega) (by omega), f 4 (by omega) (by omega), f 5 (by omega) (by omega), f 6 (by omega) (by omega), f 10 (by omega) (by omega), f j j1 j2]
/-! the end of an hour -/
theorem he_loop {M0 : ps_M} {d h a b : Nat} (hM : HD M0 d h a b) : ∀ (k i n : Nat) (M : ps_M), i + k = b → k < n → RK M0 M d (fun c => eF (M0 (d + 14 + 1 + c))) i → RK M0 (fv_X2_endHourOfClerks_2 n d (nI i) M) d (fun c => eF (M0 (d + 14 + 1 + c))) b ∧ ok_X2_endHourOfClerks_2 n d (nI i) M := by
  have hb := hM.2.2.2
  intro k
  induction k with
  | zero =>
    intro i n M h1 h2 hr
    cases n with
    | zero => omega
    | succ n =>
      have hib : i = b := by omega
      subst hib
      rw [fv_X2_endHourOfClerks_2_s, ok_X2_endHourOfClerks_2_s, hr.1 d (fun c _ => by omega), hM.1.2.2]
      simp only [pq_leT (show ¬ i < i by omega) (by omega) (by omega), if_true, true_implies, not_true_eq_false, false_implies, and_true]
      exact hr
  | succ k ih =>
    intro i n M h1 h2 hr
    cases n with
    | zero => omega
    | succ n =>
      have v1 : vp_in (nI i) 12 := pq_vin (by omega) (by omega)
      obtain ⟨c1, c2, c3⟩ := cl_end (d + 14 + 1 + i) M
      rw [RK_ck hr (by omega)] at c2
      have r := ih (i + 1) n _ (by omega) (by omega) (RK_step hr c1 c2)
      rw [fv_X2_endHourOfClerks_2_s, ok_X2_endHourOfClerks_2_s, hr.1 d (fun c _ => by omega), hM.1.2.2]
      simp only [pq_leF (show i < b by omega) (by omega), pq_nI (show i < 4000 by omega), v1, c3, pq_nIadd1, if_false, false_implies, not_false_eq_true, true_implies, true_and, and_true]
      exact r
theorem eF_loc {f g : Nat → Int32} (h : ∀ j, j < 6 → f j = g j) : ∀ j, j < 6 → eF f j = eF g j := by
  have key : ∀ j, j < 6 → (if f 2 = -5 then f else upd (upd f 4 (f 4 + 1)) 3 (f 3 + 1)) j = (if g 2 = -5 then g else upd (upd g 4 (g 4 + 1)) 3 (g 3 + 1)) j := by
    intro j hj
    rw [h 2 (by omega)]
    by_cases q : g 2 = -5
    · rw [if_pos q, if_pos q]; exact h j hj
    · rw [if_neg q, if_neg q]
      exact upd_loc (upd_loc h 4 (by rw [h 4 (by omega)])) 3 (by rw [h 3 (by omega)]) j hj
  intro j hj
  unfold eF
  rw [h 5 (by omega)]
  by_cases q : g 5 ≤ 0
  · rw [if_pos q, if_pos q]; exact key j hj
  · rw [if_neg q, if_neg q]; exact upd_loc key 5 rfl j hj
theorem h_end {M N : ps_M} {d e h a b : Nat} {gv : Nat → Int32} (hh : h < 18) (hx : DY M d h a b (pS True (h + 1) a gv) (pKm a b h b)) (hE : EQ M d N e) : ∃ M' N' : ps_M, ps_st (fv_X2_endHourOfClerks d M) d 0 (fv_X2_endHourOfClerks d M d 0 + 1) = M' ∧ ps_st (fv_X2_endHourOfClerks e N) e 0 (fv_X2_endHourOfClerks e N e 0 + 1) = N' ∧ ok_X2_endHourOfClerks d M ∧ (∀ k, (k < d ∨ d + 27 ≤ k) → M' k = M k) ∧ (∀ c, c < b → M' (d + 14 + 1 + c) = eF (M (d + 14 + 1 + c))) ∧ DI M' d (h + 1) a b gv ∧ TS M' d a = TS M d a ∧ EQ M' d N' e := by
  have hM := hx.1
  have hN := HD_EQ hE hM
  have hb := hM.2.2.2
  have ha := hM.2.2.1
  obtain ⟨p1, p2⟩ := he_loop hM b 0 ps_FU M (by omega) (pq_fu (by omega)) (RK_0 _ _ _)
  obtain ⟨q1, q2⟩ := he_loop hN b 0 ps_FU N (by omega) (pq_fu (by omega)) (RK_0 _ _ _)
  have eS : fv_X2_endHourOfClerks d M = fv_X2_endHourOfClerks_2 ps_FU d (nI 0) M := rfl
  have eS' : fv_X2_endHourOfClerks e N = fv_X2_endHourOfClerks_2 ps_FU e (nI 0) N := rfl
  have oS : ok_X2_endHourOfClerks d M := p2
  rw [eS, eS']
  generalize fv_X2_endHourOfClerks_2 ps_FU d (nI 0) M = Z at p1
  generalize fv_X2_endHourOfClerks_2 ps_FU e (nI 0) N = Y at q1
  have zd : Z d = M d := p1.1 d (fun c _ => by omega)
  have yd : Y e = N e := q1.1 e (fun c _ => by omega)
  have zs : ∀ k, d < k → k < d + 15 → Z k = M k := fun k k1 k2 => p1.1 k (fun c _ => by omega)
  have ys : ∀ k, e < k → k < e + 15 → Y k = N k := fun k k1 k2 => q1.1 k (fun c _ => by omega)
  have e1 : ∀ k, k ≠ d → ps_st Z d 0 (Z d 0 + 1) k = Z k := fun k hk => ps_st_ne hk
  have e2 : ∀ k, k ≠ e → ps_st Y e 0 (Y e 0 + 1) k = Y k := fun k hk => ps_st_ne hk
  have z0 : ps_st Z d 0 (Z d 0 + 1) d 0 = nI (h + 1) := by rw [pq_stself, zd, hM.1.1, pq_nIadd1]
  have y0 : ps_st Y e 0 (Y e 0 + 1) e 0 = nI (h + 1) := by rw [pq_stself, yd, hN.1.1, pq_nIadd1]
  have z1 : ∀ j, j ≠ 0 → ps_st Z d 0 (Z d 0 + 1) d j = M d j := fun j hj => by rw [pq_stne (Or.inr hj), zd]
  have y1 : ∀ j, j ≠ 0 → ps_st Y e 0 (Y e 0 + 1) e j = N e j := fun j hj => by rw [pq_stne (Or.inr hj), yd]
  generalize ps_st Z d 0 (Z d 0 + 1) = M' at e1 z0 z1
  generalize ps_st Y e 0 (Y e 0 + 1) = N' at e2 y0 y1
  have fs : ∀ k, d < k → k < d + 15 → M' k = M k := fun k k1 k2 => (e1 k (by omega)).trans (zs k k1 k2)
  have fs' : ∀ k, e < k → k < e + 15 → N' k = N k := fun k k1 k2 => (e2 k (by omega)).trans (ys k k1 k2)
  have fc : ∀ c, c < b → M' (d + 14 + 1 + c) = eF (M (d + 14 + 1 + c)) := fun c hc => (e1 _ (by omega)).trans (p1.2 c hc)
  have fc' : ∀ c, c < b → N' (e + 14 + 1 + c) = eF (N (e + 14 + 1 + c)) := fun c hc => (e2 _ (by omega)).trans (q1.2 c hc)
  have fg : ∀ c, b ≤ c → M' (d + 14 + 1 + c) = M (d + 14 + 1 + c) := fun c hc => (e1 _ (by omega)).trans (RK_ck p1 hc)
  have fg' : ∀ c, b ≤ c → N' (e + 14 + 1 + c) = N (e + 14 + 1 + c) := fun c hc => (e2 _ (by omega)).trans (RK_ck q1 hc)
  refine ⟨M', N', rfl, rfl, oS, fun k hk => (e1 k (by omega)).trans (p1.1 k (fun c _ => by omega)), fc, ⟨⟨⟨z0, by rw [z1 1 (by omega)]; exact hM.1.2.1, by rw [z1 2 (by omega)]; exact hM.1.2.2⟩, by omega, hM.2.2⟩, fun s hs => ?_, fun c hc => ?_⟩, ?_, ⟨fun j hj => ?_, fun s hs => ⟨fun j j1 j2 => ?_, fun t ht => ?_⟩, fun c hc j hj => ?_⟩⟩
  · rw [fs _ (by omega) (by omega), fs _ (by omega) (by omega)]; exact hx.2.1 s hs
  · by_cases q : c < b
    · rw [fc c q]
      have k := (hx.2.2 c hc).1 q
      rw [if_pos q] at k
      exact ⟨fun _ => KI_end ha (by omega) k, fun z => absurd q z⟩
    · rw [fg c (by omega)]
      exact ⟨fun z => absurd z q, (hx.2.2 c hc).2⟩
  · exact pq_sm_congr _ _ _ (fun s _ hs => by rw [fs _ (by omega) (by omega)])
  · by_cases q : j = 0
    · rw [q, z0, y0]
    · rw [z1 j q, y1 j q]; exact hE.1 j hj
  · rw [fs _ (by omega) (by omega), fs' _ (by omega) (by omega)]; exact (hE.2.1 s hs).1 j j1 j2
  · rw [fs _ (by omega) (by omega), fs' _ (by omega) (by omega)]; exact (hE.2.1 s hs).2 t ht
  · by_cases q : c < b
    · rw [fc c q, fc' c q]; exact eF_loc (hE.2.2 c hc) j hj
    · rw [fg c (by omega), fg' c (by omega)]; exact hE.2.2 c hc j hj
