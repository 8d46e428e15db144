/-! ===== an hour: arrivals and service ===== -/
def FR (d : Nat) (M N M' N' : ps_M) : Prop := (∀ k, k < d ∨ d + 27 ≤ k → M' k = M k) ∧ ∀ k, k ≠ 1 → N' k = N k
theorem FR_refl (d : Nat) (M N : ps_M) : FR d M N M N := ⟨fun _ _ => rfl, fun _ _ => rfl⟩
theorem FR_trans {d : Nat} {M N M1 N1 M2 N2 : ps_M} (h1 : FR d M N M1 N1) (h2 : FR d M1 N1 M2 N2) : FR d M N M2 N2 := ⟨fun k hk => (h2.1 k hk).trans (h1.1 k hk), fun k hk => (h2.2 k hk).trans (h1.2 k hk)⟩
theorem pB_step {h : Nat} (hh : h < 15) : pq_B (h + 1) = pq_B h + 500 := by unfold pq_B; omega
theorem pB_last {h : Nat} (hh : 15 ≤ h) : pq_B (h + 1) = pq_B h := by unfold pq_B; omega
theorem pB_pos (h : Nat) : 0 ≤ pq_B h ∧ pq_B h ≤ 7500 := by unfold pq_B; omega
theorem pq_sf_pos {g r : Nat → Int32} (har : ∀ t, t < 15 → g t = r (12 + t) ∧ 0 ≤ (r (12 + t)).toInt ∧ (r (12 + t)).toInt ≤ 500) : ∀ k, k ≤ 15 → 0 ≤ pq_sf r k ∧ pq_sf r k ≤ 500 * (k : Int) := by
  intro k
  induction k with
  | zero => intro _; exact ⟨Int.le_refl _, Int.le_refl _⟩
  | succ k ih =>
    intro hk
    have h1 := ih (by omega)
    have h2 := har (14 - k) (by omega)
    show 0 ≤ (r (12 + (14 - k))).toInt + pq_sf r k ∧ (r (12 + (14 - k))).toInt + pq_sf r k ≤ _
    omega
theorem pq_sf_at {r : Nat → Int32} {h : Nat} (hh : h < 15) : pq_sf r (15 - h) = (r (12 + h)).toInt + pq_sf r (15 - (h + 1)) := by
  rw [show 15 - h = (15 - (h + 1)) + 1 by omega]
  show (r (12 + (14 - (15 - (h + 1))))).toInt + pq_sf r (15 - (h + 1)) = _
  rw [show 14 - (15 - (h + 1)) = h by omega]
theorem S_later {P : Prop} {h : Nat} {ad : Prop} {f g r : Nat → Int32} (hS : pq_S P (pq_B h) (15 - h) ad f g r) : pq_S P (pq_B (h + 1)) (15 - (h + 1)) ad f g r := by
  obtain ⟨e0, har, hq, hst, hc⟩ := hS
  refine ⟨e0, har, ?_, ⟨hst.1, fun np => ?_⟩, hc⟩
  · by_cases q : h < 15
    · rw [pB_step q]; omega
    · rw [pB_last (by omega)]; exact hq
  · have := hst.2 np
    by_cases q : h < 15
    · rw [pq_sf_at q] at this
      have h2 := har h q
      omega
    · rw [show 15 - (h + 1) = 15 - h by omega]; exact this
theorem S_arrive {P : Prop} {h : Nat} {ad : Prop} {f g r : Nat → Int32} (hh : h < 15) (hS : pq_S P (pq_B h) (15 - h) ad f g r) : pq_S P (pq_B (h + 1)) (15 - (h + 1)) ad (upd f 1 (f 1 + g h)) g (upd r 0 (r 0 + r (12 + h))) := by
  obtain ⟨⟨e1, e2, e3, e4, e6, e7, e8, e9, e10, e12⟩, har, hq, hst, hc⟩ := hS
  have h2 := har h hh
  have hb := pB_pos h
  have es : (r 0 + r (12 + h)).toInt = (r 0).toInt + (r (12 + h)).toInt := pq_add (by omega) (by omega)
  have u : ∀ j, j ≠ 0 → upd r 0 (r 0 + r (12 + h)) j = r j := fun j hj => by rw [upd, if_neg hj]
  have v : ∀ j, j ≠ 1 → upd f 1 (f 1 + g h) j = f j := fun j hj => by rw [upd, if_neg hj]
  have u0 : upd r 0 (r 0 + r (12 + h)) 0 = r 0 + r (12 + h) := by rw [upd, if_pos rfl]
  have v1 : upd f 1 (f 1 + g h) 1 = f 1 + g h := by rw [upd, if_pos rfl]
  refine ⟨?_, fun t ht => ?_, ?_, ?_, ?_⟩
  · rw [u0, v1, u 1 (by omega), u 2 (by omega), u 3 (by omega), u 5 (by omega), u 6 (by omega), u 7 (by omega), u 8 (by omega), u 9 (by omega), u 11 (by omega), v 2 (by omega), v 3 (by omega), v 4 (by omega), v 6 (by omega), v 7 (by omega), v 8 (by omega), v 9 (by omega), v 10 (by omega), v 12 (by omega)]
    exact ⟨by rw [e1, h2.1], e2, e3, e4, e6, e7, e8, e9, e10, e12⟩
  · rw [u (12 + t) (by omega)]; exact har t ht
  · rw [u0, es, pB_step hh]; omega
  · rw [pq_sf_upd (by omega) _ (by omega), u0, es, u 4 (by omega), v 5 (by omega)]
    refine ⟨hst.1, fun np => ?_⟩
    have := hst.2 np
    rw [pq_sf_at hh] at this
    omega
  · rw [u 10 (by omega), v 11 (by omega), v 12 (by omega)]; exact hc
/-- the arrivals of an hour -/
theorem h_arrive {P : Nat → Prop} {d h a b : Nat} {K : Nat → (Nat → Int32) → (Nat → Int32) → Prop} (hh : h < 15) : ∀ (k i n1 n2 : Nat) (M N : ps_M), i + k = a → k < n1 → k < n2 → DX M d (N 1) h a b (fun s => if s < i then pq_S (P s) (pq_B (h + 1)) (15 - (h + 1)) (s < a) else pq_S (P s) (pq_B h) (15 - h) (s < a)) K → ∃ M' N' : ps_M, fv_X2_letArrive_12 n1 d (nI i) M = M' ∧ ok_X2_letArrive_12 n1 d (nI i) M ∧ fv_X6_hourPasses_2 n2 (nI i) N = fv_X6_hourPasses_49 N' ∧ (ok_X6_hourPasses_49 N' → ok_X6_hourPasses_2 n2 (nI i) N) ∧ FR d M N M' N' ∧ DX M' d (N' 1) h a b (fun s => pq_S (P s) (pq_B (h + 1)) (15 - (h + 1)) (s < a)) K := by
  have w0 : vp_in (0 : Int32) 237 := pq_vin (n := 0) (by omega) (by omega)
  have w1 : vp_in (1 : Int32) 237 := pq_vin (n := 1) (by omega) (by omega)
  intro k
  induction k with
  | zero =>
    intro i n1 n2 M N h1 h2 h3 hx
    cases n1 with
    | zero => omega
    | succ n1 =>
      cases n2 with
      | zero => omega
      | succ n2 =>
        have ha := hx.2.2.1.2.1
        rw [fv_X2_letArrive_12_s, ok_X2_letArrive_12_s, fv_X6_hourPasses_2_s, ok_X6_hourPasses_2_s, pq_c1, hx.1.2.1, hx.2.1.2.1]
        simp only [pq_leT (show ¬ i < a by omega) (by omega) (by omega), w1, if_true, true_implies, not_true_eq_false, false_implies, and_true, true_and]
        refine ⟨M, N, rfl, rfl, id, FR_refl d M N, ?_⟩
        refine DX_mono hx (fun s _ f g r hs => ?_) (fun c _ f r hc => hc)
        by_cases q : s < i
        · rw [if_pos q] at hs; exact hs
        · rw [if_neg q] at hs; exact S_later hs
  | succ k ih =>
    intro i n1 n2 M N h1 h2 h3 hx
    cases n1 with
    | zero => omega
    | succ n1 =>
      cases n2 with
      | zero => omega
      | succ n2 =>
        have ha := hx.2.2.1.2.1
        have hi6 : i < 6 := by omega
        have v1 : vp_in (nI i) 6 := pq_vin hi6 (by omega)
        have v2 : vp_in (nI h) 15 := pq_vin hh (by omega)
        have hSi := hx.2.2.2.1 i hi6
        dsimp only at hSi
        rw [if_neg (show ¬ i < i by omega)] at hSi
        have u1 : fv_X6_of (nI i) (nI (12 + h)) N = pq_sv (N 1) i (12 + h) := pq_of hi6 (by omega) N
        have u2 : ok_X6_of (nI i) (nI (12 + h)) N := pq_ofok hi6 (by omega) N
        have u3 : fv_X6_adds (nI i) 0 (pq_sv (N 1) i (12 + h)) N = ps_st N 1 (3 + 27 * i + 0) (pq_sv (N 1) i 0 + pq_sv (N 1) i (12 + h)) := pq_adds (j := 0) hi6 (by omega) _ N
        have u4 : ok_X6_adds (nI i) 0 (pq_sv (N 1) i (12 + h)) N := pq_addsok (j := 0) hi6 (by omega) _ N
        have c15 : ((15 : Int32) ≤ nI h) = False := by
          apply eq_false
          rw [show (15 : Int32) = nI 15 from rfl, pq_le, pq_nT (by omega), pq_nT (by omega)]; omega
        have hx2 : DX (ps_st M (d + 1 + 1 + 2 * i) 1 (M (d + 1 + 1 + 2 * i) 1 + M (d + 1 + 1 + 2 * i + 1) h)) d (ps_st N 1 (3 + 27 * i + 0) (pq_sv (N 1) i 0 + pq_sv (N 1) i (12 + h)) 1) h a b (fun s => if s < i + 1 then pq_S (P s) (pq_B (h + 1)) (15 - (h + 1)) (s < a) else pq_S (P s) (pq_B h) (15 - h) (s < a)) K := by
          refine DX_st hx hi6 (fun k k1 k2 => ps_st_ne k1) (fun j hj => pq_stne (Or.inr (by omega))) (fun s hs _ f g r hz => ?_) ?_
          · by_cases q : s < i
            · rw [if_pos q] at hz; rw [if_pos (by omega)]; exact hz
            · rw [if_neg q] at hz; rw [if_neg (by omega)]; exact hz
          · rw [if_pos (by omega), ps_st_self, ps_st_ne (by omega), pq_svupd (by omega)]
            exact S_arrive hh hSi
        obtain ⟨M', N', i1, i2, i3, i4, i5, i6⟩ := ih (i + 1) n1 n2 _ _ (by omega) (by omega) (by omega) hx2
        rw [fv_X2_letArrive_12_s, ok_X2_letArrive_12_s, fv_X6_hourPasses_2_s, ok_X6_hourPasses_2_s, pq_c0, pq_c1, hx.1.2.1, hx.2.1.2.1, hx.1.1, hx.2.1.1]
        simp only [pq_leF (show i < a by omega) (by omega), fv_X2_letArrive_48, ok_X2_letArrive_48, c15, pq_12x, pq_nI (show i < 4000 by omega), pq_nI (show h < 4000 by omega), u1, u2, u3, u4, v1, v2, w0, w1, pq_nIadd1, if_false, false_implies, not_false_eq_true, true_implies, true_and, and_true]
        exact ⟨M', N', i1, i2, i3, i4, FR_trans ⟨fun k hk => ps_st_ne (by omega), fun k hk => ps_st_ne hk⟩ i5, i6⟩
/-! a queue is served -/
def sF (v : Int32) (f : Nat → Int32) : Nat → Int32 := upd (upd (upd (upd (upd (upd (upd f 1 (f 1 - v)) 5 (f 5 - v)) 3 (f 3 + v)) 6 (f 6 + v)) 10 (f 10 + v)) 4 (f 4 + (f 1 - v))) 2 (if f 2 < f 1 - v then f 1 - v else f 2)
def sR (v : Int32) (r : Nat → Int32) : Nat → Int32 := upd (upd (upd (upd (upd (upd (upd r 0 (r 0 + -v)) 4 (r 4 + -v)) 2 (r 2 + v)) 5 (r 5 + v)) 9 (r 9 + v)) 3 (r 3 + (r 0 + -v))) 1 (if r 0 + -v ≤ r 1 then r 1 + 0 else r 1 + ((r 0 + -v) - r 1))
def sVf (f : Nat → Int32) (x : Int32) : Int32 := if (if f 5 < x then f 5 else x) < f 1 then (if f 5 < x then f 5 else x) else f 1
def sVr (r : Nat → Int32) (x : Int32) : Int32 := if r 0 ≤ x then (if r 0 ≤ r 4 then r 0 else r 4) else (if x ≤ r 4 then x else r 4)
theorem cl_serve (k : Nat) (x : Int32) (M : ps_M) : (fv_X4_serveQueue k x M).1 = sVf (M k) x ∧ (∀ i, i ≠ k → (fv_X4_serveQueue k x M).2 i = M i) ∧ (fv_X4_serveQueue k x M).2 k = sF (sVf (M k) x) (M k) ∧ ok_X4_serveQueue k x M := by
  refine ⟨rfl, fun i hi => ?_, ?_, trivial⟩
  · unfold fv_X4_serveQueue fv_X4_serveQueue_26 fv_X4_serveQueue_56 fv_X4_serveQueue_94
    simp only [ps_st_ne hi]
  · unfold fv_X4_serveQueue fv_X4_serveQueue_26 fv_X4_serveQueue_56 fv_X4_serveQueue_94
    rw [show (if (if M k 5 < x then M k 5 else x) < M k 1 then (if M k 5 < x then M k 5 else x) else M k 1) = sVf (M k) x from rfl]
    unfold sF
    simp (config := {decide := true}) only [ps_st_self, upd, if_true, if_false]
theorem mo_serve {s : Nat} (hs : s < 6) (N : ps_M) (hS : ok_X6_serveAt (nI s) N) : (fv_X6_serves (nI s) N).1 = sVr (pq_sv (N 1) s) (fv_X6_serveAt (nI s) N) ∧ (∀ i, i ≠ 1 → (fv_X6_serves (nI s) N).2 i = N i) ∧ (∀ i, (i < 3 + 27 * s ∨ 3 + 27 * s + 27 ≤ i) → (fv_X6_serves (nI s) N).2 1 i = N 1 i) ∧ pq_sv ((fv_X6_serves (nI s) N).2 1) s = sR (sVr (pq_sv (N 1) s) (fv_X6_serveAt (nI s) N)) (pq_sv (N 1) s) ∧ ok_X6_serves (nI s) N := by
  have A0 : ∀ v N', fv_X6_adds (nI s) 0 v N' = ps_st N' 1 (3 + 27 * s + 0) (pq_sv (N' 1) s 0 + v) := fun v N' => pq_adds (j := 0) hs (by omega) v N'
  have A1 : ∀ v N', fv_X6_adds (nI s) 1 v N' = ps_st N' 1 (3 + 27 * s + 1) (pq_sv (N' 1) s 1 + v) := fun v N' => pq_adds (j := 1) hs (by omega) v N'
  have A2 : ∀ v N', fv_X6_adds (nI s) 2 v N' = ps_st N' 1 (3 + 27 * s + 2) (pq_sv (N' 1) s 2 + v) := fun v N' => pq_adds (j := 2) hs (by omega) v N'
  have A3 : ∀ v N', fv_X6_adds (nI s) 3 v N' = ps_st N' 1 (3 + 27 * s + 3) (pq_sv (N' 1) s 3 + v) := fun v N' => pq_adds (j := 3) hs (by omega) v N'
  have A4 : ∀ v N', fv_X6_adds (nI s) 4 v N' = ps_st N' 1 (3 + 27 * s + 4) (pq_sv (N' 1) s 4 + v) := fun v N' => pq_adds (j := 4) hs (by omega) v N'
  have A5 : ∀ v N', fv_X6_adds (nI s) 5 v N' = ps_st N' 1 (3 + 27 * s + 5) (pq_sv (N' 1) s 5 + v) := fun v N' => pq_adds (j := 5) hs (by omega) v N'
  have A9 : ∀ v N', fv_X6_adds (nI s) 9 v N' = ps_st N' 1 (3 + 27 * s + 9) (pq_sv (N' 1) s 9 + v) := fun v N' => pq_adds (j := 9) hs (by omega) v N'
  have B0 : ∀ v N', ok_X6_adds (nI s) 0 v N' := fun v N' => pq_addsok (j := 0) hs (by omega) v N'
  have B1 : ∀ v N', ok_X6_adds (nI s) 1 v N' := fun v N' => pq_addsok (j := 1) hs (by omega) v N'
  have B2 : ∀ v N', ok_X6_adds (nI s) 2 v N' := fun v N' => pq_addsok (j := 2) hs (by omega) v N'
  have B3 : ∀ v N', ok_X6_adds (nI s) 3 v N' := fun v N' => pq_addsok (j := 3) hs (by omega) v N'
  have B4 : ∀ v N', ok_X6_adds (nI s) 4 v N' := fun v N' => pq_addsok (j := 4) hs (by omega) v N'
  have B5 : ∀ v N', ok_X6_adds (nI s) 5 v N' := fun v N' => pq_addsok (j := 5) hs (by omega) v N'
  have B9 : ∀ v N', ok_X6_adds (nI s) 9 v N' := fun v N' => pq_addsok (j := 9) hs (by omega) v N'
  have O0 : ∀ N', fv_X6_of (nI s) 0 N' = pq_sv (N' 1) s 0 := pq_of (j := 0) hs (by omega)
  have O1 : ∀ N', fv_X6_of (nI s) 1 N' = pq_sv (N' 1) s 1 := pq_of (j := 1) hs (by omega)
  have O4 : ∀ N', fv_X6_of (nI s) 4 N' = pq_sv (N' 1) s 4 := pq_of (j := 4) hs (by omega)
  have Q0 : ∀ N', ok_X6_of (nI s) 0 N' := pq_ofok (j := 0) hs (by omega)
  have Q1 : ∀ N', ok_X6_of (nI s) 1 N' := pq_ofok (j := 1) hs (by omega)
  have Q4 : ∀ N', ok_X6_of (nI s) 4 N' := pq_ofok (j := 4) hs (by omega)
  have U0 : ∀ (N' : ps_M) (v : Int32) (j' : Nat), pq_sv (ps_st N' 1 (3 + 27 * s + 0) v 1) s j' = if j' = 0 then v else pq_sv (N' 1) s j' := by
    intro N' v j'
    rw [pq_svset (by omega)]
    by_cases e : j' = 0
    · rw [if_pos e, if_pos ⟨rfl, e⟩]
    · rw [if_neg e, if_neg (fun z => e z.2)]
  have U1 : ∀ (N' : ps_M) (v : Int32) (j' : Nat), pq_sv (ps_st N' 1 (3 + 27 * s + 1) v 1) s j' = if j' = 1 then v else pq_sv (N' 1) s j' := by
    intro N' v j'
    rw [pq_svset (by omega)]
    by_cases e : j' = 1
    · rw [if_pos e, if_pos ⟨rfl, e⟩]
    · rw [if_neg e, if_neg (fun z => e z.2)]
  have U2 : ∀ (N' : ps_M) (v : Int32) (j' : Nat), pq_sv (ps_st N' 1 (3 + 27 * s + 2) v 1) s j' = if j' = 2 then v else pq_sv (N' 1) s j' := by
    intro N' v j'
    rw [pq_svset (by omega)]
    by_cases e : j' = 2
    · rw [if_pos e, if_pos ⟨rfl, e⟩]
    · rw [if_neg e, if_neg (fun z => e z.2)]
  have U3 : ∀ (N' : ps_M) (v : Int32) (j' : Nat), pq_sv (ps_st N' 1 (3 + 27 * s + 3) v 1) s j' = if j' = 3 then v else pq_sv (N' 1) s j' := by
    intro N' v j'
    rw [pq_svset (by omega)]
    by_cases e : j' = 3
    · rw [if_pos e, if_pos ⟨rfl, e⟩]
    · rw [if_neg e, if_neg (fun z => e z.2)]
  have U4 : ∀ (N' : ps_M) (v : Int32) (j' : Nat), pq_sv (ps_st N' 1 (3 + 27 * s + 4) v 1) s j' = if j' = 4 then v else pq_sv (N' 1) s j' := by
    intro N' v j'
    rw [pq_svset (by omega)]
    by_cases e : j' = 4
    · rw [if_pos e, if_pos ⟨rfl, e⟩]
    · rw [if_neg e, if_neg (fun z => e z.2)]
  have U5 : ∀ (N' : ps_M) (v : Int32) (j' : Nat), pq_sv (ps_st N' 1 (3 + 27 * s + 5) v 1) s j' = if j' = 5 then v else pq_sv (N' 1) s j' := by
    intro N' v j'
    rw [pq_svset (by omega)]
    by_cases e : j' = 5
    · rw [if_pos e, if_pos ⟨rfl, e⟩]
    · rw [if_neg e, if_neg (fun z => e z.2)]
  have U9 : ∀ (N' : ps_M) (v : Int32) (j' : Nat), pq_sv (ps_st N' 1 (3 + 27 * s + 9) v 1) s j' = if j' = 9 then v else pq_sv (N' 1) s j' := by
    intro N' v j'
    rw [pq_svset (by omega)]
    by_cases e : j' = 9
    · rw [if_pos e, if_pos ⟨rfl, e⟩]
    · rw [if_neg e, if_neg (fun z => e z.2)]
  have m46 : ∀ v, (fv_X6_serves_46 (nI s) v N).1 = v ∧ (∀ i, i ≠ 1 → (fv_X6_serves_46 (nI s) v N).2 i = N i) ∧ (∀ i, (i < 3 + 27 * s ∨ 3 + 27 * s + 27 ≤ i) → (fv_X6_serves_46 (nI s) v N).2 1 i = N 1 i) ∧ pq_sv ((fv_X6_serves_46 (nI s) v N).2 1) s = sR v (pq_sv (N 1) s) ∧ ok_X6_serves_46 (nI s) v N := by
    intro v
    have o : ok_X6_serves_46 (nI s) v N := by
      unfold ok_X6_serves_46 ok_X6_serves_85 ok_X6_serves_135
      simp only [B0, B1, B2, B3, B4, B5, B9, Q0, Q1, Q4, and_self, implies_true]
    have e : fv_X6_serves_46 (nI s) v N = (v, ps_st (ps_st (ps_st (ps_st (ps_st (ps_st (ps_st N 1 (3 + 27 * s + 0) (pq_sv (N 1) s 0 + -v)) 1 (3 + 27 * s + 4) (pq_sv (N 1) s 4 + -v)) 1 (3 + 27 * s + 2) (pq_sv (N 1) s 2 + v)) 1 (3 + 27 * s + 5) (pq_sv (N 1) s 5 + v)) 1 (3 + 27 * s + 9) (pq_sv (N 1) s 9 + v)) 1 (3 + 27 * s + 3) (pq_sv (N 1) s 3 + (pq_sv (N 1) s 0 + -v))) 1 (3 + 27 * s + 1) (if pq_sv (N 1) s 0 + -v ≤ pq_sv (N 1) s 1 then pq_sv (N 1) s 1 + 0 else pq_sv (N 1) s 1 + ((pq_sv (N 1) s 0 + -v) - pq_sv (N 1) s 1))) := by
      unfold fv_X6_serves_46 fv_X6_serves_85 fv_X6_serves_135
      simp (config := {decide := true}) only [A0, A1, A2, A3, A4, A5, A9, O0, O1, U0, U1, U2, U3, U4, U5, U9, if_true, if_false]
      by_cases q : pq_sv (N 1) s 0 + -v ≤ pq_sv (N 1) s 1
      · rw [if_pos q, if_pos q]
      · rw [if_neg q, if_neg q]
    rw [e]
    refine ⟨rfl, fun i hi => ?_, fun i hi => ?_, ?_, o⟩
    · simp only [ps_st_ne hi]
    · dsimp only
      rw [pq_stne (Or.inr (by omega)), pq_stne (Or.inr (by omega)), pq_stne (Or.inr (by omega)), pq_stne (Or.inr (by omega)), pq_stne (Or.inr (by omega)), pq_stne (Or.inr (by omega)), pq_stne (Or.inr (by omega))]
    · dsimp only
      rw [pq_svupd (by omega), pq_svupd (by omega), pq_svupd (by omega), pq_svupd (by omega), pq_svupd (by omega), pq_svupd (by omega), pq_svupd (by omega)]
      rfl
  have m25 : ∀ v, fv_X6_serves_25 (nI s) v N = fv_X6_serves_46 (nI s) (if v ≤ pq_sv (N 1) s 4 then v else pq_sv (N 1) s 4) N ∧ ok_X6_serves_25 (nI s) v N := by
    intro v
    unfold fv_X6_serves_25 ok_X6_serves_25
    rw [O4]
    refine ⟨?_, Q4 N, fun _ => (m46 _).2.2.2.2, fun _ => ⟨Q4 N, (m46 _).2.2.2.2⟩⟩
    by_cases q : v ≤ pq_sv (N 1) s 4
    · rw [if_pos q, if_pos q]
    · rw [if_neg q, if_neg q]
  have m0 : fv_X6_serves (nI s) N = fv_X6_serves_46 (nI s) (sVr (pq_sv (N 1) s) (fv_X6_serveAt (nI s) N)) N ∧ ok_X6_serves (nI s) N := by
    unfold fv_X6_serves ok_X6_serves sVr
    rw [O0]
    refine ⟨?_, Q0 N, hS, fun _ => (m25 _).2, fun _ => ⟨hS, (m25 _).2⟩⟩
    by_cases q : pq_sv (N 1) s 0 ≤ fv_X6_serveAt (nI s) N
    · rw [if_pos q, if_pos q]; exact (m25 _).1
    · rw [if_neg q, if_neg q]; exact (m25 _).1
  rw [m0.1]
  obtain ⟨n1, n2, n3, n4, n5⟩ := m46 (sVr (pq_sv (N 1) s) (fv_X6_serveAt (nI s) N))
  exact ⟨n1, n2, n3, n4, m0.2⟩
