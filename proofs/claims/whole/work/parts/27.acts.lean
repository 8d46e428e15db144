/-! ===== acts on papers and arrivals ===== -/
theorem in_01 (x l h : Int32) (N : ps_M) : fv_X6_in x l h N = 0 ∨ fv_X6_in x l h N = 1 := by
  unfold fv_X6_in
  by_cases q : x < l
  · rw [if_pos q]; exact Or.inl rfl
  · rw [if_neg q]
    by_cases q2 : h < x
    · rw [if_pos q2]; exact Or.inl rfl
    · rw [if_neg q2]; exact Or.inr rfl
theorem in_b {x l h : Int32} {N : ps_M} (e : fv_X6_in x l h N = 1) : l.toInt ≤ x.toInt ∧ x.toInt ≤ h.toInt := by
  unfold fv_X6_in at e
  by_cases q : x < l
  · rw [if_pos q] at e; exact absurd e (by decide)
  · rw [if_neg q] at e
    by_cases q2 : h < x
    · rw [if_pos q2] at e; exact absurd e (by decide)
    · rw [pq_lt] at q q2
      omega
theorem wi_in (x l h : Int32) (M N : ps_M) : fv_X5_isWithin x l h M = fv_X6_in x l h N := rfl
theorem pn_in (x : Int32) (M N : ps_M) : fv_X5_isPaperNumber x M = fv_X6_in x 1 9999 N := rfl
theorem pn_ok (x : Int32) (M : ps_M) : ok_X5_isPaperNumber x M := ⟨trivial, in_01 x 1 9999 M, trivial⟩
theorem pq_svupd {M : ps_M} {s j : Nat} {v : Int32} (hj : j < 27) : pq_sv (ps_st M 1 (3 + 27 * s + j) v 1) s = upd (pq_sv (M 1) s) j v := by
  funext j'
  rw [pq_svset hj]
  unfold upd
  by_cases e : j' = j
  · rw [if_pos ⟨rfl, e⟩, if_pos e]
  · rw [if_neg (fun q => e q.2), if_neg e]
theorem pq_kvupd {M : ps_M} {c j : Nat} {v : Int32} (hj : j < 6) : pq_kv (ps_st M 1 (165 + 6 * c + j) v 1) c = upd (pq_kv (M 1) c) j v := by
  funext j'
  rw [pq_kvset hj]
  unfold upd
  by_cases e : j' = j
  · rw [if_pos ⟨rfl, e⟩, if_pos e]
  · rw [if_neg (fun q => e q.2), if_neg e]
theorem DX_setS {M N : ps_M} {d h a b : Nat} {S : Nat → (Nat → Int32) → (Nat → Int32) → (Nat → Int32) → Prop} {K : Nat → (Nat → Int32) → (Nat → Int32) → Prop} (hx : DX M d (N 1) h a b S K) {s j j' : Nat} {v w : Int32} (hs : s < 6) (hj : j < 27) (hn : S s (upd (M (d + 1 + 1 + 2 * s)) j' v) (M (d + 1 + 1 + 2 * s + 1)) (upd (pq_sv (N 1) s) j w)) : DX (ps_st M (d + 1 + 1 + 2 * s) j' v) d (ps_st N 1 (3 + 27 * s + j) w 1) h a b S K := by
  refine DX_st hx hs (fun k k1 k2 => ps_st_ne k1) (fun i hi => pq_stne (Or.inr (by omega))) (fun s' _ _ f g r h => h) ?_
  rw [ps_st_self, ps_st_ne (by omega), pq_svupd hj]
  exact hn
theorem DX_setA {M N : ps_M} {d h a b : Nat} {S : Nat → (Nat → Int32) → (Nat → Int32) → (Nat → Int32) → Prop} {K : Nat → (Nat → Int32) → (Nat → Int32) → Prop} (hx : DX M d (N 1) h a b S K) {s j t : Nat} {v w : Int32} (hs : s < 6) (hj : j < 27) (hn : S s (M (d + 1 + 1 + 2 * s)) (upd (M (d + 1 + 1 + 2 * s + 1)) t v) (upd (pq_sv (N 1) s) j w)) : DX (ps_st M (d + 1 + 1 + 2 * s + 1) t v) d (ps_st N 1 (3 + 27 * s + j) w 1) h a b S K := by
  refine DX_st hx hs (fun k k1 k2 => ps_st_ne k2) (fun i hi => pq_stne (Or.inr (by omega))) (fun s' _ _ f g r h => h) ?_
  rw [ps_st_self, ps_st_ne (by omega), pq_svupd hj]
  exact hn
theorem DX_setK {M N : ps_M} {d h a b : Nat} {S : Nat → (Nat → Int32) → (Nat → Int32) → (Nat → Int32) → Prop} {K : Nat → (Nat → Int32) → (Nat → Int32) → Prop} (hx : DX M d (N 1) h a b S K) {c j j' : Nat} {v w : Int32} (hc : c < 12) (hj : j < 6) (hn : K c (upd (M (d + 14 + 1 + c)) j' v) (upd (pq_kv (N 1) c) j w)) : DX (ps_st M (d + 14 + 1 + c) j' v) d (ps_st N 1 (165 + 6 * c + j) w 1) h a b S K := by
  refine DX_ck hx hc (fun k k1 => ps_st_ne k1) (fun i hi => pq_stne (Or.inr (by omega))) (fun c' _ _ f r h => h) ?_
  rw [ps_st_self, pq_kvupd hj]
  exact hn
theorem pq_sf_upd {r : Nat → Int32} {j : Nat} {v : Int32} (hj : j < 12) : ∀ k, k ≤ 15 → pq_sf (upd r j v) k = pq_sf r k := by
  intro k
  induction k with
  | zero => intro _; rfl
  | succ k ih =>
    intro hk
    show (upd r j v (12 + (14 - k))).toInt + pq_sf (upd r j v) k = (r (12 + (14 - k))).toInt + pq_sf r k
    rw [ih (by omega), upd, if_neg (by omega)]
/-- a field that nothing else is said of -/
theorem S_set {P : Prop} {B : Int} {k : Nat} {ad : Prop} {f g r : Nat → Int32} (hk : k ≤ 15) (h : pq_S P B k ad f g r) {j : Nat} (hj : j = 1 ∨ j = 2 ∨ j = 3 ∨ j = 5 ∨ j = 6 ∨ j = 7 ∨ j = 8 ∨ j = 9) (v : Int32) : pq_S P B k ad (upd f (j + 1) v) g (upd r j v) := by
  obtain ⟨⟨e1, e2, e3, e4, e6, e7, e8, e9, e10, e12⟩, ha, hq, hst, hc⟩ := h
  refine ⟨?_, fun t ht => ?_, ?_, ?_, ?_⟩
  · rcases hj with rfl | rfl | rfl | rfl | rfl | rfl | rfl | rfl <;> simp [upd, e1, e2, e3, e4, e6, e7, e8, e9, e10, e12]
  · rw [upd, if_neg (by omega)]; exact ha t ht
  · rw [upd, if_neg (by omega)]; exact hq
  · rw [pq_sf_upd (by omega) k hk]
    have u1 : upd r j v 4 = r 4 := by rw [upd, if_neg (by omega)]
    have u2 : upd f (j + 1) v 5 = f 5 := by rw [upd, if_neg (by omega)]
    have u3 : upd r j v 0 = r 0 := by rw [upd, if_neg (by omega)]
    rw [u1, u2, u3]; exact hst
  · have u1 : upd r j v 10 = r 10 := by rw [upd, if_neg (by omega)]
    have u2 : upd f (j + 1) v 11 = f 11 := by rw [upd, if_neg (by omega)]
    have u3 : upd f (j + 1) v 12 = f 12 := by rw [upd, if_neg (by omega)]
    rw [u1, u2, u3]; exact hc
theorem S_stock {B : Int} {k : Nat} {ad : Prop} {f g r : Nat → Int32} (hk : k ≤ 15) (h : pq_S True B k ad f g r) {v : Int32} (h1 : 0 ≤ v.toInt) (h2 : v.toInt ≤ 9999) : pq_S True B k ad (upd f 5 v) g (upd r 4 v) := by
  obtain ⟨⟨e1, e2, e3, e4, e6, e7, e8, e9, e10, e12⟩, ha, hq, hst, hc⟩ := h
  refine ⟨?_, fun t ht => ?_, ?_, ⟨fun _ => ?_, fun q => absurd trivial q⟩, ?_⟩
  · simp [upd, e1, e2, e3, e4, e6, e7, e8, e9, e10, e12]
  · rw [upd, if_neg (by omega)]; exact ha t ht
  · rw [upd, if_neg (by omega)]; exact hq
  · simp [upd, h1, h2]
  · have u1 : upd r 4 v 10 = r 10 := by rw [upd, if_neg (by omega)]
    have u2 : upd f 5 v 11 = f 11 := by rw [upd, if_neg (by omega)]
    have u3 : upd f 5 v 12 = f 12 := by rw [upd, if_neg (by omega)]
    rw [u1, u2, u3]; exact hc
theorem DR_set {M N : ps_M} {d h a b : Nat} (hx : DR M d (N 1) h a b) {s j : Nat} (hs : s < 6) (hj : j = 1 ∨ j = 2 ∨ j = 3 ∨ j = 5 ∨ j = 6 ∨ j = 7 ∨ j = 8 ∨ j = 9) (v : Int32) : DR (ps_st M (d + 1 + 1 + 2 * s) (j + 1) v) d (ps_st N 1 (3 + 27 * s + j) v 1) h a b :=
  DX_setS hx hs (by omega) (S_set (by omega) (hx.2.2.2.1 s hs) hj v)
theorem DR_stock {M N : ps_M} {d h a b : Nat} (hx : DR M d (N 1) h a b) {s : Nat} (hs : s < 6) {v : Int32} (h1 : 0 ≤ v.toInt) (h2 : v.toInt ≤ 9999) : DR (ps_st M (d + 1 + 1 + 2 * s) 5 v) d (ps_st N 1 (3 + 27 * s + 4) v 1) h a b :=
  DX_setS hx hs (by omega) (S_stock (by omega) (hx.2.2.2.1 s hs) h1 h2)
/-- a day's station: the class's field beside the reference's -/
theorem DR_f {M N : ps_M} {d h a b : Nat} (hx : DR M d (N 1) h a b) {s j : Nat} (hs : s < 6) (hj : j < 10) : M (d + 1 + 1 + 2 * s) (j + 1) = pq_sv (N 1) s j := by
  obtain ⟨⟨e1, e2, e3, e4, e6, e7, e8, e9, e10, e12⟩, ha, hq, hst, hc⟩ := hx.2.2.2.1 s hs
  have hj : j = 0 ∨ j = 1 ∨ j = 2 ∨ j = 3 ∨ j = 4 ∨ j = 5 ∨ j = 6 ∨ j = 7 ∨ j = 8 ∨ j = 9 := by omega
  rcases hj with rfl | rfl | rfl | rfl | rfl | rfl | rfl | rfl | rfl | rfl
  · exact e1
  · exact e2
  · exact e3
  · exact e4
  · exact (hst.1 trivial).1
  · exact e6
  · exact e7
  · exact e8
  · exact e9
  · exact e10
theorem DR_st {M N : ps_M} {d h a b : Nat} (hx : DR M d (N 1) h a b) {s : Nat} (hs : s < 6) : 0 ≤ (pq_sv (N 1) s 4).toInt ∧ (pq_sv (N 1) s 4).toInt ≤ 9999 := ((hx.2.2.2.1 s hs).2.2.2.1.1 trivial).2
/-- only the present day has changed -/
theorem Rel_day {M1 N1 M' N' : ps_M} {h a b : Nat} (hR : Rel M1 N1) (hM : ∀ i, i < 1 ∨ 28 ≤ i → M' i = M1 i) (hN : ∀ i, i ≠ 1 → N' i = N1 i) (hD : DR M' 1 (N' 1) h a b) : Rel M' N' := by
  refine Rel_now hR (fun i => ?_) (fun i => ?_) ⟨h, a, b, hD⟩
  · by_cases q : i < 1 ∨ 28 ≤ i
    · exact Or.inr (hM i q)
    · exact Or.inl (by omega)
  · by_cases q : i = 1
    · exact Or.inl q
    · exact Or.inr (Or.inr (Or.inr (Or.inr (hN i q))))
theorem sim_supply : pl_sim_supply Rel := by
  intro M N a1 a2 hR
  obtain ⟨h, a, b, hx⟩ := hR.1
  obtain ⟨ok6, hsta⟩ := pq_sta hx a1
  obtain ⟨hR1, fM, -, fN, -, -, o1, o2⟩ := Rel_rec hR
  unfold fv_X5_supply fv_X6_supply ok_X5_supply ok_X6_supply
  rw [pn_in a2 M N]
  rcases hsta with ⟨e1, e2⟩ | ⟨s, hs, rfl, e1, e2⟩
  · simp only [e1, e2, ok6, ok_X2_hasStation, if_true, true_implies, not_true_eq_false, false_implies, and_true, true_and]
    exact hR
  · have ha := hx.2.2.1.2.1
    have hs6 : s < 6 := by omega
    rcases in_01 a2 1 9999 N with e3 | e3
    · simp only [e1, e2, e3, ok6, ok_X2_hasStation, ok_X6_in, pn_ok, pq_10, if_true, if_false, true_implies, not_true_eq_false, not_false_eq_true, false_implies, and_true, true_and]
      exact hR
    · have hb := in_b e3
      have e4 : M (1 + 1 + 1 + 2 * s) 5 = pq_sv (N 1) s 4 := DR_f hx hs6 (j := 4) (by omega)
      have e5 : fv_X6_of (nI s) 4 N = pq_sv (N 1) s 4 := pq_of (j := 4) hs6 (by omega) N
      have e6 : ∀ N, ok_X6_of (nI s) 4 N := pq_ofok (j := 4) hs6 (by omega)
      have e7 : ∀ N, ok_X6_adds (nI s) 4 a2 N := fun N => pq_addsok (j := 4) hs6 (by omega) a2 N
      have v1 : vp_in (nI s) 6 := pq_vin hs6 (by omega)
      have hst := DR_st hx hs6
      simp only [e1, e2, e3, ok6, ok_X2_hasStation, ok_X6_in, pn_ok, pq_10, pq_nI (show s < 4000 by omega), e4, e5, e6, e7, v1, o1, o2, if_true, if_false, true_implies, not_true_eq_false, not_false_eq_true, false_implies, and_true, true_and, implies_true]
      by_cases q : pq_sv (N 1) s 4 + a2 ≤ 9999
      · rw [if_pos q, if_pos q]
        have es : (pq_sv (N 1) s 4 + a2).toInt = (pq_sv (N 1) s 4).toInt + a2.toInt := by
          have g1 : ((1 : Int32)).toInt = 1 := by decide
          have g2 : ((9999 : Int32)).toInt = 9999 := by decide
          exact pq_add (by omega) (by omega)
        have g2 : ((9999 : Int32)).toInt = 9999 := by decide
        have g1 : ((1 : Int32)).toInt = 1 := by decide
        rw [pq_le, es, g2] at q
        obtain ⟨h', a', b', hx1⟩ := hR1.1
        have e8 : fv_X3_remember 1 M (1 + 1 + 1 + 2 * s) 5 = pq_sv (N 1) s 4 := by rw [fM _ (by omega) (by omega)]; exact e4
        have e9 : fv_X6_adds (nI s) 4 a2 (fv_X6_records N) = ps_st (fv_X6_records N) 1 (3 + 27 * s + 4) (pq_sv (N 1) s 4 + a2) := by
          have := pq_adds (j := 4) hs6 (by omega) a2 (fv_X6_records N)
          rw [fN] at this; exact this
        have e10 : ∀ N, fv_X6_of (nI s) 4 N = pq_sv (N 1) s 4 := pq_of (j := 4) hs6 (by omega)
        have hd := DR_stock hx1 hs6 (v := pq_sv (N 1) s 4 + a2) (by omega) (by omega)
        rw [e8, e9]
        simp only [pq_stself, e10, pq_svset (show 4 < 27 by omega), and_self, if_true, true_and]
        exact Rel_day hR1 (fun i hi => ps_st_ne (by omega)) (fun i hi => ps_st_ne hi) hd
      · rw [if_neg q, if_neg q]
        exact ⟨rfl, hR⟩
