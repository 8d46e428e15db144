/-! ===== newcomers and duty ===== -/
theorem S_added {P : Prop} {B : Int} {k : Nat} {ad : Prop} {f g r : Nat → Int32} (hk : k ≤ 15) (hp : ¬ ad) (h : pq_S P B k ad f g r) : pq_S P B k True f g (upd r 10 (-1)) := by
  obtain ⟨e0, har, hq, hst, hc⟩ := h
  have u : ∀ j, j ≠ 10 → upd r 10 (-1) j = r j := fun j hj => by rw [upd, if_neg hj]
  refine ⟨?_, fun t ht => ?_, ?_, ?_, ?_⟩
  · rw [u 0 (by omega), u 1 (by omega), u 2 (by omega), u 3 (by omega), u 5 (by omega), u 6 (by omega), u 7 (by omega), u 8 (by omega), u 9 (by omega), u 11 (by omega)]; exact e0
  · rw [u (12 + t) (by omega)]; exact har t ht
  · rw [u 0 (by omega)]; exact hq
  · rw [pq_sf_upd (by omega) k hk, u 0 (by omega), u 4 (by omega)]; exact hst
  · rcases hc with ⟨c1, -, -⟩ | ⟨c1, -⟩
    · exact Or.inl ⟨c1, fun _ => by simp [upd], fun z => absurd trivial z⟩
    · exact absurd c1 hp
theorem sim_addStation : pl_sim_addStation Rel := by
  intro M N hR
  obtain ⟨h, a, b, hx⟩ := hR.1
  obtain ⟨hR1, fM, -, fN, -, -, o1, o2⟩ := Rel_rec hR
  have h3 := hx.2.2.1
  have v1 : vp_in (1 : Int32) 237 := pq_vin (n := 1) (by omega) (by omega)
  unfold fv_X5_addStation fv_X6_addStation ok_X5_addStation ok_X6_addStation fv_X6_addStation_41 ok_X6_addStation_41
  rw [pq_c1, fN, hx.1.2.1, hx.2.1.2.1]
  have e1 : (nI a < (6 : Int32)) ↔ (a < 6) := by
    rw [show (6 : Int32) = nI 6 from rfl, pq_lt, pq_nT (by omega), pq_nT (by omega)]; omega
  have e2 : (nI a = (6 : Int32)) ↔ ¬ (a < 6) := by
    rw [show (6 : Int32) = nI 6 from rfl, pq_inj (by omega) (by omega)]; omega
  by_cases q : a < 6
  · have c1 := e1.mpr q
    have c2 : ¬ (nI a = (6 : Int32)) := fun z => (e2.mp z) q
    have u0 : pq_sv (N 1) a 10 = 0 := by
      have hc := (hx.2.2.2.1 a q).2.2.2.2
      rcases hc with ⟨-, -, c⟩ | ⟨c, -⟩
      · exact c (by omega)
      · omega
    have u1 : fv_X6_adds (nI a) 10 (-1) (fv_X6_records N) = ps_st (fv_X6_records N) 1 (3 + 27 * a + 10) (-1) := by
      have := pq_adds (s := a) (j := 10) q (by omega) (-1) (fv_X6_records N)
      rw [fN, u0, Int32.zero_add] at this; exact this
    have o3 : ok_X6_adds (nI a) 10 (-1) (fv_X6_records N) := pq_addsok (s := a) (j := 10) q (by omega) (-1) _
    have u2 : (fv_X3_remember 1 M) 1 1 = nI a := by rw [fM 1 (by omega) (by omega)]; exact hx.1.2.1
    have u3 : (ps_st (fv_X6_records N) 1 (3 + 27 * a + 10) (-1)) 1 1 = nI a := by rw [pq_stne (Or.inr (by omega)), fN]; exact hx.2.1.2.1
    rw [if_pos c1, if_neg c2, u1, u2, u3, pq_nIadd1]
    refine ⟨⟨fun _ => ⟨o1, trivial⟩, fun _ => trivial⟩, ⟨v1, fun _ => trivial, fun _ => ⟨o2, v1, o3, v1, v1, v1, trivial⟩⟩, ?_, ?_⟩
    · dsimp only
      rw [pq_stself, pq_stself]
    · have hx1 := DR_rec hR hx
      have hxs : DX (fv_X3_remember 1 M) 1 (ps_st (fv_X6_records N) 1 (3 + 27 * a + 10) (-1) 1) h a b (fun s => pq_S True (pq_B h) (15 - h) (s < a + 1)) (fun c => pq_K a h 0 (c < b)) := by
        refine DX_st (S := fun s => pq_S True (pq_B h) (15 - h) (s < a)) hx1 q (fun k _ _ => rfl) (fun i hi => pq_stne (Or.inr (by omega))) (fun s' hs' hne f g r hh => ?_) ?_
        · have : (s' < a) = (s' < a + 1) := propext (by omega)
          rw [← this]; exact hh
        · rw [pq_svupd (by omega)]
          have := S_added (by omega) (by omega) (hx1.2.2.2.1 a q)
          rw [show (a < a + 1) = True from eq_true (by omega)]
          exact this
      have hxd : DR (ps_st (fv_X3_remember 1 M) 1 1 (nI (a + 1))) 1 (ps_st (ps_st (fv_X6_records N) 1 (3 + 27 * a + 10) (-1)) 1 1 (nI (a + 1)) 1) h (a + 1) b := by
        refine DX_hd hxs ⟨?_, pq_stself, ?_⟩ ⟨?_, pq_stself, ?_⟩ ⟨by omega, by omega, by omega⟩ (fun k hk => ps_st_ne hk) (fun i hi => pq_stne (Or.inr (by omega))) (fun s _ f g r hh => hh) (fun c _ f r hh => ?_)
        · rw [pq_stne (Or.inr (by omega))]; exact hx1.1.1
        · rw [pq_stne (Or.inr (by omega))]; exact hx1.1.2.2
        · rw [pq_stne (Or.inr (by omega))]; exact hxs.2.1.1
        · rw [pq_stne (Or.inr (by omega))]; exact hxs.2.1.2.2
        · obtain ⟨k1, k2, k3⟩ := hh
          refine ⟨k1, ?_, k3⟩
          rcases k2 with k2 | ⟨k4, s, k5, k6⟩
          · exact Or.inl k2
          · exact Or.inr ⟨k4, s, by omega, k6⟩
      exact Rel_day hR1 (fun i hi => ps_st_ne (by omega)) (fun i hi => (ps_st_ne hi).trans (ps_st_ne hi)) hxd
  · have c1 : ¬ (nI a < (6 : Int32)) := fun z => q (e1.mp z)
    have c2 := e2.mpr q
    rw [if_neg c1, if_pos c2]
    exact ⟨⟨fun z => absurd z c1, fun _ => trivial⟩, ⟨v1, fun _ => trivial, fun z => absurd c2 z⟩, rfl, hR⟩
theorem K_added {a h : Nat} {ad : Prop} {f r : Nat → Int32} (hp : ¬ ad) (hk : pq_K a h 0 ad f r) {x y : Int32} (hx : 1 ≤ x.toInt ∧ x.toInt ≤ 60) (hy : 1 ≤ y.toInt ∧ y.toInt ≤ 6) : pq_K a h 0 True (upd (upd f 0 x) 1 y) (upd (upd (upd r 0 x) 1 y) 2 (-1)) := by
  obtain ⟨⟨e0, e1, e3, e4, e5⟩, k2, k3, k4, k5, k6⟩ := hk
  rcases k2 with ⟨d1, -, d3⟩ | ⟨d1, -⟩
  · refine ⟨?_, Or.inl ?_, fun _ => ?_, ?_, ?_, ?_⟩
    · simp [upd, e3, e4, e5]
    · simp [upd, d1, d3]
    · simp only [upd]
      simp (config := {decide := true}) only [if_true, if_false, d3]
      refine ⟨hx, hy, ?_⟩
      have : ((0 : Int32)).toInt = 0 := by decide
      omega
    · simpa [upd] using k4
    · simpa [upd] using k5
    · simpa [upd] using k6
  · exact absurd d1 hp
theorem sim_addClerk : pl_sim_addClerk Rel := by
  intro M N a1 a2 hR
  obtain ⟨h, a, b, hx⟩ := hR.1
  obtain ⟨hR1, fM, -, fN, -, -, o1, o2⟩ := Rel_rec hR
  have h3 := hx.2.2.1
  have v2 : vp_in (2 : Int32) 237 := pq_vin (n := 2) (by omega) (by omega)
  unfold fv_X5_addClerk fv_X6_addClerk ok_X5_addClerk ok_X6_addClerk
  rw [wi_in a1 1 60 M N, wi_in a2 1 6 M N, pq_c2, fN, hx.1.2.2, hx.2.1.2.2]
  rcases in_01 a1 1 60 N with i1 | i1
  · simp only [i1, ok_X5_isWithin, ok_X6_in, if_true, true_implies, not_true_eq_false, false_implies, and_true, true_and]
    exact hR
  rcases in_01 a2 1 6 N with i2 | i2
  · simp only [i1, i2, pq_10, ok_X5_isWithin, ok_X6_in, if_true, if_false, true_implies, not_true_eq_false, not_false_eq_true, false_implies, and_true, true_and]
    exact hR
  have e1 : (nI b < (12 : Int32)) ↔ (b < 12) := by
    rw [show (12 : Int32) = nI 12 from rfl, pq_lt, pq_nT (by omega), pq_nT (by omega)]; omega
  have e2 : (nI b = (12 : Int32)) ↔ ¬ (b < 12) := by
    rw [show (12 : Int32) = nI 12 from rfl, pq_inj (by omega) (by omega)]; omega
  simp only [i1, i2, pq_10, ok_X5_isWithin, ok_X6_in, if_false, true_implies, not_false_eq_true, false_implies, and_true, true_and]
  by_cases q : b < 12
  · have c1 := e1.mpr q
    have c2 : ¬ (nI b = (12 : Int32)) := fun z => (e2.mp z) q
    have b1 := in_b i1
    have b2 := in_b i2
    have g1 : ((1 : Int32)).toInt = 1 := by decide
    have g6 : ((6 : Int32)).toInt = 6 := by decide
    have g60 : ((60 : Int32)).toInt = 60 := by decide
    have vb : vp_in (nI b) 12 := pq_vin q (by omega)
    rw [if_pos c1, if_neg c2]
    have u2 : (fv_X3_remember 1 M) 1 2 = nI b := by rw [fM 1 (by omega) (by omega)]; exact hx.1.2.2
    have w1 : ∀ N', fv_X6_laysClerk (nI b) 0 a1 N' = ps_st N' 1 (165 + 6 * b + 0) a1 := fun N' => pq_lays (j := 0) q (by omega) a1 N'
    have w2 : ∀ N', fv_X6_laysClerk (nI b) 1 a2 N' = ps_st N' 1 (165 + 6 * b + 1) a2 := fun N' => pq_lays (j := 1) q (by omega) a2 N'
    have w3 : ∀ N', fv_X6_laysClerk (nI b) 2 (-1) N' = ps_st N' 1 (165 + 6 * b + 2) (-1) := fun N' => pq_lays (j := 2) q (by omega) (-1) N'
    have x1 : ∀ N', ok_X6_laysClerk (nI b) 0 a1 N' := fun N' => pq_laysok (j := 0) q (by omega) a1 N'
    have x2 : ∀ N', ok_X6_laysClerk (nI b) 1 a2 N' := fun N' => pq_laysok (j := 1) q (by omega) a2 N'
    have x3 : ∀ N', ok_X6_laysClerk (nI b) 2 (-1) N' := fun N' => pq_laysok (j := 2) q (by omega) (-1) N'
    have hx1 := DR_rec hR hx
    have hxs : DX (ps_st (ps_st (fv_X3_remember 1 M) (1 + 14 + 1 + b) 0 a1) (1 + 14 + 1 + b) 1 a2) 1 (ps_st (ps_st (ps_st (fv_X6_records N) 1 (165 + 6 * b + 0) a1) 1 (165 + 6 * b + 1) a2) 1 (165 + 6 * b + 2) (-1) 1) h a b (fun s => pq_S True (pq_B h) (15 - h) (s < a)) (fun c => pq_K a h 0 (c < b + 1)) := by
      refine DX_ck (K := fun c => pq_K a h 0 (c < b)) hx1 q (fun k hk => (ps_st_ne hk).trans (ps_st_ne hk)) (fun i hi => by rw [pq_stne (Or.inr (by omega)), pq_stne (Or.inr (by omega)), pq_stne (Or.inr (by omega))]) (fun c hc hne f r hh => ?_) ?_
      · have : (c < b) = (c < b + 1) := propext (by omega)
        rw [← this]; exact hh
      · rw [ps_st_self, ps_st_self, pq_kvupd (by omega), pq_kvupd (by omega), pq_kvupd (by omega), show (b < b + 1) = True from eq_true (by omega)]
        exact K_added (by omega) (hx1.2.2.2.2 b q) (by omega) (by omega)
    have hxd : DR (ps_st (ps_st (ps_st (fv_X3_remember 1 M) (1 + 14 + 1 + b) 0 a1) (1 + 14 + 1 + b) 1 a2) 1 2 (nI (b + 1))) 1 (ps_st (ps_st (ps_st (ps_st (fv_X6_records N) 1 (165 + 6 * b + 0) a1) 1 (165 + 6 * b + 1) a2) 1 (165 + 6 * b + 2) (-1)) 1 2 (nI (b + 1)) 1) h a (b + 1) := by
      refine DX_hd hxs ⟨?_, ?_, pq_stself⟩ ⟨?_, ?_, pq_stself⟩ ⟨by omega, by omega, by omega⟩ (fun k hk => ps_st_ne hk) (fun i hi => pq_stne (Or.inr (by omega))) (fun s _ f g r hh => hh) (fun c _ f r hh => hh)
      · rw [pq_stne (Or.inr (by omega))]; exact hxs.1.1
      · rw [pq_stne (Or.inr (by omega))]; exact hxs.1.2.1
      · rw [pq_stne (Or.inr (by omega))]; exact hxs.2.1.1
      · rw [pq_stne (Or.inr (by omega))]; exact hxs.2.1.2.1
    have y1 : (ps_st (fv_X3_remember 1 M) (1 + 14 + 1 + b) 0 a1) 1 2 = nI b := by rw [ps_st_ne (by omega)]; exact u2
    have y2 : (ps_st (ps_st (fv_X3_remember 1 M) (1 + 14 + 1 + b) 0 a1) (1 + 14 + 1 + b) 1 a2) 1 2 = nI b := hxs.1.2.2
    have y3 := hxs.2.1.2.2
    unfold fv_X2_engageClerk fv_X2_engageClerk_26 ok_X2_engageClerk ok_X2_engageClerk_26 fv_X6_addClerk_62 ok_X6_addClerk_62 fv_X6_addClerk_79 ok_X6_addClerk_79
    simp only [c1, c2, u2, y1, y2, y3, pq_c2, pq_nI (show b < 4000 by omega), w1, w2, w3, x1, x2, x3, o1, o2, v2, vb, pq_nIadd1, pq_stself, pq_sub1, true_implies, false_implies, not_true_eq_false, not_false_eq_true, and_true, true_and]
    exact Rel_day hR1 (fun i hi => (ps_st_ne (by omega)).trans ((ps_st_ne (by omega)).trans (ps_st_ne (by omega)))) (fun i hi => (ps_st_ne hi).trans ((ps_st_ne hi).trans ((ps_st_ne hi).trans (ps_st_ne hi)))) hxd
  · have c1 : ¬ (nI b < (12 : Int32)) := fun z => q (e1.mp z)
    have c2 := e2.mpr q
    rw [if_neg c1, if_pos c2]
    refine ⟨?_, ?_, rfl, hR⟩
    · exact ⟨fun z => absurd z c1, fun _ => trivial⟩
    · exact ⟨v2, fun _ => trivial, fun z => absurd c2 z⟩
theorem K_come {a h : Nat} {e : Int} {f r : Nat → Int32} (hk : pq_K a h e True f r) {s : Nat} (hs : s < a) : pq_K a h e True (upd f 2 (nI s)) (upd r 2 (nI s)) := by
  obtain ⟨⟨e0, e1, e3, e4, e5⟩, k2, k3, k4, k5, k6⟩ := hk
  refine ⟨?_, Or.inr ⟨trivial, s, hs, ?_, ?_⟩, fun _ => ?_, ?_, ?_, ?_⟩
  · simp [upd, e0, e1, e3, e4, e5]
  · simp [upd]
  · simp [upd]
  · simpa [upd] using k3 trivial
  · simpa [upd] using k4
  · simpa [upd] using k5
  · simpa [upd] using k6
theorem K_leave {a h : Nat} {e e' : Int} {f r : Nat → Int32} (hk : pq_K a h e True f r) (he : e' ≤ 1) {v : Int32} (hv : v = 0 ∨ v = 1 ∨ v = 2) : pq_K a h e' True (upd (upd (upd f 2 (-5)) 3 0) 5 v) (upd (upd (upd r 2 (-1)) 3 0) 5 v) := by
  obtain ⟨⟨e0, e1, e3, e4, e5⟩, k2, k3, k4, k5, k6⟩ := hk
  have z : ((0 : Int32)).toInt = 0 := by decide
  refine ⟨?_, Or.inl ?_, fun _ => ?_, ?_, ?_, ?_⟩
  · simp [upd, e0, e1, e4]
  · simp [upd]
  · have := k3 trivial
    refine ⟨by simpa [upd] using this.1, by simpa [upd] using this.2.1, ?_⟩
    simp [upd]
    have := this.2.1; omega
  · simp [upd]
  · simpa [upd] using k5
  · simpa [upd] using hv
theorem DX_leave {M N : ps_M} {d h a b : Nat} {S : Nat → (Nat → Int32) → (Nat → Int32) → (Nat → Int32) → Prop} {K : Nat → (Nat → Int32) → (Nat → Int32) → Prop} (hx : DX M d (N 1) h a b S K) {c : Nat} {v : Int32} (hc : c < 12) (hn : K c (upd (upd (upd (M (d + 14 + 1 + c)) 2 (-5)) 3 0) 5 v) (upd (upd (upd (pq_kv (N 1) c) 2 (-1)) 3 0) 5 v)) : DX (fv_X1_leaveDuty (d + 14 + 1 + c) v M) d (fv_X6_leaves (nI c) v N 1) h a b S K ∧ (∀ i, i ≠ d + 14 + 1 + c → fv_X1_leaveDuty (d + 14 + 1 + c) v M i = M i) ∧ (∀ i, i ≠ 1 → fv_X6_leaves (nI c) v N i = N i) ∧ ok_X6_leaves (nI c) v N := by
  have w2 : ∀ x N', fv_X6_laysClerk (nI c) 2 x N' = ps_st N' 1 (165 + 6 * c + 2) x := fun x N' => pq_lays (j := 2) hc (by omega) x N'
  have w3 : ∀ x N', fv_X6_laysClerk (nI c) 3 x N' = ps_st N' 1 (165 + 6 * c + 3) x := fun x N' => pq_lays (j := 3) hc (by omega) x N'
  have w5 : ∀ x N', fv_X6_laysClerk (nI c) 5 x N' = ps_st N' 1 (165 + 6 * c + 5) x := fun x N' => pq_lays (j := 5) hc (by omega) x N'
  have x2 : ∀ x N', ok_X6_laysClerk (nI c) 2 x N' := fun x N' => pq_laysok (j := 2) hc (by omega) x N'
  have x3 : ∀ x N', ok_X6_laysClerk (nI c) 3 x N' := fun x N' => pq_laysok (j := 3) hc (by omega) x N'
  have x5 : ∀ x N', ok_X6_laysClerk (nI c) 5 x N' := fun x N' => pq_laysok (j := 5) hc (by omega) x N'
  unfold fv_X1_leaveDuty fv_X6_leaves ok_X6_leaves
  rw [w2, w3, w5]
  refine ⟨?_, fun i hi => (ps_st_ne hi).trans ((ps_st_ne hi).trans (ps_st_ne hi)), fun i hi => (ps_st_ne hi).trans ((ps_st_ne hi).trans (ps_st_ne hi)), ⟨x2 _ _, x3 _ _, x5 _ _, trivial⟩⟩
  refine DX_ck (K := K) hx hc (fun k hk => (ps_st_ne hk).trans ((ps_st_ne hk).trans (ps_st_ne hk))) (fun i hi => by rw [pq_stne (Or.inr (by omega)), pq_stne (Or.inr (by omega)), pq_stne (Or.inr (by omega))]) (fun c' _ _ f r hh => hh) ?_
  rw [ps_st_self, ps_st_self, ps_st_self, pq_kvupd (by omega), pq_kvupd (by omega), pq_kvupd (by omega)]
  exact hn
theorem sim_relieve : pl_sim_relieve Rel := by
  intro M N a1 hR
  obtain ⟨h, a, b, hx⟩ := hR.1
  obtain ⟨ok6, hsta⟩ := pq_cle hx a1
  have ha := hx.2.2.1.2.1
  obtain ⟨hR1, fM, -, fN, -, -, o1, o2⟩ := Rel_rec hR
  unfold fv_X5_relieve fv_X6_relieve ok_X5_relieve ok_X6_relieve
  rcases hsta with ⟨e1, e2⟩ | ⟨c, hc, rfl, e1, e2⟩
  · simp only [e1, e2, ok6, ok_X2_hasClerk, if_true, true_implies, not_true_eq_false, false_implies, and_true, true_and]
    exact hR
  obtain ⟨hc12, hK⟩ := t_K hx hc
  have hoff := K_off ha hK
  have v1 : vp_in (nI c) 12 := pq_vin hc12 (by omega)
  have p2 : ∀ N, fv_X6_ofClerk (nI c) 2 N = pq_kv (N 1) c 2 := pq_ofK (j := 2) hc12 (by omega)
  have p3 : ∀ N, fv_X6_ofClerk (nI c) 3 N = pq_kv (N 1) c 3 := pq_ofK (j := 3) hc12 (by omega)
  have x2 : ∀ N, ok_X6_ofClerk (nI c) 2 N := pq_ofKok (j := 2) hc12 (by omega)
  have x3 : ∀ N, ok_X6_ofClerk (nI c) 3 N := pq_ofKok (j := 3) hc12 (by omega)
  have hx1 := DR_rec hR hx
  have hK1 := (t_K hx1 hc).2
  obtain ⟨d1, d2, d3, d4⟩ := DX_leave (K := fun c => pq_K a h 0 (c < b)) hx1 (c := c) (v := 1) hc12 (by
    show pq_K a h 0 (c < b) _ _
    rw [show (c < b) = True from eq_true hc]
    exact K_leave hK1 (by omega) (Or.inr (Or.inl rfl)))
  have e5 : (fv_X3_remember 1 M) (1 + 14 + 1 + c) 3 = pq_kv (fv_X6_records N 1) c 3 := hK1.1.2.2.1
  have e6 : (fv_X1_isOnDuty (1 + 14 + 1 + c) M = 0) = (pq_kv (N 1) c 2 = -1) := by
    unfold fv_X1_isOnDuty
    by_cases q : M (1 + 14 + 1 + c) 2 = -5
    · rw [if_pos q]; exact propext ⟨fun _ => hoff.mp q, fun _ => rfl⟩
    · rw [if_neg q]; exact propext ⟨fun z => absurd z (by decide), fun z => absurd (hoff.mpr z) q⟩
  simp only [e1, e2, e5, e6, p2, p3, x2, x3, v1, o1, o2, d4, ok6, ok_X2_hasClerk, ok_X1_isOnDuty, ok_X1_leaveDuty, pq_nI (show c < 4000 by omega), pq_10, if_false, true_implies, not_false_eq_true, false_implies, implies_true, and_true, true_and]
  by_cases q : pq_kv (N 1) c 2 = -1
  · rw [if_pos q, if_pos q]; exact ⟨rfl, hR⟩
  · rw [if_neg q, if_neg q]
    exact ⟨rfl, Rel_day hR1 (fun i hi => d2 i (by omega)) (fun i hi => d3 i hi) d1⟩
theorem sim_assign : pl_sim_assign Rel := by
  intro M N a1 a2 hR
  obtain ⟨h, a, b, hx⟩ := hR.1
  obtain ⟨ok6, hsta⟩ := pq_cle hx a1
  obtain ⟨ok7, hstb⟩ := pq_sta hx a2
  have ha := hx.2.2.1.2.1
  obtain ⟨hR1, fM, -, fN, -, -, o1, o2⟩ := Rel_rec hR
  unfold fv_X5_assign fv_X6_assign ok_X5_assign ok_X6_assign
  rcases hsta with ⟨e1, e2⟩ | ⟨c, hc, rfl, e1, e2⟩
  · simp only [e1, e2, ok6, ok_X2_hasClerk, if_true, true_implies, not_true_eq_false, false_implies, and_true, true_and]
    exact hR
  rcases hstb with ⟨f1, f2⟩ | ⟨s, hs, rfl, f1, f2⟩
  · simp only [e1, e2, f1, f2, ok6, ok7, ok_X2_hasClerk, ok_X2_hasStation, pq_10, if_true, if_false, true_implies, not_true_eq_false, not_false_eq_true, false_implies, and_true, true_and]
    exact hR
  obtain ⟨hc12, hK⟩ := t_K hx hc
  obtain ⟨k1, k2⟩ := K_free ha hc12 hK
  have v1 : vp_in (nI c) 12 := pq_vin hc12 (by omega)
  have of1 := ok_free (1 + 14 + 1 + c) M
  have of2 := ok_freeM hc12 N
  rcases k2 with k2 | k2
  · simp only [e1, e2, f1, f2, k1, k2, of1, of2, v1, pq_nI (show c < 4000 by omega), ok6, ok7, ok_X2_hasClerk, ok_X2_hasStation, pq_10, if_true, if_false, true_implies, not_true_eq_false, not_false_eq_true, false_implies, and_true, true_and]
    exact hR
  have hx1 := DR_rec hR hx
  have hK1 := (t_K hx1 hc).2
  have w2 : ∀ x N', fv_X6_laysClerk (nI c) 2 x N' = ps_st N' 1 (165 + 6 * c + 2) x := fun x N' => pq_lays (j := 2) hc12 (by omega) x N'
  have x2 : ∀ x N', ok_X6_laysClerk (nI c) 2 x N' := fun x N' => pq_laysok (j := 2) hc12 (by omega) x N'
  have hx2 : DR (ps_st (fv_X3_remember 1 M) (1 + 14 + 1 + c) 2 (nI s)) 1 (ps_st (fv_X6_records N) 1 (165 + 6 * c + 2) (nI s) 1) h a b := by
    refine DX_setK (K := fun c => pq_K a h 0 (c < b)) hx1 hc12 (by omega) ?_
    show pq_K a h 0 (c < b) _ _
    rw [show (c < b) = True from eq_true hc]
    exact K_come hK1 hs
  have hs6 : s < 6 := by omega
  obtain ⟨g1, g2, g3⟩ := t_clerksAt hx2 hs6
  simp only [e1, e2, f1, f2, k1, k2, of1, of2, v1, w2, x2, o1, o2, fv_X1_comeTo, ok_X1_comeTo, pq_nI (show c < 4000 by omega), ok6, ok7, ok_X2_hasClerk, ok_X2_hasStation, pq_10, if_true, if_false, true_implies, not_true_eq_false, not_false_eq_true, false_implies, and_true, true_and]
  exact ⟨g2, g3, g1, Rel_day hR1 (fun i hi => ps_st_ne (by omega)) (fun i hi => ps_st_ne hi) hx2⟩
