/-! ===== stations and clerks are added ===== -/
theorem FS_SI {h : Nat} {f g : Nat → Int32} (k : FS f g) : SI True h 0 f g := by
  have e : ∀ j, 1 ≤ j → j ≤ 12 → f j = 0 := k.1
  have hc : cam g (min h 15) = 0 := by
    have key : ∀ m, m ≤ 15 → cam g m = 0 := by
      intro m
      induction m with
      | zero => intro _; rfl
      | succ m ih =>
        intro hm
        show (g m).toInt + cam g m = 0
        rw [k.2 m (by omega), ih (by omega), Int32.toInt_zero]; omega
    exact key _ (by omega)
  unfold SI
  rw [e 1 (by omega) (by omega), e 2 (by omega) (by omega), e 3 (by omega) (by omega), e 5 (by omega) (by omega), e 6 (by omega) (by omega), e 7 (by omega) (by omega), e 8 (by omega) (by omega), e 9 (by omega) (by omega), e 10 (by omega) (by omega), e 12 (by omega) (by omega), hc, Int32.toInt_zero]
  exact ⟨fun t ht => by rw [k.2 t ht, Int32.toInt_zero]; omega, by omega, fun _ => by omega, by omega, rfl, rfl, by omega, Or.inl rfl⟩
theorem KI_more {a a' w : Nat} {e q : Int} {f : Nat → Int32} (ha : a ≤ a') (k : KI a w e q f) : KI a' w e q f := by
  obtain ⟨k1, k2, k3, k4⟩ := k
  refine ⟨k1, k2, ?_, k4⟩
  rcases k3 with g | ⟨g, s, hs, g2⟩
  · exact Or.inl g
  · exact Or.inr ⟨g, s, by omega, g2⟩
section ADD
variable {M : ps_M} {n h a b : Nat} {H : Nat → ps_M} {k : Prop} {S : ps_M} {gv : Nat → Int32}
theorem x_addStation (hS : ST M n H k S) (hx : DI M 1 h a b gv) (h6 : a < 6) (hg : gv a = 0) : ok_X5_addStation M ∧ (fv_X5_addStation M).1 = nI a ∧ ST (fv_X5_addStation M).2 (h_len n) (h_push n H M) k S ∧ DI (fv_X5_addStation M).2 1 h (a + 1) b gv ∧ (∀ i, 194 ≤ i → (fv_X5_addStation M).2 i = M i) := by
  obtain ⟨r1, r2, hR⟩ := act_R hS hx
  obtain ⟨s1, s2, s3⟩ := ST_rem hS
  have c6 : M 1 1 < (6 : Int32) := by rw [hx.1.1.2.1]; exact nI_lt (b := 6) h6 (by omega)
  have eA : fv_X5_addStation M = ((ps_st (fv_X3_remember 1 M) 1 1 (nI (a + 1))) 1 1 - 1, ps_st (fv_X3_remember 1 M) 1 1 (nI (a + 1))) := by
    unfold fv_X5_addStation
    rw [if_pos c6, r2 1 (by omega), hx.1.1.2.1, pq_nIadd1]
  have oA : ok_X5_addStation M := ⟨fun _ => ⟨r1, trivial⟩, fun _ => trivial⟩
  rw [eA]
  generalize fv_X3_remember 1 M = R at hR s1 s2
  have z0 : ∀ i, i ≠ 1 → ps_st R 1 1 (nI (a + 1)) i = R i := fun i hi => ps_st_ne hi
  have z1 : ps_st R 1 1 (nI (a + 1)) 1 1 = nI (a + 1) := pq_stself
  have z2 : ∀ j, j ≠ 1 → ps_st R 1 1 (nI (a + 1)) 1 j = R 1 j := fun j hj => pq_stne (Or.inr hj)
  generalize ps_st R 1 1 (nI (a + 1)) = Z at z0 z1 z2
  refine ⟨oA, by rw [z1]; exact pq_sub1 a, ST_frame s1 (fun i i1 i2 i3 => z0 i (by omega)), ?_, fun i hi => (z0 i (by omega)).trans (s2 i (by omega))⟩
  show DI Z 1 h (a + 1) b gv
  refine DY_hd hR ⟨⟨by rw [z2 0 (by omega)]; exact hR.1.1.1, z1, by rw [z2 2 (by omega)]; exact hR.1.1.2.2⟩, hR.1.2.1, by omega, hR.1.2.2.2⟩ z0 (fun s hs f g q => ⟨fun z => ?_, fun z => q.2 (by omega)⟩) (fun c _ f q => ⟨fun z => KI_more (by omega) (q.1 z), q.2⟩)
  by_cases w : s < a
  · exact q.1 w
  · have e : s = a := by omega
    subst e
    rw [hg]
    exact FS_SI (q.2 w)
theorem x_addClerk (hS : ST M n H k S) (hx : DI M 1 h a b gv) (h12 : b < 12) {p q : Nat} (hp1 : 1 ≤ p) (hp : p ≤ 60) (hq1 : 1 ≤ q) (hq : q ≤ 6) : ok_X5_addClerk (nI p) (nI q) M ∧ (fv_X5_addClerk (nI p) (nI q) M).1 = nI b ∧ ST (fv_X5_addClerk (nI p) (nI q) M).2 (h_len n) (h_push n H M) k S ∧ DI (fv_X5_addClerk (nI p) (nI q) M).2 1 h a (b + 1) gv ∧ (∀ i, 194 ≤ i → (fv_X5_addClerk (nI p) (nI q) M).2 i = M i) := by
  obtain ⟨r1, r2, hR⟩ := act_R hS hx
  obtain ⟨s1, s2, s3⟩ := ST_rem hS
  have w1 : fv_X5_isWithin (nI p) 1 60 M = 1 := a_wi (l := 1) (m := 60) M hp1 hp (by omega)
  have w2 : fv_X5_isWithin (nI q) 1 6 M = 1 := a_wi (l := 1) (m := 6) M hq1 hq (by omega)
  have ow : ∀ x l m, ok_X5_isWithin x l m M := fun _ _ _ => trivial
  have c12 : M 1 2 < (12 : Int32) := by rw [hx.1.1.2.2]; exact nI_lt (b := 12) h12 (by omega)
  have vb : vp_in (nI b) 12 := pq_vin h12 (by omega)
  generalize hRR : fv_X3_remember 1 M = R at hR s1 s2 r2
  have R2 : R 1 2 = nI b := hR.1.1.2.2
  have y1 : ps_st R (1 + 14 + 1 + b) 0 (nI p) 1 2 = nI b := by rw [pq_stne (Or.inl (by omega))]; exact R2
  obtain ⟨Y, hY⟩ : ∃ Y, ps_st (ps_st R (1 + 14 + 1 + b) 0 (nI p)) (1 + 14 + 1 + b) 1 (nI q) = Y := ⟨_, rfl⟩
  have y2 : ∀ i, i ≠ 1 + 14 + 1 + b → Y i = R i := fun i hi => by rw [← hY]; exact (ps_st_ne hi).trans (ps_st_ne hi)
  have y3 : Y (1 + 14 + 1 + b) = upd (upd (R (1 + 14 + 1 + b)) 0 (nI p)) 1 (nI q) := by rw [← hY, ps_st_self, ps_st_self]
  have y4 : Y 1 2 = nI b := by rw [y2 1 (by omega)]; exact R2
  obtain ⟨Z, hZ⟩ : ∃ Z, ps_st Y 1 2 (nI (b + 1)) = Z := ⟨_, rfl⟩
  have eE : fv_X2_engageClerk 1 (nI p) (nI q) R = (Z 1 2 - 1, Z) := by
    unfold fv_X2_engageClerk fv_X2_engageClerk_26
    rw [R2, pq_nI (show b < 4000 by omega), y1, pq_nI (show b < 4000 by omega), hY, y4, pq_nIadd1, hZ]
  have oE : ok_X2_engageClerk 1 (nI p) (nI q) R := by
    unfold ok_X2_engageClerk
    rw [R2, pq_nI (show b < 4000 by omega), y1]
    exact ⟨vb, vb, trivial⟩
  have z1 : Z 1 2 = nI (b + 1) := by rw [← hZ]; exact pq_stself
  have z0 : ∀ i, i ≠ 1 → Z i = Y i := fun i hi => by rw [← hZ]; exact ps_st_ne hi
  have z2 : ∀ j, j ≠ 2 → Z 1 j = Y 1 j := fun j hj => by rw [← hZ]; exact pq_stne (Or.inr hj)
  have eA : fv_X5_addClerk (nI p) (nI q) M = (Z 1 2 - 1, Z) := by
    unfold fv_X5_addClerk
    rw [w1, if_neg (by decide), w2, if_neg (by decide), if_pos c12, hRR, eE]
  have oA : ok_X5_addClerk (nI p) (nI q) M := by
    unfold ok_X5_addClerk
    rw [w1, w2, hRR]
    exact ⟨ow _ _ _, fun z => absurd z (by decide), fun _ => ⟨ow _ _ _, fun z => absurd z (by decide), fun _ => ⟨fun _ => ⟨r1, oE, trivial⟩, fun _ => trivial⟩⟩⟩
  rw [eA]
  refine ⟨oA, by rw [z1]; exact pq_sub1 b, ST_frame s1 (fun i i1 i2 i3 => (z0 i (by omega)).trans (y2 i (by omega))), ?_, fun i hi => (z0 i (by omega)).trans ((y2 i (by omega)).trans (s2 i (by omega)))⟩
  show DI Z 1 h a (b + 1) gv
  have hY2 : DY Y 1 h a b (pS True h a gv) (pK a (b + 1) h 0 1) := by
    refine DY_ck hR (c := b) h12 y2 (fun c' hc' _ f w => ⟨fun z => w.1 (by omega), fun z => w.2 (by omega)⟩) ⟨fun _ => ?_, fun z => absurd (Nat.lt_succ_self b) z⟩
    obtain ⟨f0, f1, f2, f3, f4, f5⟩ := (hR.2.2 b h12).2 (Nat.lt_irrefl b)
    have ep : (nI p).toInt = (p : Int) := nI_toInt (by omega)
    have eq : (nI q).toInt = (q : Int) := nI_toInt (by omega)
    rw [y3]
    refine ⟨?_, ?_, Or.inl ⟨f2, f3⟩, ?_, ?_, ?_⟩
    · show 1 ≤ (nI p).toInt ∧ (nI p).toInt ≤ 60
      rw [ep]; omega
    · show 1 ≤ (nI q).toInt ∧ (nI q).toInt ≤ 6
      rw [eq]; omega
    · show 0 ≤ (R (1 + 14 + 1 + b) 3).toInt ∧ (R (1 + 14 + 1 + b) 3).toInt + 0 ≤ (nI q).toInt ∧ (R (1 + 14 + 1 + b) 3).toInt ≤ (R (1 + 14 + 1 + b) 4).toInt
      rw [f3, f4, Int32.toInt_zero, eq]; omega
    · show (R (1 + 14 + 1 + b) 4).toInt ≤ (h : Int)
      rw [f4, Int32.toInt_zero]; omega
    · show 0 ≤ (R (1 + 14 + 1 + b) 5).toInt ∧ (R (1 + 14 + 1 + b) 5).toInt ≤ 1
      rw [f5, Int32.toInt_zero]; omega
  exact DY_hd hY2 ⟨⟨by rw [z2 0 (by omega), y2 1 (by omega)]; exact hR.1.1.1, by rw [z2 1 (by omega), y2 1 (by omega)]; exact hR.1.1.2.1, z1⟩, hR.1.2.1, hR.1.2.2.1, by omega⟩ z0 (fun s _ f g w => w) (fun c _ f w => w)
end ADD
