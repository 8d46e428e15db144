/-! ===== what a station lacks ===== -/
/-- the same day but for the stock of the station s -/
def XQ (M : ps_M) (d : Nat) (N : ps_M) (e s : Nat) : Prop :=
  (∀ j, j < 3 → M d j = N e j) ∧
  (∀ s', s' < 6 → (∀ j, 1 ≤ j → j ≤ 12 → (s' = s ∧ j = 5) ∨ M (d + 1 + 1 + 2 * s') j = N (e + 1 + 1 + 2 * s') j) ∧ (∀ t, t < 15 → M (d + 1 + 1 + 2 * s' + 1) t = N (e + 1 + 1 + 2 * s' + 1) t)) ∧
  (∀ c, c < 12 → ∀ j, j < 6 → M (d + 14 + 1 + c) j = N (e + 14 + 1 + c) j)
theorem XQ_EQ {M N : ps_M} {d e s : Nat} (h : EQ M d N e) : XQ M d N e s := ⟨h.1, fun s' hs => ⟨fun j h1 h2 => Or.inr ((h.2.1 s' hs).1 j h1 h2), (h.2.1 s' hs).2⟩, h.2.2⟩
theorem XQ.trans {M N P : ps_M} {d e g s : Nat} (h : XQ M d N e s) (k : XQ N e P g s) : XQ M d P g s := ⟨fun j hj => (h.1 j hj).trans (k.1 j hj), fun s' hs => ⟨fun j h1 h2 => by
  rcases (h.2.1 s' hs).1 j h1 h2 with q | q
  · exact Or.inl q
  · rcases (k.2.1 s' hs).1 j h1 h2 with z | z
    · exact Or.inl z
    · exact Or.inr (q.trans z), fun t ht => ((h.2.1 s' hs).2 t ht).trans ((k.2.1 s' hs).2 t ht)⟩, fun c hc j hj => (h.2.2 c hc j hj).trans (k.2.2 c hc j hj)⟩
theorem XQ_put {M N : ps_M} {d e s : Nat} (h : XQ M d N e s) (v : Int32) : EQ (ps_st M (d + 1 + 1 + 2 * s) 5 v) d (ps_st N (e + 1 + 1 + 2 * s) 5 v) e := by
  refine ⟨fun j hj => by rw [ps_st_ne (by omega), ps_st_ne (by omega)]; exact h.1 j hj, fun s' hs => ⟨fun j h1 h2 => ?_, fun t ht => by rw [ps_st_ne (by omega), ps_st_ne (by omega)]; exact (h.2.1 s' hs).2 t ht⟩, fun c hc j hj => ?_⟩
  · by_cases q : s' = s
    · subst q
      by_cases z : j = 5
      · subst z; rw [pq_stself, pq_stself]
      · rw [pq_stne (Or.inr z), pq_stne (Or.inr z)]
        exact ((h.2.1 s' hs).1 j h1 h2).resolve_left (fun w => z w.2)
    · rw [ps_st_ne (by omega), ps_st_ne (by omega)]
      exact ((h.2.1 s' hs).1 j h1 h2).resolve_left (fun w => q w.1)
  · by_cases q : d + 14 + 1 + c = d + 1 + 1 + 2 * s
    · by_cases z : e + 14 + 1 + c = e + 1 + 1 + 2 * s
      · rw [q, z]
        by_cases w : j = 5
        · subst w; rw [pq_stself, pq_stself]
        · rw [pq_stne (Or.inr w), pq_stne (Or.inr w), ← q, ← z]; exact h.2.2 c hc j hj
      · omega
    · rw [ps_st_ne q, ps_st_ne (by omega)]; exact h.2.2 c hc j hj
theorem XQ_st {M : ps_M} {d s : Nat} (hs : s < 6) (v : Int32) : XQ (ps_st M (d + 1 + 1 + 2 * s) 5 v) d M d s := by
  refine ⟨fun j hj => by rw [ps_st_ne (by omega)], fun s' hs' => ⟨fun j h1 h2 => ?_, fun t ht => by rw [ps_st_ne (by omega)]⟩, fun c hc j hj => by rw [ps_st_ne (by omega)]⟩
  by_cases q : s' = s ∧ j = 5
  · exact Or.inl q
  · right
    by_cases z : s' = s
    · subst z
      rw [pq_stne (Or.inr (fun w => q ⟨rfl, w⟩))]
    · rw [ps_st_ne (by omega)]
/-- the day ahead with a great stock -/
def LF (M : ps_M) (s : Nat) : ps_M := ps_st (fv_X2_copyFrom 28 1 M) (28 + 1 + 1 + 2 * s) 5 7500
theorem lf_DI {M : ps_M} {h a b s : Nat} {gv : Nat → Int32} (hx : DI M 1 h a b gv) (hs : s < a) : ok_X2_copyFrom 28 1 M ∧ (∀ k, (k < 28 ∨ 55 ≤ k) → LF M s k = M k) ∧ EQ (fv_X2_copyFrom 28 1 M) 28 M 1 ∧ ∃ gv', DI (LF M s) 28 h a b gv' := by
  have ha := hx.1.2.2.1
  obtain ⟨f1, f2, f3, f4⟩ := f_start hx
  refine ⟨f1, ?_⟩
  unfold LF
  generalize fv_X2_copyFrom 28 1 M = C at f2 f3 f4
  refine ⟨fun k hk => (ps_st_ne (by omega)).trans (f2 k hk), f3, fun s' => if s' = s then 7500 + C (28 + 1 + 1 + 2 * s) 6 else gv s', ?_⟩
  refine DY_st f4 (s := s) (by omega) (fun i i1 _ => ps_st_ne i1) (fun s' hs' _ f g q => ⟨fun z => by dsimp only; rw [if_neg hs']; exact q.1 z, q.2⟩) ⟨fun _ => ?_, fun z => absurd hs z⟩
  dsimp only
  rw [if_pos rfl, ps_st_self, ps_st_ne (by omega)]
  obtain ⟨g1, g2, g3, g4, g5, g6, g7⟩ := (f4.2.1 s (by omega)).1 hs
  have e5 : upd (C (28 + 1 + 1 + 2 * s)) 5 7500 5 = 7500 := by unfold upd; rw [if_pos rfl]
  have ej : ∀ j, j ≠ 5 → upd (C (28 + 1 + 1 + 2 * s)) 5 7500 j = C (28 + 1 + 1 + 2 * s) j := fun j hj => by unfold upd; rw [if_neg hj]
  have b5 : 0 ≤ (7500 : Int32).toInt ∧ (7500 : Int32).toInt ≤ 9999 := by decide
  unfold SI
  rw [e5, ej 1 (by omega), ej 2 (by omega), ej 3 (by omega), ej 6 (by omega), ej 7 (by omega), ej 8 (by omega), ej 9 (by omega), ej 10 (by omega), ej 11 (by omega), ej 12 (by omega)]
  exact ⟨g1, g2, g3, b5, g5, rfl, g7⟩
theorem S_served {h : Nat} {gv : Int32} {lq : Prop} {f g : Nat → Int32} (k : SI lq h gv f g) : 0 ≤ (f 3).toInt ∧ (f 3).toInt ≤ 7500 := by
  obtain ⟨g1, ⟨g2, g3, g4⟩, -⟩ := k
  have b1 := cam_bd g1 (min h 15) (by omega)
  omega
/-- what the station s lacks, by what it needs -/
def LK (d : Int32) (s : Nat) (M : ps_M) : Prop := ok_X5_lacks (nI s) M ∧ (fv_X5_lacks (nI s) M).1 = (if 0 < d - M (1 + 1 + 1 + 2 * s) 5 then d - M (1 + 1 + 1 + 2 * s) 5 else 0) ∧ (∀ k, (k < 28 ∨ 55 ≤ k) → (fv_X5_lacks (nI s) M).2 k = M k)
theorem x_lacks {M : ps_M} {h a b s : Nat} {gv : Nat → Int32} (hx : DI M 1 h a b gv) (hs : s < a) : ∃ d : Int32, (-7500 ≤ d.toInt ∧ d.toInt ≤ 7500) ∧ ∀ (N : ps_M) (gv' : Nat → Int32), DI N 1 h a b gv' → XQ N 1 M 1 s → LK d s N := by
  have ha := hx.1.2.2.1
  have hh := hx.1.2.1
  obtain ⟨f1, f2, f3, gf, f4⟩ := lf_DI hx hs
  obtain ⟨v0, M0, -, g1, -, -, -, g5, -, -, -⟩ := h_pass (t := 18 - h) (by omega) f4 (EQ.rfl (M := LF M s) (d := 28))
  have b1 := S_served ((g5.2.1 s (by omega)).1 hs)
  have b2 := p_q hx hs
  have es : (M0 (28 + 1 + 1 + 2 * s) 3 - M (1 + 1 + 1 + 2 * s) 3).toInt = (M0 (28 + 1 + 1 + 2 * s) 3).toInt - (M (1 + 1 + 1 + 2 * s) 3).toInt := pq_sub (by omega) (by omega)
  refine ⟨M0 (28 + 1 + 1 + 2 * s) 3 - M (1 + 1 + 1 + 2 * s) 3, by omega, fun N gv' hN hX => ?_⟩
  obtain ⟨n1, n2, n3, gn, n4⟩ := lf_DI hN hs
  have hE : EQ (LF N s) 28 (LF M s) 28 := XQ_put (((XQ_EQ n3).trans hX).trans (XQ_EQ f3.symm)) 7500
  obtain ⟨v1, N1, M1, j1, j2, j3, j4, j5, j6, j7, -⟩ := h_pass (t := 18 - h) (by omega) n4 hE
  rw [g1] at j2
  have e0 : M0 = M1 := congrArg Prod.snd j2
  have e18 : (18 : Int32) - nI h = nI (18 - h) := by
    rw [pq_eq, show (18 : Int32) = nI 18 from rfl, pk_sub_toInt (by omega) (by omega), pq_nT (by omega)]; omega
  have eh : LF N s 1 0 = nI h := by rw [n2 1 (by omega)]; exact hN.1.1.1
  have h1 := a_hs hN.1.1.2.1 ha hs
  have oh : ok_X2_hasStation 1 (nI s) N := trivial
  have v1' : vp_in (nI s) 6 := pq_vin (by omega) (by omega)
  have fr : ∀ k, (k < 28 ∨ 55 ≤ k) → N1 k = N k := fun k hk => (j4 k (by omega)).trans (n2 k hk)
  have e3 : N1 (28 + 1 + 1 + 2 * s) 3 = M0 (28 + 1 + 1 + 2 * s) 3 := by rw [e0]; exact (j7.2.1 s (by omega)).1 3 (by omega) (by omega)
  have e4 : N1 (1 + 1 + 1 + 2 * s) 3 = M (1 + 1 + 1 + 2 * s) 3 := by
    rw [fr _ (by omega)]
    exact ((hX.2.1 s (by omega)).1 3 (by omega) (by omega)).resolve_left (fun w => absurd w.2 (by omega))
  have eL : fv_X5_lacks (nI s) N = (if 0 < M0 (28 + 1 + 1 + 2 * s) 3 - M (1 + 1 + 1 + 2 * s) 3 - N (1 + 1 + 1 + 2 * s) 5 then M0 (28 + 1 + 1 + 2 * s) 3 - M (1 + 1 + 1 + 2 * s) 3 - N (1 + 1 + 1 + 2 * s) 5 else 0, N1) := by
    unfold fv_X5_lacks
    rw [h1, if_neg (by decide), pq_nI (show s < 4000 by omega)]
    show fv_X5_lacks_58 (nI s) (28 + 1 + 1 + 2 * s) (fv_X2_letHoursPass 28 (18 - LF N s 1 0) (LF N s)).1 (fv_X2_letHoursPass 28 (18 - LF N s 1 0) (LF N s)).2 = _
    rw [eh, e18, j1]
    unfold fv_X5_lacks_58
    dsimp only
    have e5 : N1 (1 + 1 + 1 + 2 * s) 5 = N (1 + 1 + 1 + 2 * s) 5 := by rw [fr _ (by omega)]
    simp only [pq_nI (show s < 4000 by omega), e3, e4, e5]
  refine ⟨?_, by rw [eL], fun k hk => by rw [eL]; exact fr k hk⟩
  unfold ok_X5_lacks
  rw [h1, pq_nI (show s < 4000 by omega)]
  refine ⟨oh, fun z => absurd z (by decide), fun _ => ⟨n1, v1', ?_⟩⟩
  show ok_X2_letHoursPass 28 (18 - LF N s 1 0) (LF N s) ∧ ok_X5_lacks_58 (nI s) (28 + 1 + 1 + 2 * s) (fv_X2_letHoursPass 28 (18 - LF N s 1 0) (LF N s)).1 (fv_X2_letHoursPass 28 (18 - LF N s 1 0) (LF N s)).2
  rw [eh, e18]
  exact ⟨j3, v1', v1', trivial⟩
/-- the newest record -/
theorem h_top (m : Nat) (H : Nat → ps_M) (M : ps_M) (hm : m ≤ 4) : ∃ p, h_len m = p + 1 ∧ h_push m H M p = M ∧ p ≤ 3 := by
  unfold h_len h_push
  by_cases q : m < 4
  · exact ⟨m, by rw [if_pos q], by rw [if_pos q, if_pos rfl], by omega⟩
  · exact ⟨3, by rw [if_neg q], by rw [if_neg q, if_pos rfl], by omega⟩
/-- the one before it -/
theorem h_top2 (n : Nat) (H : Nat → ps_M) (M1 M3 : ps_M) (hn : n ≤ 4) : ∃ q, h_len (h_len n) = q + 1 + 1 ∧ h_push (h_len n) (h_push n H M1) M3 (q + 1) = M3 ∧ h_push (h_len n) (h_push n H M1) M3 q = M1 := by
  have hc : n = 0 ∨ n = 1 ∨ n = 2 ∨ n = 3 ∨ n = 4 := by omega
  rcases hc with rfl | rfl | rfl | rfl | rfl
  · exact ⟨0, rfl, rfl, rfl⟩
  · exact ⟨1, rfl, rfl, rfl⟩
  · exact ⟨2, rfl, rfl, rfl⟩
  · exact ⟨2, rfl, rfl, rfl⟩
  · exact ⟨2, rfl, rfl, rfl⟩
section LACKS
variable {M : ps_M} {n h a b : Nat} {H : Nat → ps_M} {k : Prop} {S : ps_M} {gv : Nat → Int32}
/-- one more paper is supplied, and it lacks nothing; the record is taken back -/
theorem l_92a {Z : ps_M} {d : Int32} {s : Nat} {gv' : Nat → Int32} (hS : ST Z n H k S) (hx : DI Z 1 h a b gv') (hs : s < a) (hd : ∀ (N : ps_M) (gv' : Nat → Int32), DI N 1 h a b gv' → XQ N 1 Z 1 s → LK d s N) (hz : Z (1 + 1 + 1 + 2 * s) 5 + 1 = d) (h9 : (Z (1 + 1 + 1 + 2 * s) 5).toInt + 1 ≤ 9999) : ∃ (Z1 Z2 Z3 : ps_M) (p : Nat), h_len n = p + 1 ∧ p ≤ 3 ∧ fv_X5_supply (nI s) 1 Z = (d, Z1) ∧ ok_X5_supply (nI s) 1 Z ∧ fv_X5_lacks (nI s) Z1 = (0, Z2) ∧ ok_X5_lacks (nI s) Z1 ∧ fv_X5_undo Z2 = (nI p, Z3) ∧ ok_X5_undo Z2 ∧ ST Z3 p (h_push n H Z) k S ∧ EQ Z3 1 Z 1 ∧ Z3 197 = Z 197 := by
  have ha := hx.1.2.2.1
  obtain ⟨o1, Z1, e1, e2, s1, x1, g1⟩ := x_supply1 hS hx hs (p := 1) (by omega) (by omega) h9
  obtain ⟨-, r2, -⟩ := act_R hS hx
  have e1 : fv_X5_supply (nI s) 1 Z = (Z (1 + 1 + 1 + 2 * s) 5 + 1, Z1) := e1
  have o1 : ok_X5_supply (nI s) 1 Z := o1
  have hR : EQ (fv_X3_remember 1 Z) 1 Z 1 := EQ_frame (fun j j1 j2 => r2 j (by omega))
  have hX : XQ Z1 1 Z 1 s := by
    rw [e2]
    exact (XQ_st (by omega) _).trans (XQ_EQ hR)
  obtain ⟨k1, k2, k3⟩ := hd Z1 _ x1 hX
  have e5 : Z1 (1 + 1 + 1 + 2 * s) 5 = d := by rw [e2]; exact pq_stself.trans hz
  rw [e5, Int32.sub_self, if_neg (by decide)] at k2
  obtain ⟨p, p1, p2, p3⟩ := h_top n H Z hS.1.1
  have s2 := ST_frame s1 (M' := (fv_X5_lacks (nI s) Z1).2) (fun i i1 i2 i3 => k3 i (by omega))
  rw [p1] at s2
  obtain ⟨u1, u2, u3, u4, u5⟩ := st_undo s2
  rw [p2] at u4
  have eu : fv_X5_undo (fv_X5_lacks (nI s) Z1).2 = (nI p, (fv_X5_undo (fv_X5_lacks (nI s) Z1).2).2) := Prod.ext u2 rfl
  have el : fv_X5_lacks (nI s) Z1 = (0, (fv_X5_lacks (nI s) Z1).2) := Prod.ext k2 rfl
  refine ⟨Z1, (fv_X5_lacks (nI s) Z1).2, (fv_X5_undo (fv_X5_lacks (nI s) Z1).2).2, p, p1, p3, by rw [e1, hz], o1, el, k1, eu, u1, u3, u4, ?_⟩
  rw [u5 197 (by omega) (by omega), k3 197 (by omega), g1 197 (by omega)]
theorem l_lacks (hS : ST M n H k S) (hx : DI M 1 h a b gv) (h0 : 0 < a) (x : Int32) : ok_L_lacks x M ∧ (fv_L_lacks x M).1 = 1 ∧ (∃ n' H', ST (fv_L_lacks x M).2 n' H' k S) ∧ DI (fv_L_lacks x M).2 1 h a b gv ∧ (fv_L_lacks x M).2 197 = M 197 := by
  have H1 := hx.1.1.2.1
  have ha := hx.1.2.2.1
  have ca : (nI a = 0) = False := eq_false (fun z => by have := (pq_inj (t := 0) (by omega) (by omega)).mp z; omega)
  obtain ⟨s, hs, es, os⟩ := up_spec x (m := a) h0 (by omega)
  obtain ⟨d, bd, hd⟩ := x_lacks hx hs
  obtain ⟨k1, k2, k3⟩ := hd M gv hx (XQ_EQ EQ.rfl)
  have g4 := (p_S hx hs).2.2.2.1
  generalize hM1 : (fv_X5_lacks (nI s) M).2 = M1 at k3
  have E1 : EQ M1 1 M 1 := EQ_frame (fun j j1 j2 => k3 j (by omega))
  have x1 := DI_EQ E1 hx
  have s1 := ST_frame hS (M' := M1) (fun i i1 i2 i3 => k3 i (by omega))
  have q1 : M1 197 = M 197 := k3 197 (by omega)
  have p1 : fv_X5_papers (nI s) 0 M1 = M (1 + 1 + 1 + 2 * s) 5 := (v_pa0 x1.1.1.2.1 ha hs).trans (by rw [k3 _ (by omega)])
  have p2 : ok_X5_papers (nI s) 0 M1 := o_pa0 x1.1.1.2.1 ha hs
  have f5 : M1 (1 + 1 + 1 + 2 * s) 5 = M (1 + 1 + 1 + 2 * s) 5 := by rw [k3 _ (by omega)]
  have ed : (d - M (1 + 1 + 1 + 2 * s) 5).toInt = d.toInt - (M (1 + 1 + 1 + 2 * s) 5).toInt := pq_sub (by omega) (by omega)
  by_cases c1 : 0 < d - M (1 + 1 + 1 + 2 * s) 5
  · rw [if_pos c1] at k2
    have c1' : 0 < d.toInt - (M (1 + 1 + 1 + 2 * s) 5).toInt := by rw [pq_lt, ed, Int32.toInt_zero] at c1; exact c1
    obtain ⟨L, hL⟩ : ∃ L, d - M (1 + 1 + 1 + 2 * s) 5 = L := ⟨_, rfl⟩
    rw [hL] at k2 ed
    have l0 : (0 ≤ L) = True := eq_true (by rw [pq_le, Int32.toInt_zero]; omega)
    have l1 : (L = 0) = False := eq_false (fun z => by rw [z, Int32.toInt_zero] at ed; omega)
    have esum : M (1 + 1 + 1 + 2 * s) 5 + L = d := by rw [← hL]; grind
    by_cases c2 : M (1 + 1 + 1 + 2 * s) 5 + L ≤ (9999 : Int32)
    · have c2' : d.toInt ≤ 9999 := by rw [esum, pq_le] at c2; exact c2
      by_cases c3 : L = 1
      · -- one paper is wanting
        have t1 : ((1 : Int32)).toInt = 1 := by decide
        subst c3
        obtain ⟨Z1, Z2, Z3, p, r1, r2, r3, r4, r5, r6, r7, r8, r9, r10, r11⟩ := l_92a s1 x1 hs (fun N gv' hN hX => hd N gv' hN (hX.trans (XQ_EQ E1))) (by rw [f5, ← esum]) (by rw [f5]; rw [t1] at ed; omega)
        have x3 := DI_EQ (r10.trans E1) hx
        obtain ⟨w1, w2, w3⟩ := hd Z3 gv x3 (XQ_EQ (r10.trans E1))
        have z5 : Z3 (1 + 1 + 1 + 2 * s) 5 = M (1 + 1 + 1 + 2 * s) 5 := ((r10.trans E1).2.1 s (by omega)).1 5 (by omega) (by omega)
        rw [z5, if_pos c1, hL] at w2
        have p3 : fv_X5_papers (nI s) 0 Z3 = M (1 + 1 + 1 + 2 * s) 5 := (v_pa0 x3.1.1.2.1 ha hs).trans z5
        have p4 : ok_X5_papers (nI s) 0 Z3 := o_pa0 x3.1.1.2.1 ha hs
        have np : (nI p < 0) = False := eq_false (nI_pos (by omega))
        generalize hM4 : (fv_X5_lacks (nI s) Z3).2 = M4 at w3
        have e : fv_L_lacks x M = (1, M4) := by
          unfold fv_L_lacks
          simp only [v_count1, H1, ca, es, k2, l0, l1, hM1, p1, c2, if_true, if_false]
          unfold fv_L_lacks_92
          simp only [r3, esum, r5, r7, np, if_true, if_false]
          unfold fv_L_lacks_134
          simp only [p3, w2, hM4, if_true]
        have o : ok_L_lacks x M := by
          unfold ok_L_lacks
          simp only [v_count1, o_count1, H1, ca, es, os, k1, k2, l0, l1, hM1, p1, p2, c2, if_true, if_false, true_implies, false_implies, not_true_eq_false, not_false_eq_true, true_and, and_true, implies_true]
          unfold ok_L_lacks_92
          simp only [r3, r4, esum, r5, r6, r7, r8, np, if_true, if_false, true_implies, false_implies, not_true_eq_false, not_false_eq_true, true_and, and_true, implies_true]
          unfold ok_L_lacks_134
          simp only [p3, p4, w1, w2, if_true, true_implies, false_implies, not_true_eq_false, not_false_eq_true, true_and, and_true, implies_true]
        rw [e]
        have E4 : EQ M4 1 M 1 := (EQ_frame (fun j j1 j2 => w3 j (by omega))).trans (r10.trans E1)
        exact ⟨o, rfl, ⟨_, _, ST_frame r9 (fun i i1 i2 i3 => w3 i (by omega))⟩, DI_EQ E4 hx, (w3 197 (by omega)).trans (r11.trans q1)⟩
      · -- more papers are wanting: all but one, then one
        have c3' : (L = 1) = False := eq_false c3
        have hL1 : L.toInt ≠ 1 := fun z => c3 (by rw [pq_eq, z]; rfl)
        obtain ⟨m, hm⟩ : ∃ m : Nat, L.toInt = (m : Int) + 1 := ⟨(L.toInt - 1).toNat, by omega⟩
        have eL : L - 1 = nI m := by
          have : (L - 1).toInt = L.toInt - 1 := pq_sub (y := 1) (by show -2147483648 ≤ L.toInt - 1; omega) (by show L.toInt - 1 ≤ 2147483647; omega)
          rw [pq_eq, this, nI_toInt (by omega)]; omega
        obtain ⟨o2, M2, t1, t2, s2, x2, g2⟩ := x_supply1 s1 x1 hs (p := m) (by omega) (by omega) (by rw [f5]; omega)
        rw [f5] at t1 t2
        obtain ⟨-, rr, -⟩ := act_R s1 x1
        have hR : EQ (fv_X3_remember 1 M1) 1 M1 1 := EQ_frame (fun j j1 j2 => rr j (by omega))
        have X2 : XQ M2 1 M 1 s := by
          rw [t2]
          exact ((XQ_st (by omega) _).trans (XQ_EQ hR)).trans (XQ_EQ E1)
        obtain ⟨w1, w2, w3⟩ := hd M2 _ x2 X2
        have z5 : M2 (1 + 1 + 1 + 2 * s) 5 = M (1 + 1 + 1 + 2 * s) 5 + nI m := by rw [t2]; exact pq_stself
        have z6 : d - (M (1 + 1 + 1 + 2 * s) 5 + nI m) = 1 := by rw [← eL, ← esum]; grind
        rw [z5, z6, if_pos (by decide)] at w2
        generalize hM3 : (fv_X5_lacks (nI s) M2).2 = M3 at w3
        have E3 : EQ M3 1 M2 1 := EQ_frame (fun j j1 j2 => w3 j (by omega))
        have x3 := DI_EQ E3 x2
        have s3 := ST_frame s2 (M' := M3) (fun i i1 i2 i3 => w3 i (by omega))
        have y5 : M3 (1 + 1 + 1 + 2 * s) 5 = M (1 + 1 + 1 + 2 * s) 5 + nI m := by rw [w3 _ (by omega)]; exact z5
        have y6 : (M (1 + 1 + 1 + 2 * s) 5 + nI m).toInt = (M (1 + 1 + 1 + 2 * s) 5).toInt + (m : Int) := by
          have ep : (nI m).toInt = (m : Int) := nI_toInt (by omega)
          rw [pq_add (by omega) (by omega), ep]
        obtain ⟨Z1, Z2, Z3, p, r1, r2, r3, r4, r5, r6, r7, r8, r9, r10, r11⟩ := l_92a s3 x3 hs (fun N gv' hN hX => hd N gv' hN (hX.trans ((XQ_EQ E3).trans X2))) (by rw [y5, ← esum, ← eL]; grind) (by rw [y5, y6]; omega)
        obtain ⟨q, v1, v2, v3⟩ := h_top2 n H M1 M3 hS.1.1
        have hpq : p = q + 1 := by omega
        subst hpq
        obtain ⟨u1, u2, u3, u4, u5⟩ := st_undo r9
        rw [v3] at u4
        generalize hZ4 : (fv_X5_undo Z3).2 = Z4 at u3 u4 u5
        have E4 : EQ Z4 1 M 1 := u4.trans E1
        have x4 := DI_EQ E4 hx
        obtain ⟨a1, a2, a3⟩ := hd Z4 gv x4 (XQ_EQ E4)
        have z7 : Z4 (1 + 1 + 1 + 2 * s) 5 = M (1 + 1 + 1 + 2 * s) 5 := (E4.2.1 s (by omega)).1 5 (by omega) (by omega)
        rw [z7, if_pos c1, hL] at a2
        have p3 : fv_X5_papers (nI s) 0 Z4 = M (1 + 1 + 1 + 2 * s) 5 := (v_pa0 x4.1.1.2.1 ha hs).trans z7
        have p4 : ok_X5_papers (nI s) 0 Z4 := o_pa0 x4.1.1.2.1 ha hs
        have np : (nI (q + 1) < 0) = False := eq_false (nI_pos (by omega))
        have nq : (nI q < 0) = False := eq_false (nI_pos (by omega))
        generalize hM5 : (fv_X5_lacks (nI s) Z4).2 = M5 at a3
        have tm : M (1 + 1 + 1 + 2 * s) 5 + nI m = d - 1 := by rw [← esum, ← eL]; grind
        rw [tm] at t1
        have e : fv_L_lacks x M = (1, M5) := by
          unfold fv_L_lacks
          simp only [v_count1, H1, ca, es, k2, l0, l1, hM1, p1, c2, c3', eL, t1, if_true, if_false]
          unfold fv_L_lacks_73
          simp only [esum, w2, hM3, if_true]
          unfold fv_L_lacks_92
          simp only [r3, esum, r5, r7, np, c3', u2, nq, hZ4, if_true, if_false]
          unfold fv_L_lacks_134
          simp only [p3, a2, hM5, if_true]
        have o : ok_L_lacks x M := by
          unfold ok_L_lacks
          simp only [v_count1, o_count1, H1, ca, es, os, k1, k2, l0, l1, hM1, p1, p2, c2, c3', eL, t1, o2, if_true, if_false, true_implies, false_implies, not_true_eq_false, not_false_eq_true, true_and, and_true, implies_true]
          unfold ok_L_lacks_73
          simp only [esum, w1, w2, hM3, if_true, true_implies, false_implies, not_true_eq_false, not_false_eq_true, true_and, and_true, implies_true]
          unfold ok_L_lacks_92
          simp only [r3, r4, esum, r5, r6, r7, r8, np, c3', u1, u2, nq, hZ4, if_true, if_false, true_implies, false_implies, not_true_eq_false, not_false_eq_true, true_and, and_true, implies_true]
          unfold ok_L_lacks_134
          simp only [p3, p4, a1, a2, if_true, true_implies, false_implies, not_true_eq_false, not_false_eq_true, true_and, and_true, implies_true]
        rw [e]
        have E5 : EQ M5 1 M 1 := (EQ_frame (fun j j1 j2 => a3 j (by omega))).trans E4
        refine ⟨o, rfl, ⟨_, _, ST_frame u3 (fun i i1 i2 i3 => a3 i (by omega))⟩, DI_EQ E5 hx, ?_⟩
        show M5 197 = M 197
        rw [a3 197 (by omega), u5 197 (by omega) (by omega), r11, w3 197 (by omega), g2 197 (by omega), q1]
    · have c2' : (M (1 + 1 + 1 + 2 * s) 5 + L ≤ (9999 : Int32)) = False := eq_false c2
      have e : fv_L_lacks x M = (1, M1) := by
        unfold fv_L_lacks
        simp only [v_count1, H1, ca, es, k2, l0, l1, hM1, p1, c2', if_true, if_false]
      have o : ok_L_lacks x M := by
        unfold ok_L_lacks
        simp only [v_count1, o_count1, H1, ca, es, os, k1, k2, l0, l1, hM1, p1, p2, c2', if_true, if_false, true_implies, false_implies, not_true_eq_false, not_false_eq_true, true_and, and_true, implies_true]
      rw [e]
      exact ⟨o, rfl, ⟨_, _, s1⟩, x1, q1⟩
  · rw [if_neg c1] at k2
    have c00 : ((0 : Int32) ≤ 0) = True := by decide
    have e : fv_L_lacks x M = (1, M1) := by
      unfold fv_L_lacks
      simp only [v_count1, H1, ca, es, k2, c00, hM1, if_true, if_false]
    have o : ok_L_lacks x M := by
      unfold ok_L_lacks
      simp only [v_count1, o_count1, H1, ca, es, os, k1, k2, c00, hM1, p2, if_true, if_false, true_implies, false_implies, not_true_eq_false, not_false_eq_true, true_and, and_true, implies_true]
    rw [e]
    exact ⟨o, rfl, ⟨_, _, s1⟩, x1, q1⟩
end LACKS
