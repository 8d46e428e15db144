/-! ===== what holds of a day: a station (f its numbers, g its arrivals), a clerk ===== -/
theorem i_r1 (x y v : Int32) : (x - v) + (y + v) = x + y := by grind
theorem i_r2 (x y z v : Int32) (h : x = y + z) : x + v = y + v + z := by grind
/-- who came before the hour k -/
def cam (g : Nat → Int32) : Nat → Int
  | 0 => 0
  | t + 1 => (g t).toInt + cam g t
theorem cam_congr {g g' : Nat → Int32} : ∀ k : Nat, (∀ t, t < k → g' t = g t) → cam g' k = cam g k := by
  intro k
  induction k with
  | zero => intro _; rfl
  | succ k ih =>
    intro h
    show (g' k).toInt + cam g' k = (g k).toInt + cam g k
    rw [h k (by omega), ih (fun t ht => h t (by omega))]
theorem cam_bd {g : Nat → Int32} (hg : ∀ t, t < 15 → 0 ≤ (g t).toInt ∧ (g t).toInt ≤ 500) : ∀ k : Nat, k ≤ 15 → 0 ≤ cam g k ∧ cam g k ≤ 500 * (k : Int) := by
  intro k
  induction k with
  | zero => intro _; exact ⟨by show (0 : Int) ≤ 0; omega, by show (0 : Int) ≤ 500 * 0; omega⟩
  | succ k ih =>
    intro h
    have h1 := ih (by omega)
    have h2 := hg k (by omega)
    show 0 ≤ (g k).toInt + cam g k ∧ (g k).toInt + cam g k ≤ 500 * ((k + 1 : Nat) : Int)
    omega
/-- a station at the hour h, who was given gv papers in all -/
def SI (lq : Prop) (h : Nat) (gv : Int32) (f g : Nat → Int32) : Prop :=
  (∀ t, t < 15 → 0 ≤ (g t).toInt ∧ (g t).toInt ≤ 500) ∧
  ((f 1).toInt + (f 3).toInt = cam g (min h 15) ∧ 0 ≤ (f 1).toInt ∧ 0 ≤ (f 3).toInt) ∧ (lq → (f 1).toInt ≤ (f 2).toInt) ∧
  (0 ≤ (f 5).toInt ∧ (f 5).toInt ≤ 9999) ∧ f 6 = f 3 + f 7 ∧ f 5 + f 6 = gv ∧
  ((f 10).toInt + (f 8).toInt + (f 9).toInt = (f 3).toInt ∧ 0 ≤ (f 10).toInt ∧ 0 ≤ (f 8).toInt ∧ 0 ≤ (f 9).toInt) ∧
  (f 12 = 0 ∨ ((f 12 = 1 ∨ f 12 = 2 ∨ f 12 = 3) ∧ 0 ≤ (f 11).toInt ∧ (f 11).toInt ≤ 99999))
/-- a station that is not added yet -/
def FS (f g : Nat → Int32) : Prop := (∀ j, 1 ≤ j → j ≤ 12 → f j = 0) ∧ (∀ t, t < 15 → g t = 0)
/-- a clerk; e: how much the run is below its longest at least; w: the hours worked at most; q: the rest at most -/
def KI (a w : Nat) (e q : Int) (f : Nat → Int32) : Prop :=
  (1 ≤ (f 0).toInt ∧ (f 0).toInt ≤ 60) ∧ (1 ≤ (f 1).toInt ∧ (f 1).toInt ≤ 6) ∧
  ((f 2 = -5 ∧ f 3 = 0) ∨ (f 5 = 0 ∧ ∃ s, s < a ∧ f 2 = nI s)) ∧
  (0 ≤ (f 3).toInt ∧ (f 3).toInt + e ≤ (f 1).toInt ∧ (f 3).toInt ≤ (f 4).toInt) ∧ (f 4).toInt ≤ (w : Int) ∧ (0 ≤ (f 5).toInt ∧ (f 5).toInt ≤ q)
def FK (f : Nat → Int32) : Prop := f 0 = 0 ∧ f 1 = 0 ∧ f 2 = -5 ∧ f 3 = 0 ∧ f 4 = 0 ∧ f 5 = 0
def DY (M : ps_M) (d h a b : Nat) (S : Nat → (Nat → Int32) → (Nat → Int32) → Prop) (K : Nat → (Nat → Int32) → Prop) : Prop :=
  HD M d h a b ∧ (∀ s, s < 6 → S s (M (d + 1 + 1 + 2 * s)) (M (d + 1 + 1 + 2 * s + 1))) ∧ (∀ c, c < 12 → K c (M (d + 14 + 1 + c)))
def pS (lq : Prop) (h a : Nat) (gv : Nat → Int32) (s : Nat) (f g : Nat → Int32) : Prop := (s < a → SI lq h (gv s) f g) ∧ (¬ s < a → FS f g)
def pK (a b w : Nat) (e q : Int) (c : Nat) (f : Nat → Int32) : Prop := (c < b → KI a w e q f) ∧ (¬ c < b → FK f)
/-- a day between two calls -/
def DI (M : ps_M) (d h a b : Nat) (gv : Nat → Int32) : Prop := DY M d h a b (pS True h a gv) (pK a b h 0 1)
theorem SI_loc {lq : Prop} {h : Nat} {gv : Int32} {f g f' g' : Nat → Int32} (hf : ∀ j, 1 ≤ j → j ≤ 12 → f' j = f j) (hg : ∀ t, t < 15 → g' t = g t) (k : SI lq h gv f g) : SI lq h gv f' g' := by
  unfold SI at k ⊢
  rw [hf 1 (by omega) (by omega), hf 2 (by omega) (by omega), hf 3 (by omega) (by omega), hf 5 (by omega) (by omega), hf 6 (by omega) (by omega), hf 7 (by omega) (by omega), hf 8 (by omega) (by omega), hf 9 (by omega) (by omega), hf 10 (by omega) (by omega), hf 11 (by omega) (by omega), hf 12 (by omega) (by omega), cam_congr (g := g) (g' := g') (min h 15) (fun t ht => hg t (by omega))]
  exact ⟨fun t ht => by rw [hg t ht]; exact k.1 t ht, k.2⟩
theorem FS_loc {f g f' g' : Nat → Int32} (hf : ∀ j, 1 ≤ j → j ≤ 12 → f' j = f j) (hg : ∀ t, t < 15 → g' t = g t) (k : FS f g) : FS f' g' :=
  ⟨fun j h1 h2 => (hf j h1 h2).trans (k.1 j h1 h2), fun t ht => (hg t ht).trans (k.2 t ht)⟩
theorem KI_loc {a w : Nat} {e q : Int} {f f' : Nat → Int32} (hf : ∀ j, j < 6 → f' j = f j) (k : KI a w e q f) : KI a w e q f' := by
  unfold KI at k ⊢
  rw [hf 0 (by omega), hf 1 (by omega), hf 2 (by omega), hf 3 (by omega), hf 4 (by omega), hf 5 (by omega)]
  exact k
theorem FK_loc {f f' : Nat → Int32} (hf : ∀ j, j < 6 → f' j = f j) (k : FK f) : FK f' := by
  unfold FK at k ⊢
  rw [hf 0 (by omega), hf 1 (by omega), hf 2 (by omega), hf 3 (by omega), hf 4 (by omega), hf 5 (by omega)]
  exact k
theorem DI_EQ {M N : ps_M} {d e h a b : Nat} {gv : Nat → Int32} (hE : EQ N e M d) (hx : DI M d h a b gv) : DI N e h a b gv :=
  ⟨HD_EQ hE.symm hx.1, fun s hs => ⟨fun q => SI_loc (hE.2.1 s hs).1 (hE.2.1 s hs).2 ((hx.2.1 s hs).1 q), fun q => FS_loc (hE.2.1 s hs).1 (hE.2.1 s hs).2 ((hx.2.1 s hs).2 q)⟩, fun c hc => ⟨fun q => KI_loc (hE.2.2 c hc) ((hx.2.2 c hc).1 q), fun q => FK_loc (hE.2.2 c hc) ((hx.2.2 c hc).2 q)⟩⟩
theorem DI_gv {M : ps_M} {d h a b : Nat} {gv gv' : Nat → Int32} (hg : ∀ s, s < a → gv' s = gv s) (hx : DI M d h a b gv) : DI M d h a b gv' :=
  ⟨hx.1, fun s hs => ⟨fun q => by rw [hg s q]; exact (hx.2.1 s hs).1 q, (hx.2.1 s hs).2⟩, hx.2.2⟩
/-- one station changes -/
theorem DY_st {M M' : ps_M} {d h a b : Nat} {S S' : Nat → (Nat → Int32) → (Nat → Int32) → Prop} {K : Nat → (Nat → Int32) → Prop} (hx : DY M d h a b S K) {s : Nat} (hs : s < 6) (hM : ∀ k, k ≠ d + 1 + 1 + 2 * s → k ≠ d + 1 + 1 + 2 * s + 1 → M' k = M k) (hS : ∀ s', s' ≠ s → s' < 6 → ∀ f g, S s' f g → S' s' f g) (hn : S' s (M' (d + 1 + 1 + 2 * s)) (M' (d + 1 + 1 + 2 * s + 1))) : DY M' d h a b S' K := by
  obtain ⟨h1, h4, h5⟩ := hx
  refine ⟨by unfold HD; rw [hM d (by omega) (by omega)]; exact h1, fun s' hs' => ?_, fun c hc => ?_⟩
  · by_cases e : s' = s
    · subst e; exact hn
    · rw [hM _ (by omega) (by omega), hM _ (by omega) (by omega)]
      exact hS s' e hs' _ _ (h4 s' hs')
  · rw [hM _ (by omega) (by omega)]
    exact h5 c hc
/-- one clerk changes -/
theorem DY_ck {M M' : ps_M} {d h a b : Nat} {S : Nat → (Nat → Int32) → (Nat → Int32) → Prop} {K K' : Nat → (Nat → Int32) → Prop} (hx : DY M d h a b S K) {c : Nat} (hc : c < 12) (hM : ∀ k, k ≠ d + 14 + 1 + c → M' k = M k) (hK : ∀ c', c' ≠ c → c' < 12 → ∀ f, K c' f → K' c' f) (hn : K' c (M' (d + 14 + 1 + c))) : DY M' d h a b S K' := by
  obtain ⟨h1, h4, h5⟩ := hx
  refine ⟨by unfold HD; rw [hM d (by omega)]; exact h1, fun s hs => ?_, fun c' hc' => ?_⟩
  · rw [hM _ (by omega), hM _ (by omega)]
    exact h4 s hs
  · by_cases e : c' = c
    · subst e; exact hn
    · rw [hM _ (by omega)]
      exact hK c' e hc' _ (h5 c' hc')
/-- the day's own numbers change -/
theorem DY_hd {M M' : ps_M} {d h a b h' a' b' : Nat} {S S' : Nat → (Nat → Int32) → (Nat → Int32) → Prop} {K K' : Nat → (Nat → Int32) → Prop} (hx : DY M d h a b S K) (h1 : HD M' d h' a' b') (hM : ∀ k, k ≠ d → M' k = M k) (hS : ∀ s, s < 6 → ∀ f g, S s f g → S' s f g) (hK : ∀ c, c < 12 → ∀ f, K c f → K' c f) : DY M' d h' a' b' S' K' := by
  refine ⟨h1, fun s hs => ?_, fun c hc => ?_⟩
  · rw [hM _ (by omega), hM _ (by omega)]
    exact hS s hs _ _ (hx.2.1 s hs)
  · rw [hM _ (by omega)]
    exact hK c hc _ (hx.2.2 c hc)
theorem DY_mono {M : ps_M} {d h a b : Nat} {S S' : Nat → (Nat → Int32) → (Nat → Int32) → Prop} {K K' : Nat → (Nat → Int32) → Prop} (hx : DY M d h a b S K) (hS : ∀ s, s < 6 → ∀ f g, S s f g → S' s f g) (hK : ∀ c, c < 12 → ∀ f, K c f → K' c f) : DY M d h a b S' K' :=
  ⟨hx.1, fun s hs => hS s hs _ _ (hx.2.1 s hs), fun c hc => hK c hc _ (hx.2.2 c hc)⟩
/-- what an hour's arrivals do to a station -/
theorem SI_arrive {h : Nat} {gv : Int32} {f g : Nat → Int32} (hh : h < 15) (k : SI True h gv f g) : SI False (h + 1) gv (upd f 1 (f 1 + g h)) g := by
  obtain ⟨k1, ⟨k2, k3, k4⟩, k5, k6, k7, k8, k9, k10⟩ := k
  have b1 := cam_bd k1 (min h 15) (by omega)
  have b2 := k1 h hh
  have e1 : min h 15 = h := by omega
  have e2 : min (h + 1) 15 = h + 1 := by omega
  rw [e1] at k2 b1
  have eq : (f 1 + g h).toInt = (f 1).toInt + (g h).toInt := pq_add (by omega) (by omega)
  have cs : cam g (h + 1) = (g h).toInt + cam g h := rfl
  refine ⟨k1, ?_, fun q => q.elim, k6, k7, k8, k9, k10⟩
  show (f 1 + g h).toInt + (f 3).toInt = cam g (min (h + 1) 15) ∧ 0 ≤ (f 1 + g h).toInt ∧ 0 ≤ (f 3).toInt
  rw [e2, cs, eq]
  omega
theorem SI_later {h : Nat} {gv : Int32} {f g : Nat → Int32} (hh : 15 ≤ h) (k : SI True h gv f g) : SI False (h + 1) gv f g := by
  obtain ⟨k1, k2, k5, k6⟩ := k
  rw [show min h 15 = min (h + 1) 15 by omega] at k2
  exact ⟨k1, k2, fun q => q.elim, k6⟩
/-! a queue is served -/
def sF (v : Int32) (f : Nat → Int32) : Nat → Int32 := upd (upd (upd (upd (upd (upd (upd f 1 (f 1 - v)) 5 (f 5 - v)) 3 (f 3 + v)) 6 (f 6 + v)) 10 (f 10 + v)) 4 (f 4 + (f 1 - v))) 2 (if f 2 < f 1 - v then f 1 - v else f 2)
def sVf (f : Nat → Int32) (x : Int32) : Int32 := if (if f 5 < x then f 5 else x) < f 1 then (if f 5 < x then f 5 else x) else f 1
theorem cl_serve (k : Nat) (x : Int32) (M : ps_M) : (fv_X4_serveQueue k x M).1 = sVf (M k) x ∧ (∀ i, i ≠ k → (fv_X4_serveQueue k x M).2 i = M i) ∧ (fv_X4_serveQueue k x M).2 k = sF (sVf (M k) x) (M k) ∧ ok_X4_serveQueue k x M := by
  refine ⟨rfl, fun i hi => ?_, ?_, trivial⟩
  · unfold fv_X4_serveQueue fv_X4_serveQueue_26 fv_X4_serveQueue_56 fv_X4_serveQueue_94
    simp only [ps_st_ne hi]
  · unfold fv_X4_serveQueue fv_X4_serveQueue_26 fv_X4_serveQueue_56 fv_X4_serveQueue_94
    rw [show (if (if M k 5 < x then M k 5 else x) < M k 1 then (if M k 5 < x then M k 5 else x) else M k 1) = sVf (M k) x from rfl]
    unfold sF
    simp (config := {decide := true}) only [ps_st_self, upd, if_true, if_false]
def eF (f : Nat → Int32) : Nat → Int32 := if f 5 ≤ 0 then (if f 2 = -5 then f else upd (upd f 4 (f 4 + 1)) 3 (f 3 + 1)) else upd (if f 2 = -5 then f else upd (upd f 4 (f 4 + 1)) 3 (f 3 + 1)) 5 (f 5 - 1)
theorem cl_end27 (k : Nat) (M : ps_M) : (∀ i, i ≠ k → fv_X1_endHour_27 k M i = M i) ∧ fv_X1_endHour_27 k M k = (if M k 5 ≤ 0 then M k else upd (M k) 5 (M k 5 - 1)) ∧ ok_X1_endHour_27 k M := by
  unfold fv_X1_endHour_27 fv_X1_rests ok_X1_endHour_27
  by_cases q : M k 5 ≤ 0
  · rw [if_pos q, if_pos rfl, if_pos q]
    exact ⟨fun _ _ => rfl, rfl, trivial, trivial⟩
  · rw [if_neg q, if_neg (by decide), if_neg q]
    exact ⟨fun i hi => ps_st_ne hi, ps_st_self, trivial, trivial⟩
theorem cl_end (k : Nat) (M : ps_M) : (∀ i, i ≠ k → fv_X1_endHour k M i = M i) ∧ fv_X1_endHour k M k = eF (M k) ∧ ok_X1_endHour k M := by
  unfold fv_X1_endHour fv_X1_isOnDuty ok_X1_endHour eF
  by_cases q : M k 2 = -5
  · rw [if_pos q, if_pos rfl, if_pos q]
    obtain ⟨h1, h2, h3⟩ := cl_end27 k M
    exact ⟨h1, h2, trivial, fun _ => h3, fun z => absurd (by unfold fv_X1_isOnDuty; rw [if_pos q]) z⟩
  · rw [if_neg q, if_neg (by decide), if_neg q]
    obtain ⟨h1, h2, h3⟩ := cl_end27 k (ps_st (ps_st M k 4 (M k 4 + 1)) k 3 ((ps_st M k 4 (M k 4 + 1)) k 3 + 1))
    refine ⟨fun i hi => (h1 i hi).trans ((ps_st_ne hi).trans (ps_st_ne hi)), ?_, trivial, fun z => absurd z (by unfold fv_X1_isOnDuty; rw [if_neg q]; decide), fun _ => h3⟩
    have e3 : (ps_st M k 4 (M k 4 + 1)) k 3 = M k 3 := pq_stne (Or.inr (by omega))
    have ek : (ps_st (ps_st M k 4 (M k 4 + 1)) k 3 (M k 3 + 1)) k = upd (upd (M k) 4 (M k 4 + 1)) 3 (M k 3 + 1) := by rw [ps_st_self, ps_st_self]
    have e5 : upd (upd (M k) 4 (M k 4 + 1)) 3 (M k 3 + 1) 5 = M k 5 := by rw [upd, if_neg (by omega), upd, if_neg (by omega)]
    rw [e3, ek, e5] at h2
    rw [e3]
    exact h2
/-- what service does to a station -/
theorem sV_bd {f : Nat → Int32} {x : Int32} (h1 : 0 ≤ (f 1).toInt) (h5 : 0 ≤ (f 5).toInt) (hx : 0 ≤ x.toInt) : 0 ≤ (sVf f x).toInt ∧ (sVf f x).toInt ≤ (f 1).toInt ∧ (sVf f x).toInt ≤ (f 5).toInt := by
  unfold sVf
  by_cases q1 : f 5 < x
  · rw [if_pos q1]
    by_cases q2 : f 5 < f 1
    · rw [if_pos q2]; rw [pq_lt] at q1 q2; omega
    · rw [if_neg q2]; rw [pq_lt] at q1 q2; omega
  · rw [if_neg q1]
    by_cases q2 : x < f 1
    · rw [if_pos q2]; rw [pq_lt] at q1 q2; omega
    · rw [if_neg q2]; rw [pq_lt] at q1 q2; omega
theorem SI_serve {h : Nat} {gv : Int32} {f g : Nat → Int32} (k : SI False h gv f g) {x : Int32} (hx : 0 ≤ x.toInt) : SI True h gv (sF (sVf f x) f) g := by
  obtain ⟨k1, ⟨k2, k3, k4⟩, -, ⟨k5, k6⟩, k7, k8, ⟨k9, k10, k11, k12⟩, k13⟩ := k
  have b1 := cam_bd k1 (min h 15) (by omega)
  obtain ⟨v1, v2, v3⟩ := sV_bd k3 k5 hx
  generalize sVf f x = v at v1 v2 v3
  have e1 : (f 1 - v).toInt = (f 1).toInt - v.toInt := pq_sub (by omega) (by omega)
  have e5 : (f 5 - v).toInt = (f 5).toInt - v.toInt := pq_sub (by omega) (by omega)
  have e3 : (f 3 + v).toInt = (f 3).toInt + v.toInt := pq_add (by omega) (by omega)
  have e10 : (f 10 + v).toInt = (f 10).toInt + v.toInt := pq_add (by omega) (by omega)
  have r1 : sF v f 1 = f 1 - v := rfl
  have r2 : sF v f 2 = if f 2 < f 1 - v then f 1 - v else f 2 := rfl
  have r3 : sF v f 3 = f 3 + v := rfl
  have r5 : sF v f 5 = f 5 - v := rfl
  have r6 : sF v f 6 = f 6 + v := rfl
  have r7 : sF v f 7 = f 7 := rfl
  have r8 : sF v f 8 = f 8 := rfl
  have r9 : sF v f 9 = f 9 := rfl
  have r10 : sF v f 10 = f 10 + v := rfl
  have r11 : sF v f 11 = f 11 := rfl
  have r12 : sF v f 12 = f 12 := rfl
  unfold SI
  rw [r1, r2, r3, r5, r6, r7, r8, r9, r10, r11, r12, e1, e3, e5, e10]
  refine ⟨k1, by omega, fun _ => ?_, by omega, i_r2 _ _ _ _ k7, (i_r1 _ _ _).trans k8, by omega, k13⟩
  by_cases q : f 2 < f 1 - v
  · rw [if_pos q, e1]; omega
  · rw [if_neg q]; rw [pq_lt, e1] at q; omega
/-- what the end of an hour does to a clerk -/
theorem KI_end {a w : Nat} {f : Nat → Int32} (ha : a ≤ 6) (hw : w ≤ 18) (k : KI a w 1 2 f) : KI a (w + 1) 0 1 (eF f) := by
  obtain ⟨k1, k2, k3, ⟨k4, k5, k6⟩, k7, k8, k9⟩ := k
  have e4 : (f 4 + 1).toInt = (f 4).toInt + 1 := pq_add (y := 1) (by show -2147483648 ≤ (f 4).toInt + 1; omega) (by show (f 4).toInt + 1 ≤ 2147483647; omega)
  have e3 : (f 3 + 1).toInt = (f 3).toInt + 1 := pq_add (y := 1) (by show -2147483648 ≤ (f 3).toInt + 1; omega) (by show (f 3).toInt + 1 ≤ 2147483647; omega)
  have e5 : (f 5 - 1).toInt = (f 5).toInt - 1 := pq_sub (y := 1) (by show -2147483648 ≤ (f 5).toInt - 1; omega) (by show (f 5).toInt - 1 ≤ 2147483647; omega)
  unfold eF
  rcases k3 with ⟨g1, g2⟩ | ⟨g1, s, g2, g3⟩
  · rw [if_pos g1]
    by_cases q : f 5 ≤ 0
    · rw [if_pos q]
      have q' := pq_le.mp q
      rw [Int32.toInt_zero] at q'
      exact ⟨k1, k2, Or.inl ⟨g1, g2⟩, ⟨k4, by omega, k6⟩, by omega, by omega, by omega⟩
    · rw [if_neg q]
      have q' : ¬ (f 5).toInt ≤ 0 := fun z => q (pq_le.mpr (by rw [Int32.toInt_zero]; exact z))
      refine ⟨k1, k2, Or.inl ⟨g1, g2⟩, ⟨k4, ?_, k6⟩, ?_, ?_⟩
      · show (f 3).toInt + 0 ≤ (f 1).toInt; omega
      · show (f 4).toInt ≤ ((w + 1 : Nat) : Int); omega
      · show 0 ≤ (f 5 - 1).toInt ∧ (f 5 - 1).toInt ≤ 1; omega
  · have hne : ¬ f 2 = -5 := by rw [g3]; exact fun q => pq_ne5 (by omega) q.symm
    rw [if_neg hne, if_pos (by rw [g1]; decide)]
    refine ⟨k1, k2, Or.inr ⟨g1, s, g2, g3⟩, ?_, ?_, ?_⟩
    · show 0 ≤ (f 3 + 1).toInt ∧ (f 3 + 1).toInt + 0 ≤ (f 1).toInt ∧ (f 3 + 1).toInt ≤ (f 4 + 1).toInt
      omega
    · show (f 4 + 1).toInt ≤ ((w + 1 : Nat) : Int); omega
    · show 0 ≤ (f 5).toInt ∧ (f 5).toInt ≤ 1
      rw [g1]; decide
/-- who rested between two hours is free behind an hour -/
theorem eF_rest {f : Nat → Int32} (h2 : f 2 = -5) (h5 : f 5 = 1) : eF f 5 = 0 := by
  unfold eF
  rw [if_neg (by rw [h5]; decide), if_pos h2, upd, if_pos rfl, h5]
  decide
