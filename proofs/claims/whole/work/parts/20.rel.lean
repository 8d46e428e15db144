/-! ===== PURE: the two memories. Ints ===== -/
theorem pq_add {x y : Int32} (h1 : -2147483648 ≤ x.toInt + y.toInt) (h2 : x.toInt + y.toInt ≤ 2147483647) : (x + y).toInt = x.toInt + y.toInt := by
  rw [Int32.toInt_add]; exact Int.bmod_eq_of_le (by omega) (by omega)
theorem pq_sub {x y : Int32} (h1 : -2147483648 ≤ x.toInt - y.toInt) (h2 : x.toInt - y.toInt ≤ 2147483647) : (x - y).toInt = x.toInt - y.toInt := by
  rw [Int32.toInt_sub]; exact Int.bmod_eq_of_le (by omega) (by omega)
theorem pq_le {x y : Int32} : x ≤ y ↔ x.toInt ≤ y.toInt := Int32.le_iff_toInt_le
theorem pq_lt {x y : Int32} : x < y ↔ x.toInt < y.toInt := Int32.lt_iff_toInt_lt
theorem pq_eq {x y : Int32} : x = y ↔ x.toInt = y.toInt := Int32.toInt_inj.symm
theorem pq_c0 : ((0 : Int32)).toNatClampNeg = 0 := rfl
theorem pq_c1 : ((1 : Int32)).toNatClampNeg = 1 := rfl
theorem pq_c2 : ((2 : Int32)).toNatClampNeg = 2 := rfl
theorem pq_10 : ((1 : Int32) = 0) = False := by decide
theorem pq_nI {n : Nat} (h : n < 4000) : (nI n).toNatClampNeg = n := nI_clamp (by omega)
theorem pq_nT {n : Nat} (h : n < 4000) : (nI n).toInt = (n : Int) := nI_toInt (by omega)
theorem pq_vin {n m : Nat} (h : n < m) (hm : m < 4000) : vp_in (nI n) m := vp_in_nI h (by omega)
/-! the reference's row of a day: a station's 27 numbers, a clerk's six -/
def pq_sv (q : Nat → Int32) (s j : Nat) : Int32 := if j < 27 then q (3 + 27 * s + j) else 0
def pq_kv (q : Nat → Int32) (c j : Nat) : Int32 := if j < 6 then q (165 + 6 * c + j) else 0
theorem pq_ixS (s j : Nat) : ((3 : Int32) + (27 : Int32) * nI s) + nI j = nI (3 + 27 * s + j) := by
  rw [show (27 : Int32) = nI 27 from rfl, show (3 : Int32) = nI 3 from rfl, pk_mul, nI_add, nI_add]
theorem pq_ixK (c j : Nat) : ((165 : Int32) + (6 : Int32) * nI c) + nI j = nI (165 + 6 * c + j) := by
  rw [show (6 : Int32) = nI 6 from rfl, show (165 : Int32) = nI 165 from rfl, pk_mul, nI_add, nI_add]
theorem pq_of {s j : Nat} (hs : s < 6) (hj : j < 27) (N : ps_M) : fv_X6_of (nI s) (nI j) N = pq_sv (N 1) s j := by
  unfold fv_X6_of pq_sv
  rw [pq_ixS, pq_nI (by omega), if_pos hj]
theorem pq_ofok {s j : Nat} (hs : s < 6) (hj : j < 27) (N : ps_M) : ok_X6_of (nI s) (nI j) N := by
  unfold ok_X6_of
  rw [pq_ixS]
  exact ⟨pq_vin (by omega) (by omega), trivial⟩
theorem pq_adds {s j : Nat} (hs : s < 6) (hj : j < 27) (v : Int32) (N : ps_M) : fv_X6_adds (nI s) (nI j) v N = ps_st N 1 (3 + 27 * s + j) (pq_sv (N 1) s j + v) := by
  unfold fv_X6_adds pq_sv
  rw [pq_ixS, pq_nI (by omega), if_pos hj]
theorem pq_addsok {s j : Nat} (hs : s < 6) (hj : j < 27) (v : Int32) (N : ps_M) : ok_X6_adds (nI s) (nI j) v N := by
  unfold ok_X6_adds
  rw [pq_ixS]
  exact ⟨pq_vin (by omega) (by omega), pq_vin (by omega) (by omega), trivial⟩
theorem pq_ofK {c j : Nat} (hc : c < 12) (hj : j < 6) (N : ps_M) : fv_X6_ofClerk (nI c) (nI j) N = pq_kv (N 1) c j := by
  unfold fv_X6_ofClerk pq_kv
  rw [pq_ixK, pq_nI (by omega), if_pos hj]
theorem pq_ofKok {c j : Nat} (hc : c < 12) (hj : j < 6) (N : ps_M) : ok_X6_ofClerk (nI c) (nI j) N := by
  unfold ok_X6_ofClerk
  rw [pq_ixK]
  exact ⟨pq_vin (by omega) (by omega), trivial⟩
theorem pq_lays {c j : Nat} (hc : c < 12) (hj : j < 6) (v : Int32) (N : ps_M) : fv_X6_laysClerk (nI c) (nI j) v N = ps_st N 1 (165 + 6 * c + j) v := by
  unfold fv_X6_laysClerk
  rw [pq_ixK, pq_nI (by omega)]
theorem pq_laysok {c j : Nat} (hc : c < 12) (hj : j < 6) (v : Int32) (N : ps_M) : ok_X6_laysClerk (nI c) (nI j) v N := by
  unfold ok_X6_laysClerk
  rw [pq_ixK]
  exact ⟨pq_vin (by omega) (by omega), trivial⟩
/-! reading behind a store -/
theorem pq_stne {M : ps_M} {k i k' i' : Nat} {v : Int32} (h : k' ≠ k ∨ i' ≠ i) : ps_st M k i v k' i' = M k' i' := by
  unfold ps_st
  by_cases h1 : i' = i
  · rw [if_pos h1]
    rw [if_neg (by rcases h with h | h; exact h; exact absurd h1 h)]
  · rw [if_neg h1]
theorem pq_stself {M : ps_M} {k i : Nat} {v : Int32} : ps_st M k i v k i = v := by
  unfold ps_st; rw [if_pos rfl, if_pos rfl]
theorem pq_svset {M : ps_M} {s j s' j' : Nat} {v : Int32} (hj : j < 27) : pq_sv (ps_st M 1 (3 + 27 * s + j) v 1) s' j' = if s' = s ∧ j' = j then v else pq_sv (M 1) s' j' := by
  unfold pq_sv
  by_cases h : j' < 27
  · rw [if_pos h, if_pos h]
    by_cases h2 : s' = s ∧ j' = j
    · rw [if_pos h2, h2.1, h2.2, pq_stself]
    · rw [if_neg h2, pq_stne (Or.inr (by omega))]
  · rw [if_neg h, if_neg h, if_neg (by omega)]
theorem pq_kvset {M : ps_M} {c j c' j' : Nat} {v : Int32} (hj : j < 6) : pq_kv (ps_st M 1 (165 + 6 * c + j) v 1) c' j' = if c' = c ∧ j' = j then v else pq_kv (M 1) c' j' := by
  unfold pq_kv
  by_cases h : j' < 6
  · rw [if_pos h, if_pos h]
    by_cases h2 : c' = c ∧ j' = j
    · rw [if_pos h2, h2.1, h2.2, pq_stself]
    · rw [if_neg h2, pq_stne (Or.inr (by omega))]
  · rw [if_neg h, if_neg h, if_neg (by omega)]
/-! ===== a day of the class (its cells from d on) and a row of the reference, station by station, clerk by clerk ===== -/
def DX (M : ps_M) (d : Nat) (q : Nat → Int32) (h a b : Nat) (S : Nat → (Nat → Int32) → (Nat → Int32) → (Nat → Int32) → Prop) (K : Nat → (Nat → Int32) → (Nat → Int32) → Prop) : Prop :=
  (M d 0 = nI h ∧ M d 1 = nI a ∧ M d 2 = nI b) ∧ (q 0 = nI h ∧ q 1 = nI a ∧ q 2 = nI b) ∧ (h ≤ 18 ∧ a ≤ 6 ∧ b ≤ 12) ∧ (∀ s, s < 6 → S s (M (d + 1 + 1 + 2 * s)) (M (d + 1 + 1 + 2 * s + 1)) (pq_sv q s)) ∧ (∀ c, c < 12 → K c (M (d + 14 + 1 + c)) (pq_kv q c))
theorem DX_mono {M : ps_M} {d : Nat} {q : Nat → Int32} {h a b : Nat} {S S' : Nat → (Nat → Int32) → (Nat → Int32) → (Nat → Int32) → Prop} {K K' : Nat → (Nat → Int32) → (Nat → Int32) → Prop} (hx : DX M d q h a b S K) (hS : ∀ s, s < 6 → ∀ f g r, S s f g r → S' s f g r) (hK : ∀ c, c < 12 → ∀ f r, K c f r → K' c f r) : DX M d q h a b S' K' :=
  ⟨hx.1, hx.2.1, hx.2.2.1, fun s hs => hS s hs _ _ _ (hx.2.2.2.1 s hs), fun c hc => hK c hc _ _ (hx.2.2.2.2 c hc)⟩
theorem pq_sv_congr {q q' : Nat → Int32} {s : Nat} (h : ∀ i, 3 + 27 * s ≤ i → i < 3 + 27 * s + 27 → q' i = q i) : pq_sv q' s = pq_sv q s := by
  funext j
  unfold pq_sv
  by_cases hj : j < 27
  · rw [if_pos hj, if_pos hj, h _ (by omega) (by omega)]
  · rw [if_neg hj, if_neg hj]
theorem pq_kv_congr {q q' : Nat → Int32} {c : Nat} (h : ∀ i, 165 + 6 * c ≤ i → i < 165 + 6 * c + 6 → q' i = q i) : pq_kv q' c = pq_kv q c := by
  funext j
  unfold pq_kv
  by_cases hj : j < 6
  · rw [if_pos hj, if_pos hj, h _ (by omega) (by omega)]
  · rw [if_neg hj, if_neg hj]
/-- other cells, other rows may change -/
theorem DX_frame {M M' : ps_M} {d : Nat} {q q' : Nat → Int32} {h a b : Nat} {S : Nat → (Nat → Int32) → (Nat → Int32) → (Nat → Int32) → Prop} {K : Nat → (Nat → Int32) → (Nat → Int32) → Prop} (hx : DX M d q h a b S K) (hM : ∀ k, d ≤ k → k < d + 27 → M' k = M k) (hq : ∀ i, i < 237 → q' i = q i) : DX M' d q' h a b S K := by
  obtain ⟨h1, h2, h3, h4, h5⟩ := hx
  refine ⟨by rw [hM d (by omega) (by omega)]; exact h1, by rw [hq 0 (by omega), hq 1 (by omega), hq 2 (by omega)]; exact h2, h3, fun s hs => ?_, fun c hc => ?_⟩
  · rw [hM _ (by omega) (by omega), hM _ (by omega) (by omega), pq_sv_congr (q := q) (fun i _ hi => hq i (by omega))]
    exact h4 s hs
  · rw [hM _ (by omega) (by omega), pq_kv_congr (q := q) (fun i _ hi => hq i (by omega))]
    exact h5 c hc
/-- one station changes -/
theorem DX_st {M M' : ps_M} {d : Nat} {q q' : Nat → Int32} {h a b : Nat} {S S' : Nat → (Nat → Int32) → (Nat → Int32) → (Nat → Int32) → Prop} {K : Nat → (Nat → Int32) → (Nat → Int32) → Prop} (hx : DX M d q h a b S K) {s : Nat} (hs : s < 6) (hM : ∀ k, k ≠ d + 1 + 1 + 2 * s → k ≠ d + 1 + 1 + 2 * s + 1 → M' k = M k) (hq : ∀ i, (i < 3 + 27 * s ∨ 3 + 27 * s + 27 ≤ i) → q' i = q i) (hS : ∀ s', s' ≠ s → s' < 6 → ∀ f g r, S s' f g r → S' s' f g r) (hn : S' s (M' (d + 1 + 1 + 2 * s)) (M' (d + 1 + 1 + 2 * s + 1)) (pq_sv q' s)) : DX M' d q' h a b S' K := by
  obtain ⟨h1, h2, h3, h4, h5⟩ := hx
  refine ⟨by rw [hM d (by omega) (by omega)]; exact h1, by rw [hq 0 (by omega), hq 1 (by omega), hq 2 (by omega)]; exact h2, h3, fun s' hs' => ?_, fun c hc => ?_⟩
  · by_cases e : s' = s
    · subst e; exact hn
    · rw [hM _ (by omega) (by omega), hM _ (by omega) (by omega), pq_sv_congr (q := q) (fun i g1 g2 => hq i (by omega))]
      exact hS s' e hs' _ _ _ (h4 s' hs')
  · rw [hM _ (by omega) (by omega), pq_kv_congr (q := q) (fun i g1 g2 => hq i (by omega))]
    exact h5 c hc
/-- one clerk changes -/
theorem DX_ck {M M' : ps_M} {d : Nat} {q q' : Nat → Int32} {h a b : Nat} {S : Nat → (Nat → Int32) → (Nat → Int32) → (Nat → Int32) → Prop} {K K' : Nat → (Nat → Int32) → (Nat → Int32) → Prop} (hx : DX M d q h a b S K) {c : Nat} (hc : c < 12) (hM : ∀ k, k ≠ d + 14 + 1 + c → M' k = M k) (hq : ∀ i, (i < 165 + 6 * c ∨ 165 + 6 * c + 6 ≤ i) → q' i = q i) (hK : ∀ c', c' ≠ c → c' < 12 → ∀ f r, K c' f r → K' c' f r) (hn : K' c (M' (d + 14 + 1 + c)) (pq_kv q' c)) : DX M' d q' h a b S K' := by
  obtain ⟨h1, h2, h3, h4, h5⟩ := hx
  refine ⟨by rw [hM d (by omega)]; exact h1, by rw [hq 0 (by omega), hq 1 (by omega), hq 2 (by omega)]; exact h2, h3, fun s hs => ?_, fun c' hc' => ?_⟩
  · rw [hM _ (by omega), hM _ (by omega), pq_sv_congr (q := q) (fun i g1 g2 => hq i (by omega))]
    exact h4 s hs
  · by_cases e : c' = c
    · subst e; exact hn
    · rw [hM _ (by omega), pq_kv_congr (q := q) (fun i g1 g2 => hq i (by omega))]
      exact hK c' e hc' _ _ (h5 c' hc')
/-- the day's own numbers change -/
theorem DX_hd {M M' : ps_M} {d : Nat} {q q' : Nat → Int32} {h a b h' a' b' : Nat} {S S' : Nat → (Nat → Int32) → (Nat → Int32) → (Nat → Int32) → Prop} {K K' : Nat → (Nat → Int32) → (Nat → Int32) → Prop} (hx : DX M d q h a b S K) (h1 : M' d 0 = nI h' ∧ M' d 1 = nI a' ∧ M' d 2 = nI b') (h2 : q' 0 = nI h' ∧ q' 1 = nI a' ∧ q' 2 = nI b') (h3 : h' ≤ 18 ∧ a' ≤ 6 ∧ b' ≤ 12) (hM : ∀ k, k ≠ d → M' k = M k) (hq : ∀ i, 3 ≤ i → q' i = q i) (hS : ∀ s, s < 6 → ∀ f g r, S s f g r → S' s f g r) (hK : ∀ c, c < 12 → ∀ f r, K c f r → K' c f r) : DX M' d q' h' a' b' S' K' := by
  refine ⟨h1, h2, h3, fun s hs => ?_, fun c hc => ?_⟩
  · rw [hM _ (by omega), hM _ (by omega), pq_sv_congr (q := q) (fun i g1 g2 => hq i (by omega))]
    exact hS s hs _ _ _ (hx.2.2.2.1 s hs)
  · rw [hM _ (by omega), pq_kv_congr (q := q) (fun i g1 g2 => hq i (by omega))]
    exact hK c hc _ _ (hx.2.2.2.2 c hc)
/-- what is told to come from the hour 15 - k on -/
def pq_sf (r : Nat → Int32) : Nat → Int
  | 0 => 0
  | k + 1 => (r (12 + (14 - k))).toInt + pq_sf r k
/-- a station: P: its stocks are the same (else both are enough); B bounds its queue; k: arrivals from the hour 15 - k on are to come -/
def pq_S (P : Prop) (B : Int) (k : Nat) (added : Prop) (f g r : Nat → Int32) : Prop :=
  (f 1 = r 0 ∧ f 2 = r 1 ∧ f 3 = r 2 ∧ f 4 = r 3 ∧ f 6 = r 5 ∧ f 7 = r 6 ∧ f 8 = r 7 ∧ f 9 = r 8 ∧ f 10 = r 9 ∧ f 12 = r 11) ∧
  (∀ t, t < 15 → g t = r (12 + t) ∧ 0 ≤ (r (12 + t)).toInt ∧ (r (12 + t)).toInt ≤ 500) ∧ (0 ≤ (r 0).toInt ∧ (r 0).toInt ≤ B) ∧
  ((P → f 5 = r 4 ∧ 0 ≤ (r 4).toInt ∧ (r 4).toInt ≤ 9999) ∧ (¬ P → (r 0).toInt + pq_sf r k ≤ (f 5).toInt ∧ (r 0).toInt + pq_sf r k ≤ (r 4).toInt)) ∧
  ((f 12 = 0 ∧ (added → r 10 = -1) ∧ (¬ added → r 10 = 0)) ∨ (added ∧ f 11 = r 10 ∧ 0 ≤ (r 10).toInt ∧ (f 12 = 1 ∨ f 12 = 2 ∨ f 12 = 3)))
/-- a clerk: a stations; e: how much their run is below its longest at least -/
def pq_K (a : Nat) (h : Nat) (e : Int) (added : Prop) (f r : Nat → Int32) : Prop :=
  (f 0 = r 0 ∧ f 1 = r 1 ∧ f 3 = r 3 ∧ f 4 = r 4 ∧ f 5 = r 5) ∧
  ((f 2 = -5 ∧ (added → r 2 = -1) ∧ r 3 = 0) ∨ (added ∧ ∃ s, s < a ∧ f 2 = nI s ∧ r 2 = nI s)) ∧
  (added → (1 ≤ (r 0).toInt ∧ (r 0).toInt ≤ 60) ∧ (1 ≤ (r 1).toInt ∧ (r 1).toInt ≤ 6) ∧ (r 3).toInt + e ≤ (r 1).toInt) ∧
  0 ≤ (r 3).toInt ∧ (0 ≤ (r 4).toInt ∧ (r 4).toInt ≤ (h : Int)) ∧ (r 5 = 0 ∨ r 5 = 1 ∨ r 5 = 2)
def pq_B (h : Nat) : Int := 500 * ((min h 15 : Nat) : Int)
/-- a day and a row are the same day -/
def DR (M : ps_M) (d : Nat) (q : Nat → Int32) (h a b : Nat) : Prop := DX M d q h a b (fun s => pq_S True (pq_B h) (15 - h) (s < a)) (fun c => pq_K a h 0 (c < b))
def DE (M : ps_M) (d : Nat) (q : Nat → Int32) : Prop := ∃ h a b : Nat, DR M d q h a b
