/-! ===== THE CLASS'S CELLS: by number. in the order in which they are made. 0: the object; days at 1, 28, 55, 86, 113, 140, 167 (27 cells each: day, row of stations, six stations each with its arrivals, row of clerks, twelve clerks); 82 total with arrivals; 84 history, 85 its row; 194 text, 195 signs, 196 numbers; 197 the law's row of what was given ===== -/
def ps_kD (o : Nat) : Nat := if o = 0 then 2 else if o = 1 then 3 else if o < 14 then (if o % 2 = 0 then 4 else 5) else if o = 14 then 6 else 7
def ps_kd (k : Nat) : Nat :=
  if k = 0 then 1 else if k < 82 then ps_kD ((k - 1) % 27) else if k = 82 then 4 else if k = 83 then 5 else if k = 84 then 8 else if k = 85 then 9 else if k < 194 then ps_kD ((k - 86) % 27) else if k = 194 then 10 else if k = 195 then 11 else if k = 196 then 12 else if k = 197 then 13 else 0
def ps_fT (ad : Nat → Nat) (M : ps_M) (k : Nat) : List Value := [.ref (ad (k + 1)), .ref (ad (k + 2)), .int (M k 2)]
def ps_fK (_ : Nat → Nat) (M : ps_M) (k : Nat) : List Value := [.int (M k 0), .int (M k 1), .int (M k 2), .int (M k 3), .int (M k 4), .int (M k 5)]
def ps_fD (ad : Nat → Nat) (M : ps_M) (k : Nat) : List Value := [.int (M k 0), .int (M k 1), .int (M k 2), .ref (ad (k + 1)), .ref (ad (k + 14))]
def ps_fH (ad : Nat → Nat) (M : ps_M) (k : Nat) : List Value := [.ref (ad (k + 1)), .int (M k 1)]
def ps_fS (ad : Nat → Nat) (M : ps_M) (k : Nat) : List Value := [.ref (ad (k + 1)), .int (M k 1), .int (M k 2), .int (M k 3), .int (M k 4), .int (M k 5), .int (M k 6), .int (M k 7), .int (M k 8), .int (M k 9), .int (M k 10), .int (M k 11), .int (M k 12)]
def ps_fP (ad : Nat → Nat) (M : ps_M) (k : Nat) : List Value := [.ref (ad 1), .ref (ad 28), .ref (ad 55), .int (M k 3), .ref (ad 82), .ref (ad 84), .ref (ad 194)]
abbrev ps_rw (f : Nat → Option Nat) (c : ClassId) (n : Nat) : va_E := .inl (c, n, .inr (.inr (.inr (.inr f))))
def ps_cf (cid : Nat → ClassId) (ad : Nat → Nat) (M : ps_M) (k : Nat) : va_E := match ps_kd k with
  | 1 => .inr (5, ps_fP ad M k)
  | 2 => .inr (2, ps_fD ad M k)
  | 3 => ps_rw (fun i => if i < 6 then some (ad (k + 1 + 2 * i)) else none) (cid 2) 6
  | 4 => .inr (4, ps_fS ad M k)
  | 5 => .inl (cid 0, 15, .inl (M k))
  | 6 => ps_rw (fun i => if i < 12 then some (ad (k + 1 + i)) else none) (cid 3) 12
  | 7 => .inr (1, ps_fK ad M k)
  | 8 => .inr (3, ps_fH ad M k)
  | 9 => ps_rw (fun i => if i < 4 then some (ad (M k i).toNatClampNeg) else none) (cid 4) 4
  | 10 => .inr (0, ps_fT ad M k)
  | 11 => .inl (cid 1, 60, .inl (M k))
  | 12 => .inl (cid 0, 30, .inl (M k))
  | 13 => .inl (cid 0, 6, .inl (M k))
  | _ => .inr (99, [])
abbrev ps_ad (E : ps_E) : Nat → Nat := E.2.2.2.1
def ps_wc (E : ps_E) (M : ps_M) : va_W := (List.range 198).map (fun k => (ps_ad E k, ps_cf E.2.2.1 (ps_ad E) M k)) ++ E.2.2.2.2
def ps_Yc (E : ps_E) : ps_Y ps_M := (E.1, E.2.1, E.2.2.1, ps_wc E)
theorem ps_kd_lt {k : Nat} (h : ps_kd k ≠ 0) : k < 198 := by
  rcases Nat.lt_or_ge k 198 with q | q
  · exact q
  · exfalso
    apply h
    unfold ps_kd
    rw [if_neg (by omega), if_neg (by omega), if_neg (by omega), if_neg (by omega), if_neg (by omega), if_neg (by omega), if_neg (by omega), if_neg (by omega), if_neg (by omega), if_neg (by omega), if_neg (by omega)]
theorem ps_cf_congr {cid : Nat → ClassId} {ad : Nat → Nat} {M M' : ps_M} {k : Nat} (h : M' k = M k) : ps_cf cid ad M' k = ps_cf cid ad M k := by
  unfold ps_cf ps_fT ps_fK ps_fD ps_fH ps_fS ps_fP
  rw [h]
theorem ps_wc_at (E : ps_E) (M : ps_M) {k : Nat} (hk : ps_kd k ≠ 0) : (ps_wc E M)[k]? = some (ps_ad E k, ps_cf E.2.2.1 (ps_ad E) M k) := by
  have h := ps_kd_lt hk
  unfold ps_wc
  rw [List.getElem?_append_left (by simpa using h)]
  simp [h]
theorem ps_wc_set (E : ps_E) {M M' : ps_M} {k : Nat} {e : va_E} (hk : ps_kd k ≠ 0) (he : ps_cf E.2.2.1 (ps_ad E) M' k = e) (ho : ∀ j, j ≠ k → M' j = M j) : (ps_wc E M).set k (ps_ad E k, e) = ps_wc E M' := by
  have h := ps_kd_lt hk
  unfold ps_wc
  rw [List.set_append_left _ _ (by simpa using h)]
  congr 1
  apply List.ext_getElem?
  intro j
  by_cases hj : j = k
  · subst hj
    rw [List.getElem?_set_self (by simpa using h)]
    simp [h, he]
  · rw [List.getElem?_set_ne (Ne.symm hj)]
    simp only [List.getElem?_map]
    cases hr : (List.range 198)[j]? with
    | none => rfl
    | some i =>
      have hi : i = j := by
        rw [List.getElem?_range] at hr
        · exact (Option.some.inj hr).symm
        · have := (List.getElem?_eq_some_iff.mp hr).1
          simpa using this
      subst hi
      show some (ps_ad E i, ps_cf _ _ M i) = some (ps_ad E i, ps_cf _ _ M' i)
      rw [ps_cf_congr (ho i hj)]
theorem ps_recv {E : ps_E} {M : ps_M} {k ci : Nat} {q : vw_C} {fs : List Value} (hk : ps_kd k ≠ 0) (hc : vwCl[ci]? = some q) (he : ps_cf E.2.2.1 (ps_ad E) M k = .inr (ci, fs)) : ps_rc (ps_Yc E) M (ps_ad E k) q.1 := ⟨k, ci, q, fs, hc, rfl, (ps_wc_at E M hk).trans (by rw [he])⟩
theorem ps_cf_1 {cid : Nat → ClassId} {ad : Nat → Nat} {M : ps_M} {k : Nat} (h : ps_kd k = 1) : ps_cf cid ad M k = .inr (5, ps_fP ad M k) := by unfold ps_cf; rw [h]; rfl
theorem ps_cf_2 {cid : Nat → ClassId} {ad : Nat → Nat} {M : ps_M} {k : Nat} (h : ps_kd k = 2) : ps_cf cid ad M k = .inr (2, ps_fD ad M k) := by unfold ps_cf; rw [h]; rfl
theorem ps_cf_3 {cid : Nat → ClassId} {ad : Nat → Nat} {M : ps_M} {k : Nat} (h : ps_kd k = 3) : ps_cf cid ad M k = ps_rw (fun i => if i < 6 then some (ad (k + 1 + 2 * i)) else none) (cid 2) 6 := by unfold ps_cf; rw [h]; rfl
theorem ps_cf_4 {cid : Nat → ClassId} {ad : Nat → Nat} {M : ps_M} {k : Nat} (h : ps_kd k = 4) : ps_cf cid ad M k = .inr (4, ps_fS ad M k) := by unfold ps_cf; rw [h]; rfl
theorem ps_cf_5 {cid : Nat → ClassId} {ad : Nat → Nat} {M : ps_M} {k : Nat} (h : ps_kd k = 5) : ps_cf cid ad M k = .inl (cid 0, 15, .inl (M k)) := by unfold ps_cf; rw [h]; rfl
theorem ps_cf_6 {cid : Nat → ClassId} {ad : Nat → Nat} {M : ps_M} {k : Nat} (h : ps_kd k = 6) : ps_cf cid ad M k = ps_rw (fun i => if i < 12 then some (ad (k + 1 + i)) else none) (cid 3) 12 := by unfold ps_cf; rw [h]; rfl
theorem ps_cf_7 {cid : Nat → ClassId} {ad : Nat → Nat} {M : ps_M} {k : Nat} (h : ps_kd k = 7) : ps_cf cid ad M k = .inr (1, ps_fK ad M k) := by unfold ps_cf; rw [h]; rfl
theorem ps_cf_8 {cid : Nat → ClassId} {ad : Nat → Nat} {M : ps_M} {k : Nat} (h : ps_kd k = 8) : ps_cf cid ad M k = .inr (3, ps_fH ad M k) := by unfold ps_cf; rw [h]; rfl
theorem ps_cf_9 {cid : Nat → ClassId} {ad : Nat → Nat} {M : ps_M} {k : Nat} (h : ps_kd k = 9) : ps_cf cid ad M k = ps_rw (fun i => if i < 4 then some (ad (M k i).toNatClampNeg) else none) (cid 4) 4 := by unfold ps_cf; rw [h]; rfl
theorem ps_cf_10 {cid : Nat → ClassId} {ad : Nat → Nat} {M : ps_M} {k : Nat} (h : ps_kd k = 10) : ps_cf cid ad M k = .inr (0, ps_fT ad M k) := by unfold ps_cf; rw [h]; rfl
theorem ps_cf_11 {cid : Nat → ClassId} {ad : Nat → Nat} {M : ps_M} {k : Nat} (h : ps_kd k = 11) : ps_cf cid ad M k = .inl (cid 1, 60, .inl (M k)) := by unfold ps_cf; rw [h]; rfl
theorem ps_cf_12 {cid : Nat → ClassId} {ad : Nat → Nat} {M : ps_M} {k : Nat} (h : ps_kd k = 12) : ps_cf cid ad M k = .inl (cid 0, 30, .inl (M k)) := by unfold ps_cf; rw [h]; rfl
theorem ps_cf_13 {cid : Nat → ClassId} {ad : Nat → Nat} {M : ps_M} {k : Nat} (h : ps_kd k = 13) : ps_cf cid ad M k = .inl (cid 0, 6, .inl (M k)) := by unfold ps_cf; rw [h]; rfl
theorem ps_at_1 (E : ps_E) (M : ps_M) {k : Nat} (h : ps_kd k = 1) : (ps_wc E M)[k]? = some (ps_ad E k, .inr (5, ps_fP (ps_ad E) M k)) := (ps_wc_at E M (k := k) (by omega)).trans (by rw [ps_cf_1 h])
theorem ps_at_2 (E : ps_E) (M : ps_M) {k : Nat} (h : ps_kd k = 2) : (ps_wc E M)[k]? = some (ps_ad E k, .inr (2, ps_fD (ps_ad E) M k)) := (ps_wc_at E M (k := k) (by omega)).trans (by rw [ps_cf_2 h])
theorem ps_at_3 (E : ps_E) (M : ps_M) {k : Nat} (h : ps_kd k = 3) : (ps_wc E M)[k]? = some (ps_ad E k, ps_rw (fun i => if i < 6 then some (ps_ad E (k + 1 + 2 * i)) else none) (E.2.2.1 2) 6) := (ps_wc_at E M (k := k) (by omega)).trans (by rw [ps_cf_3 h])
theorem ps_at_4 (E : ps_E) (M : ps_M) {k : Nat} (h : ps_kd k = 4) : (ps_wc E M)[k]? = some (ps_ad E k, .inr (4, ps_fS (ps_ad E) M k)) := (ps_wc_at E M (k := k) (by omega)).trans (by rw [ps_cf_4 h])
theorem ps_at_5 (E : ps_E) (M : ps_M) {k : Nat} (h : ps_kd k = 5) : (ps_wc E M)[k]? = some (ps_ad E k, .inl (E.2.2.1 0, 15, .inl (M k))) := (ps_wc_at E M (k := k) (by omega)).trans (by rw [ps_cf_5 h])
theorem ps_at_6 (E : ps_E) (M : ps_M) {k : Nat} (h : ps_kd k = 6) : (ps_wc E M)[k]? = some (ps_ad E k, ps_rw (fun i => if i < 12 then some (ps_ad E (k + 1 + i)) else none) (E.2.2.1 3) 12) := (ps_wc_at E M (k := k) (by omega)).trans (by rw [ps_cf_6 h])
theorem ps_at_7 (E : ps_E) (M : ps_M) {k : Nat} (h : ps_kd k = 7) : (ps_wc E M)[k]? = some (ps_ad E k, .inr (1, ps_fK (ps_ad E) M k)) := (ps_wc_at E M (k := k) (by omega)).trans (by rw [ps_cf_7 h])
theorem ps_at_8 (E : ps_E) (M : ps_M) {k : Nat} (h : ps_kd k = 8) : (ps_wc E M)[k]? = some (ps_ad E k, .inr (3, ps_fH (ps_ad E) M k)) := (ps_wc_at E M (k := k) (by omega)).trans (by rw [ps_cf_8 h])
theorem ps_at_9 (E : ps_E) (M : ps_M) {k : Nat} (h : ps_kd k = 9) : (ps_wc E M)[k]? = some (ps_ad E k, ps_rw (fun i => if i < 4 then some (ps_ad E (M k i).toNatClampNeg) else none) (E.2.2.1 4) 4) := (ps_wc_at E M (k := k) (by omega)).trans (by rw [ps_cf_9 h])
theorem ps_at_10 (E : ps_E) (M : ps_M) {k : Nat} (h : ps_kd k = 10) : (ps_wc E M)[k]? = some (ps_ad E k, .inr (0, ps_fT (ps_ad E) M k)) := (ps_wc_at E M (k := k) (by omega)).trans (by rw [ps_cf_10 h])
theorem ps_at_11 (E : ps_E) (M : ps_M) {k : Nat} (h : ps_kd k = 11) : (ps_wc E M)[k]? = some (ps_ad E k, .inl (E.2.2.1 1, 60, .inl (M k))) := (ps_wc_at E M (k := k) (by omega)).trans (by rw [ps_cf_11 h])
theorem ps_at_12 (E : ps_E) (M : ps_M) {k : Nat} (h : ps_kd k = 12) : (ps_wc E M)[k]? = some (ps_ad E k, .inl (E.2.2.1 0, 30, .inl (M k))) := (ps_wc_at E M (k := k) (by omega)).trans (by rw [ps_cf_12 h])
theorem ps_at_13 (E : ps_E) (M : ps_M) {k : Nat} (h : ps_kd k = 13) : (ps_wc E M)[k]? = some (ps_ad E k, .inl (E.2.2.1 0, 6, .inl (M k))) := (ps_wc_at E M (k := k) (by omega)).trans (by rw [ps_cf_13 h])
/-! kinds of the cells that a reference leads to -/
theorem kd_d1 {d : Nat} (h : ps_kd d = 2) : ps_kd (d + 1) = 3 := by
  have hl := ps_kd_lt (k := d) (by omega)
  revert h; revert d; decide +kernel
theorem kd_d14 {d : Nat} (h : ps_kd d = 2) : ps_kd (d + 14) = 6 := by
  have hl := ps_kd_lt (k := d) (by omega)
  revert h; revert d; decide +kernel
theorem kd_s1 {d : Nat} (h : ps_kd d = 4) : ps_kd (d + 1) = 5 := by
  have hl := ps_kd_lt (k := d) (by omega)
  revert h; revert d; decide +kernel
theorem kd_S0 : ∀ d : Nat, d < 198 → ps_kd d = 3 → ∀ i, i < 6 → ps_kd (d + 1 + 2 * i) = 4 := by decide +kernel
theorem kd_K0 : ∀ d : Nat, d < 198 → ps_kd d = 6 → ∀ i, i < 12 → ps_kd (d + 1 + i) = 7 := by decide +kernel
theorem ps_vlt {x : Int32} {n : Nat} (h : vp_in x n) : x.toNatClampNeg < n := Nat.not_le.mp fun q => h (Or.inr q)
theorem kd_S {d : Nat} (h : ps_kd d = 3) {x : Int32} (hx : vp_in x 6) : ps_kd (d + 1 + 2 * x.toNatClampNeg) = 4 := kd_S0 d (ps_kd_lt (by omega)) h _ (ps_vlt hx)
theorem kd_K {d : Nat} (h : ps_kd d = 6) {x : Int32} (hx : vp_in x 12) : ps_kd (d + 1 + x.toNatClampNeg) = 7 := kd_K0 d (ps_kd_lt (by omega)) h _ (ps_vlt hx)
theorem kd_h1 {d : Nat} (h : ps_kd d = 8) : ps_kd (d + 1) = 9 := by
  have hl := ps_kd_lt (k := d) (by omega)
  revert h; revert d; decide +kernel
theorem kd_t1 {d : Nat} (h : ps_kd d = 10) : ps_kd (d + 1) = 11 := by
  have hl := ps_kd_lt (k := d) (by omega)
  revert h; revert d; decide +kernel
theorem kd_t2 {d : Nat} (h : ps_kd d = 10) : ps_kd (d + 2) = 12 := by
  have hl := ps_kd_lt (k := d) (by omega)
  revert h; revert d; decide +kernel
theorem gw_getT {E : ps_E} {ρ : Type} {X : ps_X ρ} {cc : ByteArray} {own : String} {ret : Option FieldType} {f n nL : Nat} (C : ps_C (ps_Yc E) X cc own ret f n nL) {r : ρ} {pc : Nat} {lv : List (Nat × Value)} {st : List Value} {M : ps_M} (pc' : Nat) {z : Nat} (hd : decode cc pc = .ok (.getfield z, 3)) (hp : pc + 3 = pc') {d : Nat} (hk : ps_kd d = 10) (j : Nat) (hj : j < 3) (hw : Cond.fieldLink own z RX0 (TX0 j).2.1 (TX0 j).2.2.1 ∈ ps_T) (hs : (TX0 j).1 = RX0) {v : Value} (hv : (ps_fT (ps_ad E) M d)[j]? = some v) (k : ps_G (ps_Yc E) X r pc' lv (v :: st) M) : ps_G (ps_Yc E) X r pc lv (.ref (ps_ad E d) :: st) M := by
  subst hp
  intro H locs ls hP hD hS hl
  obtain ⟨hx, hb, hml, hnL, hown, hts, hr, hlk, hK, hb0, hfr, hlo, hce, hsl⟩ := C
  exact va_get (D := E.1) (ci := 0) (C := RX0) (T := TX0) (N := 3) hx hb hts hinX0 hown hK hP d (ps_at_10 E M hk) rfl j hj (hts _ hw) (fun x h => by rw [← hs]; exact h) hv hd (k H locs ls hP hD hS hl)
theorem ps_setT {E : ps_E} {M : ps_M} {d : Nat} (hk : ps_kd d = 10) {j : Nat} (hj : j = 2) (v : Int32) : (ps_wc E M).set d (ps_ad E d, .inr (0, (ps_fT (ps_ad E) M d).set j (.int v))) = ps_wc E (ps_st M d j v) := by
  refine ps_wc_set E (by omega) ?_ (fun i hi => ps_st_ne hi)
  rw [ps_cf_10 hk]
  rcases hj with rfl <;> simp [ps_fT, ps_st]
theorem gw_putT {E : ps_E} {ρ : Type} {X : ps_X ρ} {cc : ByteArray} {own : String} {ret : Option FieldType} {f n nL : Nat} (C : ps_C (ps_Yc E) X cc own ret f n nL) {r : ρ} {pc : Nat} {lv : List (Nat × Value)} {st : List Value} {M : ps_M} (pc' : Nat) {z : Nat} (hd : decode cc pc = .ok (.putfield z, 3)) (hp : pc + 3 = pc') {d : Nat} (hk : ps_kd d = 10) (j : Nat) (hj : j = 2) (hw : Cond.fieldLink own z RX0 (TX0 j).2.1 (TX0 j).2.2.1 ∈ ps_T) (hs : (TX0 j).1 = RX0) {ty : FieldType} (hfin : (TX0 j).2.2.2 = false) (hty : parseFieldDescriptor (TX0 j).2.2.1 = some ty) {v : Int32} (hn9 : narrow ty (.int v) = .int v) (hfit : fits ty (.int v) = true) (k : ps_G (ps_Yc E) X r pc' lv st (ps_st M d j v)) : ps_G (ps_Yc E) X r pc lv (.int v :: .ref (ps_ad E d) :: st) M := by
  subst hp
  intro H locs ls hP hD hS hl
  obtain ⟨hx, hb, hml, hnL, hown, hts, hr, hlk, hK, hb0, hfr, hlo, hce, hsl⟩ := C
  refine va_put (D := E.1) (ci := 0) (C := RX0) (T := TX0) (N := 3) hx hb hts hinX0 tyX0 tyX0_ok nmX0 hown hK hP hD hS d (ps_at_10 E M hk) rfl j (by omega) (hts _ hw) (fun x h => by rw [← hs]; exact h) hfin hty hn9 hfit (by show j < 3; omega) hd (fun H1 locs1 hP1 hD1 hS1 => ?_)
  have e := ps_setT (E := E) (M := M) hk hj v
  exact k H1 locs1 ls (by show va_P _ _ (ps_wc E _) _; rw [← e]; exact hP1) (by show va_D _ (ps_wc E _); rw [← e]; exact hD1) hS1 hl
theorem gw_getK {E : ps_E} {ρ : Type} {X : ps_X ρ} {cc : ByteArray} {own : String} {ret : Option FieldType} {f n nL : Nat} (C : ps_C (ps_Yc E) X cc own ret f n nL) {r : ρ} {pc : Nat} {lv : List (Nat × Value)} {st : List Value} {M : ps_M} (pc' : Nat) {z : Nat} (hd : decode cc pc = .ok (.getfield z, 3)) (hp : pc + 3 = pc') {d : Nat} (hk : ps_kd d = 7) (j : Nat) (hj : j < 6) (hw : Cond.fieldLink own z RX1 (TX1 j).2.1 (TX1 j).2.2.1 ∈ ps_T) (hs : (TX1 j).1 = RX1) {v : Value} (hv : (ps_fK (ps_ad E) M d)[j]? = some v) (k : ps_G (ps_Yc E) X r pc' lv (v :: st) M) : ps_G (ps_Yc E) X r pc lv (.ref (ps_ad E d) :: st) M := by
  subst hp
  intro H locs ls hP hD hS hl
  obtain ⟨hx, hb, hml, hnL, hown, hts, hr, hlk, hK, hb0, hfr, hlo, hce, hsl⟩ := C
  exact va_get (D := E.1) (ci := 1) (C := RX1) (T := TX1) (N := 6) hx hb hts hinX1 hown hK hP d (ps_at_7 E M hk) rfl j hj (hts _ hw) (fun x h => by rw [← hs]; exact h) hv hd (k H locs ls hP hD hS hl)
theorem ps_setK {E : ps_E} {M : ps_M} {d : Nat} (hk : ps_kd d = 7) {j : Nat} (hj : j = 0 ∨ j = 1 ∨ j = 2 ∨ j = 3 ∨ j = 4 ∨ j = 5) (v : Int32) : (ps_wc E M).set d (ps_ad E d, .inr (1, (ps_fK (ps_ad E) M d).set j (.int v))) = ps_wc E (ps_st M d j v) := by
  refine ps_wc_set E (by omega) ?_ (fun i hi => ps_st_ne hi)
  rw [ps_cf_7 hk]
  rcases hj with rfl | rfl | rfl | rfl | rfl | rfl <;> simp [ps_fK, ps_st]
theorem gw_putK {E : ps_E} {ρ : Type} {X : ps_X ρ} {cc : ByteArray} {own : String} {ret : Option FieldType} {f n nL : Nat} (C : ps_C (ps_Yc E) X cc own ret f n nL) {r : ρ} {pc : Nat} {lv : List (Nat × Value)} {st : List Value} {M : ps_M} (pc' : Nat) {z : Nat} (hd : decode cc pc = .ok (.putfield z, 3)) (hp : pc + 3 = pc') {d : Nat} (hk : ps_kd d = 7) (j : Nat) (hj : j = 0 ∨ j = 1 ∨ j = 2 ∨ j = 3 ∨ j = 4 ∨ j = 5) (hw : Cond.fieldLink own z RX1 (TX1 j).2.1 (TX1 j).2.2.1 ∈ ps_T) (hs : (TX1 j).1 = RX1) {ty : FieldType} (hfin : (TX1 j).2.2.2 = false) (hty : parseFieldDescriptor (TX1 j).2.2.1 = some ty) {v : Int32} (hn9 : narrow ty (.int v) = .int v) (hfit : fits ty (.int v) = true) (k : ps_G (ps_Yc E) X r pc' lv st (ps_st M d j v)) : ps_G (ps_Yc E) X r pc lv (.int v :: .ref (ps_ad E d) :: st) M := by
  subst hp
  intro H locs ls hP hD hS hl
  obtain ⟨hx, hb, hml, hnL, hown, hts, hr, hlk, hK, hb0, hfr, hlo, hce, hsl⟩ := C
  refine va_put (D := E.1) (ci := 1) (C := RX1) (T := TX1) (N := 6) hx hb hts hinX1 tyX1 tyX1_ok nmX1 hown hK hP hD hS d (ps_at_7 E M hk) rfl j (by omega) (hts _ hw) (fun x h => by rw [← hs]; exact h) hfin hty hn9 hfit (by show j < 6; omega) hd (fun H1 locs1 hP1 hD1 hS1 => ?_)
  have e := ps_setK (E := E) (M := M) hk hj v
  exact k H1 locs1 ls (by show va_P _ _ (ps_wc E _) _; rw [← e]; exact hP1) (by show va_D _ (ps_wc E _); rw [← e]; exact hD1) hS1 hl
theorem gw_getD {E : ps_E} {ρ : Type} {X : ps_X ρ} {cc : ByteArray} {own : String} {ret : Option FieldType} {f n nL : Nat} (C : ps_C (ps_Yc E) X cc own ret f n nL) {r : ρ} {pc : Nat} {lv : List (Nat × Value)} {st : List Value} {M : ps_M} (pc' : Nat) {z : Nat} (hd : decode cc pc = .ok (.getfield z, 3)) (hp : pc + 3 = pc') {d : Nat} (hk : ps_kd d = 2) (j : Nat) (hj : j < 5) (hw : Cond.fieldLink own z RX2 (TX2 j).2.1 (TX2 j).2.2.1 ∈ ps_T) (hs : (TX2 j).1 = RX2) {v : Value} (hv : (ps_fD (ps_ad E) M d)[j]? = some v) (k : ps_G (ps_Yc E) X r pc' lv (v :: st) M) : ps_G (ps_Yc E) X r pc lv (.ref (ps_ad E d) :: st) M := by
  subst hp
  intro H locs ls hP hD hS hl
  obtain ⟨hx, hb, hml, hnL, hown, hts, hr, hlk, hK, hb0, hfr, hlo, hce, hsl⟩ := C
  exact va_get (D := E.1) (ci := 2) (C := RX2) (T := TX2) (N := 5) hx hb hts hinX2 hown hK hP d (ps_at_2 E M hk) rfl j hj (hts _ hw) (fun x h => by rw [← hs]; exact h) hv hd (k H locs ls hP hD hS hl)
theorem ps_setD {E : ps_E} {M : ps_M} {d : Nat} (hk : ps_kd d = 2) {j : Nat} (hj : j = 0 ∨ j = 1 ∨ j = 2) (v : Int32) : (ps_wc E M).set d (ps_ad E d, .inr (2, (ps_fD (ps_ad E) M d).set j (.int v))) = ps_wc E (ps_st M d j v) := by
  refine ps_wc_set E (by omega) ?_ (fun i hi => ps_st_ne hi)
  rw [ps_cf_2 hk]
  rcases hj with rfl | rfl | rfl <;> simp [ps_fD, ps_st]
theorem gw_putD {E : ps_E} {ρ : Type} {X : ps_X ρ} {cc : ByteArray} {own : String} {ret : Option FieldType} {f n nL : Nat} (C : ps_C (ps_Yc E) X cc own ret f n nL) {r : ρ} {pc : Nat} {lv : List (Nat × Value)} {st : List Value} {M : ps_M} (pc' : Nat) {z : Nat} (hd : decode cc pc = .ok (.putfield z, 3)) (hp : pc + 3 = pc') {d : Nat} (hk : ps_kd d = 2) (j : Nat) (hj : j = 0 ∨ j = 1 ∨ j = 2) (hw : Cond.fieldLink own z RX2 (TX2 j).2.1 (TX2 j).2.2.1 ∈ ps_T) (hs : (TX2 j).1 = RX2) {ty : FieldType} (hfin : (TX2 j).2.2.2 = false) (hty : parseFieldDescriptor (TX2 j).2.2.1 = some ty) {v : Int32} (hn9 : narrow ty (.int v) = .int v) (hfit : fits ty (.int v) = true) (k : ps_G (ps_Yc E) X r pc' lv st (ps_st M d j v)) : ps_G (ps_Yc E) X r pc lv (.int v :: .ref (ps_ad E d) :: st) M := by
  subst hp
  intro H locs ls hP hD hS hl
  obtain ⟨hx, hb, hml, hnL, hown, hts, hr, hlk, hK, hb0, hfr, hlo, hce, hsl⟩ := C
  refine va_put (D := E.1) (ci := 2) (C := RX2) (T := TX2) (N := 5) hx hb hts hinX2 tyX2 tyX2_ok nmX2 hown hK hP hD hS d (ps_at_2 E M hk) rfl j (by omega) (hts _ hw) (fun x h => by rw [← hs]; exact h) hfin hty hn9 hfit (by show j < 5; omega) hd (fun H1 locs1 hP1 hD1 hS1 => ?_)
  have e := ps_setD (E := E) (M := M) hk hj v
  exact k H1 locs1 ls (by show va_P _ _ (ps_wc E _) _; rw [← e]; exact hP1) (by show va_D _ (ps_wc E _); rw [← e]; exact hD1) hS1 hl
theorem gw_getH {E : ps_E} {ρ : Type} {X : ps_X ρ} {cc : ByteArray} {own : String} {ret : Option FieldType} {f n nL : Nat} (C : ps_C (ps_Yc E) X cc own ret f n nL) {r : ρ} {pc : Nat} {lv : List (Nat × Value)} {st : List Value} {M : ps_M} (pc' : Nat) {z : Nat} (hd : decode cc pc = .ok (.getfield z, 3)) (hp : pc + 3 = pc') {d : Nat} (hk : ps_kd d = 8) (j : Nat) (hj : j < 2) (hw : Cond.fieldLink own z RX3 (TX3 j).2.1 (TX3 j).2.2.1 ∈ ps_T) (hs : (TX3 j).1 = RX3) {v : Value} (hv : (ps_fH (ps_ad E) M d)[j]? = some v) (k : ps_G (ps_Yc E) X r pc' lv (v :: st) M) : ps_G (ps_Yc E) X r pc lv (.ref (ps_ad E d) :: st) M := by
  subst hp
  intro H locs ls hP hD hS hl
  obtain ⟨hx, hb, hml, hnL, hown, hts, hr, hlk, hK, hb0, hfr, hlo, hce, hsl⟩ := C
  exact va_get (D := E.1) (ci := 3) (C := RX3) (T := TX3) (N := 2) hx hb hts hinX3 hown hK hP d (ps_at_8 E M hk) rfl j hj (hts _ hw) (fun x h => by rw [← hs]; exact h) hv hd (k H locs ls hP hD hS hl)
theorem ps_setH {E : ps_E} {M : ps_M} {d : Nat} (hk : ps_kd d = 8) {j : Nat} (hj : j = 1) (v : Int32) : (ps_wc E M).set d (ps_ad E d, .inr (3, (ps_fH (ps_ad E) M d).set j (.int v))) = ps_wc E (ps_st M d j v) := by
  refine ps_wc_set E (by omega) ?_ (fun i hi => ps_st_ne hi)
  rw [ps_cf_8 hk]
  rcases hj with rfl <;> simp [ps_fH, ps_st]
theorem gw_putH {E : ps_E} {ρ : Type} {X : ps_X ρ} {cc : ByteArray} {own : String} {ret : Option FieldType} {f n nL : Nat} (C : ps_C (ps_Yc E) X cc own ret f n nL) {r : ρ} {pc : Nat} {lv : List (Nat × Value)} {st : List Value} {M : ps_M} (pc' : Nat) {z : Nat} (hd : decode cc pc = .ok (.putfield z, 3)) (hp : pc + 3 = pc') {d : Nat} (hk : ps_kd d = 8) (j : Nat) (hj : j = 1) (hw : Cond.fieldLink own z RX3 (TX3 j).2.1 (TX3 j).2.2.1 ∈ ps_T) (hs : (TX3 j).1 = RX3) {ty : FieldType} (hfin : (TX3 j).2.2.2 = false) (hty : parseFieldDescriptor (TX3 j).2.2.1 = some ty) {v : Int32} (hn9 : narrow ty (.int v) = .int v) (hfit : fits ty (.int v) = true) (k : ps_G (ps_Yc E) X r pc' lv st (ps_st M d j v)) : ps_G (ps_Yc E) X r pc lv (.int v :: .ref (ps_ad E d) :: st) M := by
  subst hp
  intro H locs ls hP hD hS hl
  obtain ⟨hx, hb, hml, hnL, hown, hts, hr, hlk, hK, hb0, hfr, hlo, hce, hsl⟩ := C
  refine va_put (D := E.1) (ci := 3) (C := RX3) (T := TX3) (N := 2) hx hb hts hinX3 tyX3 tyX3_ok nmX3 hown hK hP hD hS d (ps_at_8 E M hk) rfl j (by omega) (hts _ hw) (fun x h => by rw [← hs]; exact h) hfin hty hn9 hfit (by show j < 2; omega) hd (fun H1 locs1 hP1 hD1 hS1 => ?_)
  have e := ps_setH (E := E) (M := M) hk hj v
  exact k H1 locs1 ls (by show va_P _ _ (ps_wc E _) _; rw [← e]; exact hP1) (by show va_D _ (ps_wc E _); rw [← e]; exact hD1) hS1 hl
theorem gw_getS {E : ps_E} {ρ : Type} {X : ps_X ρ} {cc : ByteArray} {own : String} {ret : Option FieldType} {f n nL : Nat} (C : ps_C (ps_Yc E) X cc own ret f n nL) {r : ρ} {pc : Nat} {lv : List (Nat × Value)} {st : List Value} {M : ps_M} (pc' : Nat) {z : Nat} (hd : decode cc pc = .ok (.getfield z, 3)) (hp : pc + 3 = pc') {d : Nat} (hk : ps_kd d = 4) (j : Nat) (hj : j < 13) (hw : Cond.fieldLink own z RX4 (TX4 j).2.1 (TX4 j).2.2.1 ∈ ps_T) (hs : (TX4 j).1 = RX4) {v : Value} (hv : (ps_fS (ps_ad E) M d)[j]? = some v) (k : ps_G (ps_Yc E) X r pc' lv (v :: st) M) : ps_G (ps_Yc E) X r pc lv (.ref (ps_ad E d) :: st) M := by
  subst hp
  intro H locs ls hP hD hS hl
  obtain ⟨hx, hb, hml, hnL, hown, hts, hr, hlk, hK, hb0, hfr, hlo, hce, hsl⟩ := C
  exact va_get (D := E.1) (ci := 4) (C := RX4) (T := TX4) (N := 13) hx hb hts hinX4 hown hK hP d (ps_at_4 E M hk) rfl j hj (hts _ hw) (fun x h => by rw [← hs]; exact h) hv hd (k H locs ls hP hD hS hl)
theorem ps_setS {E : ps_E} {M : ps_M} {d : Nat} (hk : ps_kd d = 4) {j : Nat} (hj : j = 1 ∨ j = 2 ∨ j = 3 ∨ j = 4 ∨ j = 5 ∨ j = 6 ∨ j = 7 ∨ j = 8 ∨ j = 9 ∨ j = 10 ∨ j = 11 ∨ j = 12) (v : Int32) : (ps_wc E M).set d (ps_ad E d, .inr (4, (ps_fS (ps_ad E) M d).set j (.int v))) = ps_wc E (ps_st M d j v) := by
  refine ps_wc_set E (by omega) ?_ (fun i hi => ps_st_ne hi)
  rw [ps_cf_4 hk]
  rcases hj with rfl | rfl | rfl | rfl | rfl | rfl | rfl | rfl | rfl | rfl | rfl | rfl <;> simp [ps_fS, ps_st]
theorem gw_putS {E : ps_E} {ρ : Type} {X : ps_X ρ} {cc : ByteArray} {own : String} {ret : Option FieldType} {f n nL : Nat} (C : ps_C (ps_Yc E) X cc own ret f n nL) {r : ρ} {pc : Nat} {lv : List (Nat × Value)} {st : List Value} {M : ps_M} (pc' : Nat) {z : Nat} (hd : decode cc pc = .ok (.putfield z, 3)) (hp : pc + 3 = pc') {d : Nat} (hk : ps_kd d = 4) (j : Nat) (hj : j = 1 ∨ j = 2 ∨ j = 3 ∨ j = 4 ∨ j = 5 ∨ j = 6 ∨ j = 7 ∨ j = 8 ∨ j = 9 ∨ j = 10 ∨ j = 11 ∨ j = 12) (hw : Cond.fieldLink own z RX4 (TX4 j).2.1 (TX4 j).2.2.1 ∈ ps_T) (hs : (TX4 j).1 = RX4) {ty : FieldType} (hfin : (TX4 j).2.2.2 = false) (hty : parseFieldDescriptor (TX4 j).2.2.1 = some ty) {v : Int32} (hn9 : narrow ty (.int v) = .int v) (hfit : fits ty (.int v) = true) (k : ps_G (ps_Yc E) X r pc' lv st (ps_st M d j v)) : ps_G (ps_Yc E) X r pc lv (.int v :: .ref (ps_ad E d) :: st) M := by
  subst hp
  intro H locs ls hP hD hS hl
  obtain ⟨hx, hb, hml, hnL, hown, hts, hr, hlk, hK, hb0, hfr, hlo, hce, hsl⟩ := C
  refine va_put (D := E.1) (ci := 4) (C := RX4) (T := TX4) (N := 13) hx hb hts hinX4 tyX4 tyX4_ok nmX4 hown hK hP hD hS d (ps_at_4 E M hk) rfl j (by omega) (hts _ hw) (fun x h => by rw [← hs]; exact h) hfin hty hn9 hfit (by show j < 13; omega) hd (fun H1 locs1 hP1 hD1 hS1 => ?_)
  have e := ps_setS (E := E) (M := M) hk hj v
  exact k H1 locs1 ls (by show va_P _ _ (ps_wc E _) _; rw [← e]; exact hP1) (by show va_D _ (ps_wc E _); rw [← e]; exact hD1) hS1 hl
theorem gw_getP {E : ps_E} {ρ : Type} {X : ps_X ρ} {cc : ByteArray} {own : String} {ret : Option FieldType} {f n nL : Nat} (C : ps_C (ps_Yc E) X cc own ret f n nL) {r : ρ} {pc : Nat} {lv : List (Nat × Value)} {st : List Value} {M : ps_M} (pc' : Nat) {z : Nat} (hd : decode cc pc = .ok (.getfield z, 3)) (hp : pc + 3 = pc') {d : Nat} (hk : ps_kd d = 1) (j : Nat) (hj : j < 7) (hw : Cond.fieldLink own z RX5 (TX5 j).2.1 (TX5 j).2.2.1 ∈ ps_T) (hs : (TX5 j).1 = RX5) {v : Value} (hv : (ps_fP (ps_ad E) M d)[j]? = some v) (k : ps_G (ps_Yc E) X r pc' lv (v :: st) M) : ps_G (ps_Yc E) X r pc lv (.ref (ps_ad E d) :: st) M := by
  subst hp
  intro H locs ls hP hD hS hl
  obtain ⟨hx, hb, hml, hnL, hown, hts, hr, hlk, hK, hb0, hfr, hlo, hce, hsl⟩ := C
  exact va_get (D := E.1) (ci := 5) (C := RX5) (T := TX5) (N := 7) hx hb hts hinX5 hown hK hP d (ps_at_1 E M hk) rfl j hj (hts _ hw) (fun x h => by rw [← hs]; exact h) hv hd (k H locs ls hP hD hS hl)
theorem ps_setP {E : ps_E} {M : ps_M} {d : Nat} (hk : ps_kd d = 1) {j : Nat} (hj : j = 3) (v : Int32) : (ps_wc E M).set d (ps_ad E d, .inr (5, (ps_fP (ps_ad E) M d).set j (.int v))) = ps_wc E (ps_st M d j v) := by
  refine ps_wc_set E (by omega) ?_ (fun i hi => ps_st_ne hi)
  rw [ps_cf_1 hk]
  rcases hj with rfl <;> simp [ps_fP, ps_st]
theorem gw_putP {E : ps_E} {ρ : Type} {X : ps_X ρ} {cc : ByteArray} {own : String} {ret : Option FieldType} {f n nL : Nat} (C : ps_C (ps_Yc E) X cc own ret f n nL) {r : ρ} {pc : Nat} {lv : List (Nat × Value)} {st : List Value} {M : ps_M} (pc' : Nat) {z : Nat} (hd : decode cc pc = .ok (.putfield z, 3)) (hp : pc + 3 = pc') {d : Nat} (hk : ps_kd d = 1) (j : Nat) (hj : j = 3) (hw : Cond.fieldLink own z RX5 (TX5 j).2.1 (TX5 j).2.2.1 ∈ ps_T) (hs : (TX5 j).1 = RX5) {ty : FieldType} (hfin : (TX5 j).2.2.2 = false) (hty : parseFieldDescriptor (TX5 j).2.2.1 = some ty) {v : Int32} (hn9 : narrow ty (.int v) = .int v) (hfit : fits ty (.int v) = true) (k : ps_G (ps_Yc E) X r pc' lv st (ps_st M d j v)) : ps_G (ps_Yc E) X r pc lv (.int v :: .ref (ps_ad E d) :: st) M := by
  subst hp
  intro H locs ls hP hD hS hl
  obtain ⟨hx, hb, hml, hnL, hown, hts, hr, hlk, hK, hb0, hfr, hlo, hce, hsl⟩ := C
  refine va_put (D := E.1) (ci := 5) (C := RX5) (T := TX5) (N := 7) hx hb hts hinX5 tyX5 tyX5_ok nmX5 hown hK hP hD hS d (ps_at_1 E M hk) rfl j (by omega) (hts _ hw) (fun x h => by rw [← hs]; exact h) hfin hty hn9 hfit (by show j < 7; omega) hd (fun H1 locs1 hP1 hD1 hS1 => ?_)
  have e := ps_setP (E := E) (M := M) hk hj v
  exact k H1 locs1 ls (by show va_P _ _ (ps_wc E _) _; rw [← e]; exact hP1) (by show va_D _ (ps_wc E _); rw [← e]; exact hD1) hS1 hl
theorem gw_ld_i15 {E : ps_E} {ρ : Type} {X : ps_X ρ} {cc : ByteArray} {own : String} {ret : Option FieldType} {f n nL : Nat} (C : ps_C (ps_Yc E) X cc own ret f n nL) {r : ρ} {pc : Nat} {lv : List (Nat × Value)} {st : List Value} {M : ps_M} (pc' : Nat) (hd : decode cc pc = .ok (.iaload, 1)) (hp : pc + 1 = pc') {d : Nat} (hk : ps_kd d = 5) {i : Int32} (hi : vp_in i 15) (k : ps_G (ps_Yc E) X r pc' lv (.int (M d i.toNatClampNeg) :: st) M) : ps_G (ps_Yc E) X r pc lv (.int i :: .ref (ps_ad E d) :: st) M := by
  subst hp
  intro H locs ls hP hD hS hl
  obtain ⟨hx, hb, hml, hnL, hown, hts, hr, hlk, hK, hb0, hfr, hlo, hce, hsl⟩ := C
  exact va_iald (D := E.1) hx hb hK hP d 0 (ps_at_5 E M hk) rfl hi hd (k H locs ls hP hD hS hl)
theorem gw_sv_i15 {E : ps_E} {ρ : Type} {X : ps_X ρ} {cc : ByteArray} {own : String} {ret : Option FieldType} {f n nL : Nat} (C : ps_C (ps_Yc E) X cc own ret f n nL) {r : ρ} {pc : Nat} {lv : List (Nat × Value)} {st : List Value} {M : ps_M} (pc' : Nat) (hd : decode cc pc = .ok (.iastore, 1)) (hp : pc + 1 = pc') {d : Nat} (hk : ps_kd d = 5) {i x : Int32} (hi : vp_in i 15) (k : ps_G (ps_Yc E) X r pc' lv st (ps_st M d i.toNatClampNeg x)) : ps_G (ps_Yc E) X r pc lv (.int x :: .int i :: .ref (ps_ad E d) :: st) M := by
  subst hp
  intro H locs ls hP hD hS hl
  obtain ⟨hx, hb, hml, hnL, hown, hts, hr, hlk, hK, hb0, hfr, hlo, hce, hsl⟩ := C
  refine va_iast (D := E.1) hx hb hK hP hD hS d 0 (ps_at_5 E M hk) rfl hi hd (fun H1 locs1 hP1 hD1 hS1 => ?_)
  have e : (ps_wc E M).set d (ps_ad E d, .inl (E.2.2.1 0, 15, .inl (upd (M d) i.toNatClampNeg x))) = ps_wc E (ps_st M d i.toNatClampNeg x) := ps_wc_set E (by omega) (by rw [ps_cf_5 hk, ps_st_self]) (fun j hj => ps_st_ne hj)
  exact k H1 locs1 ls (by show va_P _ _ (ps_wc E _) _; rw [← e]; exact hP1) (by show va_D _ (ps_wc E _); rw [← e]; exact hD1) hS1 hl
theorem gw_ld_i30 {E : ps_E} {ρ : Type} {X : ps_X ρ} {cc : ByteArray} {own : String} {ret : Option FieldType} {f n nL : Nat} (C : ps_C (ps_Yc E) X cc own ret f n nL) {r : ρ} {pc : Nat} {lv : List (Nat × Value)} {st : List Value} {M : ps_M} (pc' : Nat) (hd : decode cc pc = .ok (.iaload, 1)) (hp : pc + 1 = pc') {d : Nat} (hk : ps_kd d = 12) {i : Int32} (hi : vp_in i 30) (k : ps_G (ps_Yc E) X r pc' lv (.int (M d i.toNatClampNeg) :: st) M) : ps_G (ps_Yc E) X r pc lv (.int i :: .ref (ps_ad E d) :: st) M := by
  subst hp
  intro H locs ls hP hD hS hl
  obtain ⟨hx, hb, hml, hnL, hown, hts, hr, hlk, hK, hb0, hfr, hlo, hce, hsl⟩ := C
  exact va_iald (D := E.1) hx hb hK hP d 0 (ps_at_12 E M hk) rfl hi hd (k H locs ls hP hD hS hl)
theorem gw_sv_i30 {E : ps_E} {ρ : Type} {X : ps_X ρ} {cc : ByteArray} {own : String} {ret : Option FieldType} {f n nL : Nat} (C : ps_C (ps_Yc E) X cc own ret f n nL) {r : ρ} {pc : Nat} {lv : List (Nat × Value)} {st : List Value} {M : ps_M} (pc' : Nat) (hd : decode cc pc = .ok (.iastore, 1)) (hp : pc + 1 = pc') {d : Nat} (hk : ps_kd d = 12) {i x : Int32} (hi : vp_in i 30) (k : ps_G (ps_Yc E) X r pc' lv st (ps_st M d i.toNatClampNeg x)) : ps_G (ps_Yc E) X r pc lv (.int x :: .int i :: .ref (ps_ad E d) :: st) M := by
  subst hp
  intro H locs ls hP hD hS hl
  obtain ⟨hx, hb, hml, hnL, hown, hts, hr, hlk, hK, hb0, hfr, hlo, hce, hsl⟩ := C
  refine va_iast (D := E.1) hx hb hK hP hD hS d 0 (ps_at_12 E M hk) rfl hi hd (fun H1 locs1 hP1 hD1 hS1 => ?_)
  have e : (ps_wc E M).set d (ps_ad E d, .inl (E.2.2.1 0, 30, .inl (upd (M d) i.toNatClampNeg x))) = ps_wc E (ps_st M d i.toNatClampNeg x) := ps_wc_set E (by omega) (by rw [ps_cf_12 hk, ps_st_self]) (fun j hj => ps_st_ne hj)
  exact k H1 locs1 ls (by show va_P _ _ (ps_wc E _) _; rw [← e]; exact hP1) (by show va_D _ (ps_wc E _); rw [← e]; exact hD1) hS1 hl
theorem gw_ld_c60 {E : ps_E} {ρ : Type} {X : ps_X ρ} {cc : ByteArray} {own : String} {ret : Option FieldType} {f n nL : Nat} (C : ps_C (ps_Yc E) X cc own ret f n nL) {r : ρ} {pc : Nat} {lv : List (Nat × Value)} {st : List Value} {M : ps_M} (pc' : Nat) (hd : decode cc pc = .ok (.caload, 1)) (hp : pc + 1 = pc') {d : Nat} (hk : ps_kd d = 11) {i : Int32} (hi : vp_in i 60) (k : ps_G (ps_Yc E) X r pc' lv (.int (M d i.toNatClampNeg) :: st) M) : ps_G (ps_Yc E) X r pc lv (.int i :: .ref (ps_ad E d) :: st) M := by
  subst hp
  intro H locs ls hP hD hS hl
  obtain ⟨hx, hb, hml, hnL, hown, hts, hr, hlk, hK, hb0, hfr, hlo, hce, hsl⟩ := C
  exact va_cald (D := E.1) hx hb hK hP d 1 (ps_at_11 E M hk) rfl hi hd (k H locs ls hP hD hS hl)
theorem gw_sv_c60 {E : ps_E} {ρ : Type} {X : ps_X ρ} {cc : ByteArray} {own : String} {ret : Option FieldType} {f n nL : Nat} (C : ps_C (ps_Yc E) X cc own ret f n nL) {r : ρ} {pc : Nat} {lv : List (Nat × Value)} {st : List Value} {M : ps_M} (pc' : Nat) (hd : decode cc pc = .ok (.castore, 1)) (hp : pc + 1 = pc') {d : Nat} (hk : ps_kd d = 11) {i x : Int32} (hi : vp_in i 60) (k : ps_G (ps_Yc E) X r pc' lv st (ps_st M d i.toNatClampNeg (vp_nar .char x))) : ps_G (ps_Yc E) X r pc lv (.int x :: .int i :: .ref (ps_ad E d) :: st) M := by
  subst hp
  intro H locs ls hP hD hS hl
  obtain ⟨hx, hb, hml, hnL, hown, hts, hr, hlk, hK, hb0, hfr, hlo, hce, hsl⟩ := C
  refine va_cast (D := E.1) hx hb hK hP hD hS d 1 (ps_at_11 E M hk) rfl hi hd (fun H1 locs1 hP1 hD1 hS1 => ?_)
  have e : (ps_wc E M).set d (ps_ad E d, .inl (E.2.2.1 1, 60, .inl (upd (M d) i.toNatClampNeg (vp_nar .char x)))) = ps_wc E (ps_st M d i.toNatClampNeg (vp_nar .char x)) := ps_wc_set E (by omega) (by rw [ps_cf_11 hk, ps_st_self]) (fun j hj => ps_st_ne hj)
  exact k H1 locs1 ls (by show va_P _ _ (ps_wc E _) _; rw [← e]; exact hP1) (by show va_D _ (ps_wc E _); rw [← e]; exact hD1) hS1 hl
theorem gw_ld_g6 {E : ps_E} {ρ : Type} {X : ps_X ρ} {cc : ByteArray} {own : String} {ret : Option FieldType} {f n nL : Nat} (C : ps_C (ps_Yc E) X cc own ret f n nL) {r : ρ} {pc : Nat} {lv : List (Nat × Value)} {st : List Value} {M : ps_M} (pc' : Nat) (hd : decode cc pc = .ok (.iaload, 1)) (hp : pc + 1 = pc') {d : Nat} (hk : ps_kd d = 13) {i : Int32} (hi : vp_in i 6) (k : ps_G (ps_Yc E) X r pc' lv (.int (M d i.toNatClampNeg) :: st) M) : ps_G (ps_Yc E) X r pc lv (.int i :: .ref (ps_ad E d) :: st) M := by
  subst hp
  intro H locs ls hP hD hS hl
  obtain ⟨hx, hb, hml, hnL, hown, hts, hr, hlk, hK, hb0, hfr, hlo, hce, hsl⟩ := C
  exact va_iald (D := E.1) hx hb hK hP d 0 (ps_at_13 E M hk) rfl hi hd (k H locs ls hP hD hS hl)
theorem gw_sv_g6 {E : ps_E} {ρ : Type} {X : ps_X ρ} {cc : ByteArray} {own : String} {ret : Option FieldType} {f n nL : Nat} (C : ps_C (ps_Yc E) X cc own ret f n nL) {r : ρ} {pc : Nat} {lv : List (Nat × Value)} {st : List Value} {M : ps_M} (pc' : Nat) (hd : decode cc pc = .ok (.iastore, 1)) (hp : pc + 1 = pc') {d : Nat} (hk : ps_kd d = 13) {i x : Int32} (hi : vp_in i 6) (k : ps_G (ps_Yc E) X r pc' lv st (ps_st M d i.toNatClampNeg x)) : ps_G (ps_Yc E) X r pc lv (.int x :: .int i :: .ref (ps_ad E d) :: st) M := by
  subst hp
  intro H locs ls hP hD hS hl
  obtain ⟨hx, hb, hml, hnL, hown, hts, hr, hlk, hK, hb0, hfr, hlo, hce, hsl⟩ := C
  refine va_iast (D := E.1) hx hb hK hP hD hS d 0 (ps_at_13 E M hk) rfl hi hd (fun H1 locs1 hP1 hD1 hS1 => ?_)
  have e : (ps_wc E M).set d (ps_ad E d, .inl (E.2.2.1 0, 6, .inl (upd (M d) i.toNatClampNeg x))) = ps_wc E (ps_st M d i.toNatClampNeg x) := ps_wc_set E (by omega) (by rw [ps_cf_13 hk, ps_st_self]) (fun j hj => ps_st_ne hj)
  exact k H1 locs1 ls (by show va_P _ _ (ps_wc E _) _; rw [← e]; exact hP1) (by show va_D _ (ps_wc E _); rw [← e]; exact hD1) hS1 hl
theorem gw_alS {E : ps_E} {ρ : Type} {X : ps_X ρ} {cc : ByteArray} {own : String} {ret : Option FieldType} {f n nL : Nat} (C : ps_C (ps_Yc E) X cc own ret f n nL) {r : ρ} {pc : Nat} {lv : List (Nat × Value)} {st : List Value} {M : ps_M} (pc' : Nat) (hd : decode cc pc = .ok (.aaload, 1)) (hp : pc + 1 = pc') {d : Nat} (hk : ps_kd d = 3) {i : Int32} (hi : vp_in i 6) (k : ps_G (ps_Yc E) X r pc' lv (.ref (ps_ad E (d + 1 + 2 * i.toNatClampNeg)) :: st) M) : ps_G (ps_Yc E) X r pc lv (.int i :: .ref (ps_ad E d) :: st) M := by
  subst hp
  intro H locs ls hP hD hS hl
  obtain ⟨hx, hb, hml, hnL, hown, hts, hr, hlk, hK, hb0, hfr, hlo, hce, hsl⟩ := C
  exact va_aldq (D := E.1) (C := "PaperStations$Station") hx hb hK hP d 2 (ps_at_3 E M hk) rfl hi hd (by rw [show va_rf ((fun i : Nat => if i < 6 then some (ps_ad E (d + 1 + 2 * i)) else none) i.toNatClampNeg) = .ref (ps_ad E (d + 1 + 2 * i.toNatClampNeg)) from by simp [va_rf, ps_vlt hi]]; exact k H locs ls hP hD hS hl)
theorem gw_alK {E : ps_E} {ρ : Type} {X : ps_X ρ} {cc : ByteArray} {own : String} {ret : Option FieldType} {f n nL : Nat} (C : ps_C (ps_Yc E) X cc own ret f n nL) {r : ρ} {pc : Nat} {lv : List (Nat × Value)} {st : List Value} {M : ps_M} (pc' : Nat) (hd : decode cc pc = .ok (.aaload, 1)) (hp : pc + 1 = pc') {d : Nat} (hk : ps_kd d = 6) {i : Int32} (hi : vp_in i 12) (k : ps_G (ps_Yc E) X r pc' lv (.ref (ps_ad E (d + 1 + i.toNatClampNeg)) :: st) M) : ps_G (ps_Yc E) X r pc lv (.int i :: .ref (ps_ad E d) :: st) M := by
  subst hp
  intro H locs ls hP hD hS hl
  obtain ⟨hx, hb, hml, hnL, hown, hts, hr, hlk, hK, hb0, hfr, hlo, hce, hsl⟩ := C
  exact va_aldq (D := E.1) (C := "PaperStations$Clerk") hx hb hK hP d 3 (ps_at_6 E M hk) rfl hi hd (by rw [show va_rf ((fun i : Nat => if i < 12 then some (ps_ad E (d + 1 + i)) else none) i.toNatClampNeg) = .ref (ps_ad E (d + 1 + i.toNatClampNeg)) from by simp [va_rf, ps_vlt hi]]; exact k H locs ls hP hD hS hl)
theorem gw_alD {E : ps_E} {ρ : Type} {X : ps_X ρ} {cc : ByteArray} {own : String} {ret : Option FieldType} {f n nL : Nat} (C : ps_C (ps_Yc E) X cc own ret f n nL) {r : ρ} {pc : Nat} {lv : List (Nat × Value)} {st : List Value} {M : ps_M} (pc' : Nat) (hd : decode cc pc = .ok (.aaload, 1)) (hp : pc + 1 = pc') {d : Nat} (hk : ps_kd d = 9) {i : Int32} (hi : vp_in i 4) (k : ps_G (ps_Yc E) X r pc' lv (.ref (ps_ad E ((M d i.toNatClampNeg).toNatClampNeg)) :: st) M) : ps_G (ps_Yc E) X r pc lv (.int i :: .ref (ps_ad E d) :: st) M := by
  subst hp
  intro H locs ls hP hD hS hl
  obtain ⟨hx, hb, hml, hnL, hown, hts, hr, hlk, hK, hb0, hfr, hlo, hce, hsl⟩ := C
  exact va_aldq (D := E.1) (C := "PaperStations$Day") hx hb hK hP d 4 (ps_at_9 E M hk) rfl hi hd (by rw [show va_rf ((fun i : Nat => if i < 4 then some (ps_ad E ((M d i).toNatClampNeg)) else none) i.toNatClampNeg) = .ref (ps_ad E ((M d i.toNatClampNeg).toNatClampNeg)) from by simp [va_rf, ps_vlt hi]]; exact k H locs ls hP hD hS hl)
theorem gw_asD {E : ps_E} {ρ : Type} {X : ps_X ρ} {cc : ByteArray} {own : String} {ret : Option FieldType} {f n nL : Nat} (C : ps_C (ps_Yc E) X cc own ret f n nL) {r : ρ} {pc : Nat} {lv : List (Nat × Value)} {st : List Value} {M : ps_M} (pc' : Nat) (hd : decode cc pc = .ok (.aastore, 1)) (hp : pc + 1 = pc') {d g : Nat} (hk : ps_kd d = 9) (hg : ps_kd g = 2) {i : Int32} (hi : vp_in i 4) (k : ps_G (ps_Yc E) X r pc' lv st (ps_st M d i.toNatClampNeg (nI g))) : ps_G (ps_Yc E) X r pc lv (.ref (ps_ad E g) :: .int i :: .ref (ps_ad E d) :: st) M := by
  subst hp
  intro H locs ls hP hD hS hl
  obtain ⟨hx, hb, hml, hnL, hown, hts, hr, hlk, hK, hb0, hfr, hlo, hce, hsl⟩ := C
  refine va_astq (D := E.1) hx hb hK hP hD hS d 4 g 2 (ps_at_9 E M hk) rfl (ps_at_2 E M hg) rfl hi hd (fun H1 locs1 hP1 hD1 hS1 => ?_)
  have hgl := ps_kd_lt (k := g) (by omega)
  have e : (ps_wc E M).set d (ps_ad E d, ps_rw (va_up (fun i => if i < 4 then some (ps_ad E (M d i).toNatClampNeg) else none) i.toNatClampNeg (some (ps_ad E g))) (E.2.2.1 4) 4) = ps_wc E (ps_st M d i.toNatClampNeg (nI g)) := by
    refine ps_wc_set E (by omega) ?_ (fun j hj => ps_st_ne hj)
    rw [ps_cf_9 hk]
    congr 1
    funext a
    by_cases ha : a = i.toNatClampNeg
    · simp [ha, va_up, ps_st, nI_clamp (show g < 2 ^ 31 by omega), ps_vlt hi]
    · simp [ha, va_up, ps_st]
  exact k H1 locs1 ls (by show va_P _ _ (ps_wc E _) _; rw [← e]; exact hP1) (by show va_D _ (ps_wc E _); rw [← e]; exact hD1) hS1 hl
def ps_cln (k : Nat) : Nat := if ps_kd k = 5 then 15 else 30
theorem gw_copy {E : ps_E} {ρ : Type} {X : ps_X ρ} {cc : ByteArray} {own : String} {ret : Option FieldType} {f n nL : Nat} (C : ps_C (ps_Yc E) X cc own ret f n nL) {r : ρ} {pc : Nat} {lv : List (Nat × Value)} {st : List Value} {M : ps_M} (pc' : Nat) {z : Nat} (hd : decode cc pc = .ok (.invokestatic z, 3)) (hp : pc + 3 = pc') (hw : Cond.methodLink own z arraycopyName ∈ ps_T) {a b : Nat} (ha : ps_kd a = 5 ∨ ps_kd a = 12) (hb9 : ps_kd b = 5 ∨ ps_kd b = 12) {sp dp m9 : Int32} (h1 : ¬ sp < 0) (h2 : ¬ dp < 0) (h3 : ¬ m9 < 0) (h4 : sp.toNatClampNeg + m9.toNatClampNeg ≤ ps_cln a) (h5 : dp.toNatClampNeg + m9.toNatClampNeg ≤ ps_cln b) (hf : 1 ≤ f) (hn : (st.map fun v => v.category).sum + (nativeFrameWords "java/lang/System" "arraycopy" 5 + 11) ≤ n) (k : ps_G (ps_Yc E) X r pc' lv st (ps_cpy M a sp.toNatClampNeg b dp.toNatClampNeg m9.toNatClampNeg)) : ps_G (ps_Yc E) X r pc lv (.int m9 :: .int dp :: .ref (ps_ad E b) :: .int sp :: .ref (ps_ad E a) :: st) M := by
  subst hp
  intro H locs ls hP hD hS hl
  obtain ⟨hx, hb, hml, hnL, hown, hts, hr, hlk, hK, hb0, hfr, hlo, hce, hsl⟩ := C
  have hA : ps_kd a ≠ 0 ∧ ps_cf E.2.2.1 (ps_ad E) M a = .inl (E.2.2.1 0, ps_cln a, .inl (M a)) := by
    rcases ha with h | h
    · exact ⟨by omega, by rw [ps_cf_5 h, ps_cln, if_pos h]⟩
    · exact ⟨by omega, by rw [ps_cf_12 h, ps_cln, if_neg (by omega)]⟩
  have hB : ∀ M : ps_M, ps_kd b ≠ 0 ∧ ps_cf E.2.2.1 (ps_ad E) M b = .inl (E.2.2.1 0, ps_cln b, .inl (M b)) := by
    intro M
    rcases hb9 with h | h
    · exact ⟨by omega, by rw [ps_cf_5 h, ps_cln, if_pos h]⟩
    · exact ⟨by omega, by rw [ps_cf_12 h, ps_cln, if_neg (by omega)]⟩
  have hA9 : (ps_wc E M)[a]? = some (ps_ad E a, .inl (E.2.2.1 0, ps_cln a, .inl (M a))) := (ps_wc_at E M hA.1).trans (by rw [hA.2])
  have hB9 : (ps_wc E M)[b]? = some (ps_ad E b, .inl (E.2.2.1 0, ps_cln b, .inl (M b))) := (ps_wc_at E M (hB M).1).trans (by rw [(hB M).2])
  refine va_copyi (D := E.1) hx hb (by rw [hml]; exact hl.1.symm) hown (hts _ hw) (hts _ lkj_cpn) (hts _ lkj_cps) (hts _ lkj_sys) hK hP hD hS a b 0 0 hA9 hB9 rfl rfl rfl h1 h2 h3 h4 h5 (fun _ _ => rfl) (Nat.le_trans hf hfr) (Nat.le_trans hn hlo) hd (fun H1 locs1 hP1 hD1 hS1 => ?_)
  have e : (ps_wc E M).set b (ps_ad E b, .inl (E.2.2.1 0, ps_cln b, .inl (va_cpy (M a) (M b) sp.toNatClampNeg dp.toNatClampNeg m9.toNatClampNeg))) = ps_wc E (ps_cpy M a sp.toNatClampNeg b dp.toNatClampNeg m9.toNatClampNeg) := ps_wc_set E (hB M).1 (by rw [(hB _).2, ps_cpy_self]) (fun j hj => ps_cpy_ne hj)
  exact k H1 locs1 ls (by show va_P _ _ (ps_wc E _) _; rw [← e]; exact hP1) (by show va_D _ (ps_wc E _); rw [← e]; exact hD1) hS1 hl
