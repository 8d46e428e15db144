/-! ===== THE REFERENCE'S CELLS: 0 the object, 1 now, 2 past, 3 kept, 4 trial, 5 text, 6 numbers ===== -/
def pm_ln (k : Nat) : Nat := if k = 2 then 948 else if k < 5 then 237 else 60
def pm_f (ad : Nat → Nat) (M : ps_M) (k : Nat) : List Value := [.ref (ad (k + 1)), .ref (ad (k + 2)), .int (M k 2), .ref (ad (k + 3)), .int (M k 4), .ref (ad (k + 4)), .ref (ad (k + 5)), .int (M k 7), .ref (ad (k + 6)), .int (M k 9)]
def pm_cf (cid : Nat → ClassId) (ad : Nat → Nat) (M : ps_M) (k : Nat) : va_E := if k = 0 then .inr (6, pm_f ad M k) else .inl (cid 0, pm_ln k, .inl (M k))
def pm_wc (E : ps_E) (M : ps_M) : va_W := E.2.2.2.2 ++ (List.range 7).map (fun k => (ps_ad E k, pm_cf E.2.2.1 (ps_ad E) M k))
def pm_Y (E : ps_E) : ps_Y ps_M := (E.1, E.2.1, E.2.2.1, pm_wc E)
theorem pm_cf_congr {cid : Nat → ClassId} {ad : Nat → Nat} {M M' : ps_M} {k : Nat} (h : M' k = M k) : pm_cf cid ad M' k = pm_cf cid ad M k := by
  unfold pm_cf pm_f
  rw [h]
theorem pm_wc_at (E : ps_E) (M : ps_M) {k : Nat} (h : k < 7) : (pm_wc E M)[E.2.2.2.2.length + k]? = some (ps_ad E k, pm_cf E.2.2.1 (ps_ad E) M k) := by
  unfold pm_wc
  rw [List.getElem?_append_right (by omega), Nat.add_sub_cancel_left]
  simp [h]
theorem pm_wc_set (E : ps_E) {M M' : ps_M} {k : Nat} {e : va_E} (h : k < 7) (he : pm_cf E.2.2.1 (ps_ad E) M' k = e) (ho : ∀ j, j ≠ k → M' j = M j) : (pm_wc E M).set (E.2.2.2.2.length + k) (ps_ad E k, e) = pm_wc E M' := by
  unfold pm_wc
  rw [List.set_append_right _ _ (by omega), Nat.add_sub_cancel_left]
  congr 1
  apply List.ext_getElem?
  intro j
  by_cases hj : j = k
  · subst hj
    rw [List.getElem?_set_self (by simpa using h)]
    simp [h, he]
  · rw [List.getElem?_set_ne (Ne.symm hj)]
    simp only [List.getElem?_map]
    cases hr : (List.range 7)[j]? with
    | none => rfl
    | some i =>
      have hi : i = j := by
        rw [List.getElem?_range] at hr
        · exact (Option.some.inj hr).symm
        · have := (List.getElem?_eq_some_iff.mp hr).1
          simpa using this
      subst hi
      show some (ps_ad E i, pm_cf _ _ M i) = some (ps_ad E i, pm_cf _ _ M' i)
      rw [pm_cf_congr (ho i hj)]
theorem pm_at (E : ps_E) (M : ps_M) {k : Nat} (h : 1 ≤ k ∧ k < 7) : (pm_wc E M)[E.2.2.2.2.length + k]? = some (ps_ad E k, .inl (E.2.2.1 0, pm_ln k, .inl (M k))) := (pm_wc_at E M h.2).trans (by rw [pm_cf, if_neg (by omega)])
theorem pm_recv {E : ps_E} {M : ps_M} : ps_rc (pm_Y E) M (ps_ad E 0) RX6 := ⟨_, 6, (RX6, TX6, 10), _, rfl, rfl, (pm_wc_at E M (k := 0) (by omega))⟩
theorem gm_get {E : ps_E} {ρ : Type} {X : ps_X ρ} {cc : ByteArray} {own : String} {ret : Option FieldType} {f n nL : Nat} (C : ps_C (pm_Y E) X cc own ret f n nL) {r : ρ} {pc : Nat} {lv : List (Nat × Value)} {st : List Value} {M : ps_M} (pc' : Nat) {z : Nat} (hd : decode cc pc = .ok (.getfield z, 3)) (hp : pc + 3 = pc') (j : Nat) (hj : j < 10) (hw : Cond.fieldLink own z RX6 (TX6 j).2.1 (TX6 j).2.2.1 ∈ ps_T) (hs : (TX6 j).1 = RX6) {v : Value} (hv : (pm_f (ps_ad E) M 0)[j]? = some v) (k : ps_G (pm_Y E) X r pc' lv (v :: st) M) : ps_G (pm_Y E) X r pc lv (.ref (ps_ad E 0) :: st) M := by
  subst hp
  intro H locs ls hP hD hS hl
  obtain ⟨hx, hb, hml, hnL, hown, hts, hr, hlk, hK, hb0, hfr, hlo, hce, hsl⟩ := C
  exact va_get (D := E.1) (ci := 6) (C := RX6) (T := TX6) (N := 10) hx hb hts hinX6 hown hK hP (E.2.2.2.2.length + 0) (pm_wc_at E M (k := 0) (by omega)) rfl j hj (hts _ hw) (fun x h => by rw [← hs]; exact h) hv hd (k H locs ls hP hD hS hl)
theorem pm_set {E : ps_E} {M : ps_M} {j : Nat} (hj : j = 2 ∨ j = 4 ∨ j = 7 ∨ j = 9) (v : Int32) : (pm_wc E M).set (E.2.2.2.2.length + 0) (ps_ad E 0, .inr (6, (pm_f (ps_ad E) M 0).set j (.int v))) = pm_wc E (ps_st M 0 j v) := by
  refine pm_wc_set E (by omega) ?_ (fun i hi => ps_st_ne hi)
  rcases hj with rfl | rfl | rfl | rfl <;> simp [pm_cf, pm_f, ps_st]
theorem gm_put {E : ps_E} {ρ : Type} {X : ps_X ρ} {cc : ByteArray} {own : String} {ret : Option FieldType} {f n nL : Nat} (C : ps_C (pm_Y E) X cc own ret f n nL) {r : ρ} {pc : Nat} {lv : List (Nat × Value)} {st : List Value} {M : ps_M} (pc' : Nat) {z : Nat} (hd : decode cc pc = .ok (.putfield z, 3)) (hp : pc + 3 = pc') (j : Nat) (hj : j = 2 ∨ j = 4 ∨ j = 7 ∨ j = 9) (hw : Cond.fieldLink own z RX6 (TX6 j).2.1 (TX6 j).2.2.1 ∈ ps_T) (hs : (TX6 j).1 = RX6) {ty : FieldType} (hfin : (TX6 j).2.2.2 = false) (hty : parseFieldDescriptor (TX6 j).2.2.1 = some ty) {v : Int32} (hn9 : narrow ty (.int v) = .int v) (hfit : fits ty (.int v) = true) (k : ps_G (pm_Y E) X r pc' lv st (ps_st M 0 j v)) : ps_G (pm_Y E) X r pc lv (.int v :: .ref (ps_ad E 0) :: st) M := by
  subst hp
  intro H locs ls hP hD hS hl
  obtain ⟨hx, hb, hml, hnL, hown, hts, hr, hlk, hK, hb0, hfr, hlo, hce, hsl⟩ := C
  refine va_put (D := E.1) (ci := 6) (C := RX6) (T := TX6) (N := 10) hx hb hts hinX6 tyX6 tyX6_ok nmX6 hown hK hP hD hS (E.2.2.2.2.length + 0) (pm_wc_at E M (k := 0) (by omega)) rfl j (by omega) (hts _ hw) (fun x h => by rw [← hs]; exact h) hfin hty hn9 hfit (by show j < 10; omega) hd (fun H1 locs1 hP1 hD1 hS1 => ?_)
  have e := pm_set (E := E) (M := M) hj v
  exact k H1 locs1 ls (by show va_P _ _ (pm_wc E _) _; rw [← e]; exact hP1) (by show va_D _ (pm_wc E _); rw [← e]; exact hD1) hS1 hl
theorem gm_ld {E : ps_E} {ρ : Type} {X : ps_X ρ} {cc : ByteArray} {own : String} {ret : Option FieldType} {f n nL : Nat} (C : ps_C (pm_Y E) X cc own ret f n nL) {r : ρ} {pc : Nat} {lv : List (Nat × Value)} {st : List Value} {M : ps_M} (pc' : Nat) (hd : decode cc pc = .ok (.iaload, 1)) (hp : pc + 1 = pc') {d : Nat} (hk : 1 ≤ d ∧ d < 7) {i : Int32} (hi : vp_in i (pm_ln d)) (k : ps_G (pm_Y E) X r pc' lv (.int (M d i.toNatClampNeg) :: st) M) : ps_G (pm_Y E) X r pc lv (.int i :: .ref (ps_ad E d) :: st) M := by
  subst hp
  intro H locs ls hP hD hS hl
  obtain ⟨hx, hb, hml, hnL, hown, hts, hr, hlk, hK, hb0, hfr, hlo, hce, hsl⟩ := C
  exact va_iald (D := E.1) hx hb hK hP (E.2.2.2.2.length + d) 0 (pm_at E M hk) rfl hi hd (k H locs ls hP hD hS hl)
theorem gm_sv {E : ps_E} {ρ : Type} {X : ps_X ρ} {cc : ByteArray} {own : String} {ret : Option FieldType} {f n nL : Nat} (C : ps_C (pm_Y E) X cc own ret f n nL) {r : ρ} {pc : Nat} {lv : List (Nat × Value)} {st : List Value} {M : ps_M} (pc' : Nat) (hd : decode cc pc = .ok (.iastore, 1)) (hp : pc + 1 = pc') {d : Nat} (hk : 1 ≤ d ∧ d < 7) {i x : Int32} (hi : vp_in i (pm_ln d)) (k : ps_G (pm_Y E) X r pc' lv st (ps_st M d i.toNatClampNeg x)) : ps_G (pm_Y E) X r pc lv (.int x :: .int i :: .ref (ps_ad E d) :: st) M := by
  subst hp
  intro H locs ls hP hD hS hl
  obtain ⟨hx, hb, hml, hnL, hown, hts, hr, hlk, hK, hb0, hfr, hlo, hce, hsl⟩ := C
  refine va_iast (D := E.1) hx hb hK hP hD hS (E.2.2.2.2.length + d) 0 (pm_at E M hk) rfl hi hd (fun H1 locs1 hP1 hD1 hS1 => ?_)
  have e : (pm_wc E M).set (E.2.2.2.2.length + d) (ps_ad E d, .inl (E.2.2.1 0, pm_ln d, .inl (upd (M d) i.toNatClampNeg x))) = pm_wc E (ps_st M d i.toNatClampNeg x) := pm_wc_set E hk.2 (by rw [pm_cf, if_neg (by omega), ps_st_self]) (fun j hj => ps_st_ne hj)
  exact k H1 locs1 ls (by show va_P _ _ (pm_wc E _) _; rw [← e]; exact hP1) (by show va_D _ (pm_wc E _); rw [← e]; exact hD1) hS1 hl
