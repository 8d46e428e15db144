/-! ===== MAKINGS: the world is a list that grows; w0 is what was there, l what this constructor has so far ===== -/
def pn_cs {ρ : Type} (X : ps_X ρ) (c s : Nat) : ps_X ρ := (X.1, X.2.1, X.2.2.1, X.2.2.2.1, X.2.2.2.2.1, X.2.2.2.2.2.1, X.2.2.2.2.2.2.1, X.2.2.2.2.2.2.2.1, X.2.2.2.2.2.2.2.2.1, X.2.2.2.2.2.2.2.2.2.1, c, s, X.2.2.2.2.2.2.2.2.2.2.2.2.1, X.2.2.2.2.2.2.2.2.2.2.2.2.2)
def pn_Y (Z : va_G × Nat × (Nat → ClassId)) (w0 : va_W) : ps_Y va_W := (Z.1, Z.2.1, Z.2.2, fun l => w0 ++ l)
def pn_ao (U : State) : Prop := va_AO "PaperStations$Station" U ∧ va_AO "PaperStations$Clerk" U ∧ va_AO "PaperStations$Day" U
theorem pn_ao_moved {u U : State} (hvm : u.vm.Alike U.vm) (h : pn_ao u) : pn_ao U := ⟨h.1.moved hvm, h.2.1.moved hvm, h.2.2.moved hvm⟩
theorem pn_C {ρ : Type} {Y : ps_Y va_W} {X : ps_X ρ} {cc : ByteArray} {own : String} {ret : Option FieldType} {f n nL c0 s0 : Nat} (c s : Nat) (C : ps_C Y (pn_cs X c0 s0) cc own ret f n nL) (hc : c ≤ (ps_R X).cells) (hs : s ≤ (ps_R X).slots) : ps_C Y (pn_cs X c s) cc own ret f n nL := by
  obtain ⟨hx, hb, hml, hnL, hown, hts, hr, hlk, hK, hb0, hfr, hlo, hce, hsl⟩ := C
  exact ⟨hx, hb, hml, hnL, hown, hts, hr, hlk, hK, hb0, hfr, hlo, hc, hs⟩
theorem pn_at {w0 l : va_W} {j : Nat} {q : Nat × va_E} (h : l[j]? = some q) : (w0 ++ l)[w0.length + j]? = some q := by
  rw [List.getElem?_append_right (by omega), Nat.add_sub_cancel_left]; exact h
theorem pn_set {w0 l l' : va_W} {j : Nat} {q : Nat × va_E} (h : l.set j q = l') : (w0 ++ l).set (w0.length + j) q = w0 ++ l' := by
  rw [List.set_append_right _ _ (by omega), Nat.add_sub_cancel_left, h]
theorem pn_cid {D : va_G} {cl : List vw_C} {tys : List (ClassId × FieldType)} {U : State} {cA cB : ClassId} {ty : FieldType} {k : Nat} (hK : va_K D cl (tys ++ [(cA, ty)]) U) (hk : tys[k]? = some (cB, ty)) : cA = cB := by
  have h1 := (hK.2 tys.length (cA, ty) (by simp)).2
  have hl := (List.getElem?_eq_some_iff.mp hk).1
  have h2 := (hK.2 k (cB, ty) (by rw [List.getElem?_append_left hl]; exact hk)).2
  cases ty with
  | object C =>
    obtain ⟨_, _, _, _, _, g1⟩ := h1
    obtain ⟨_, _, _, _, _, g2⟩ := h2
    exact Option.some.inj (g1.symm.trans g2)
  | _ => exact Option.some.inj (h1.symm.trans h2)
theorem gn_oi {ρ : Type} {Z : va_G × Nat × (Nat → ClassId)} {w0 : va_W} {X : ps_X ρ} {cc : ByteArray} {own : String} {ret : Option FieldType} {f n nL c9 s9 : Nat} (C : ps_C (pn_Y Z w0) (pn_cs X c9 s9) cc own ret f n nL) {r : ρ} {pc : Nat} {lv : List (Nat × Value)} {st : List Value} {l : va_W} (pc' : Nat) {z : Nat} (hd : decode cc pc = .ok (.invokespecial z, 3)) (hp : pc + 3 = pc') (hl0 : Cond.methodLink own z objectInit ∈ ps_T) {a : Nat} (h1 : 1 ≤ f) (h2 : (st.map fun v => v.category).sum + 12 ≤ n) (k : ps_G (pn_Y Z w0) (pn_cs X c9 s9) r pc' lv st l) : ps_G (pn_Y Z w0) (pn_cs X c9 s9) r pc lv (.ref a :: st) l := by
  subst hp
  intro H locs ls hP hD hS hl
  obtain ⟨hx, hb, hml, hnL, hown, hts, hr, hlk, hK, hb0, hfr, hlo, hce, hsl⟩ := C
  exact W.objInit hx hb hown (hts _ hl0) (hts _ lkj_oi) (hts _ lkj_oic) rfl (by rw [hml]; exact hl.1) rfl hd (Nat.le_trans h1 hfr) (by show 2 * 0 + _ + 12 ≤ _; exact Nat.le_trans (by omega) hlo) (k H locs ls hP hD hS hl)
theorem gn_new {ρ : Type} {Z : va_G × Nat × (Nat → ClassId)} {w0 : va_W} {X : ps_X ρ} {cc : ByteArray} {own : String} {ret : Option FieldType} {f n nL c9 s9 : Nat} (C : ps_C (pn_Y Z w0) (pn_cs X c9 s9) cc own ret f n nL) {r : ρ} {pc : Nat} {lv : List (Nat × Value)} {st : List Value} {l : va_W} (pc' : Nat) {z : Nat} (hd : decode cc pc = .ok (.new z, 3)) (hp : pc + 3 = pc') {CN : String} {T9 : u_T} {N9 : Nat} (ci : Nat) (hin : ∀ w ∈ u_ws CN T9 N9, w ∈ ps_T) {ty : Nat → FieldType} (hty : ∀ k, k < N9 → parseFieldDescriptor (T9 k).2.2.1 = some (ty k)) (hcl : Cond.classLink own z CN ∈ ps_T) (hinst : Cond.instantiable CN N9 ∈ ps_T) (hini : Cond.initialized CN ∈ ps_T) (hc : vwCl[ci]? = some (CN, T9, N9)) {fs : List Value} (hfs : ∀ j, j < N9 → defaultValue (ty j) = vp_V fs j) (c1 s1 : Nat) (e1 : c9 + 1 = c1) (e2 : s9 + N9 = s1) (h1 : c1 ≤ (ps_R X).cells) (h2 : s1 ≤ (ps_R X).slots) (k : ∀ q : Nat, ps_G (pn_Y Z w0) (pn_cs X c1 s1) r pc' lv (.ref q :: st) (l ++ [(q, .inr (ci, fs))])) : ps_G (pn_Y Z w0) (pn_cs X c9 s9) r pc lv st l := by
  subst hp; subst e1; subst e2
  intro H locs ls hP hD hS hl
  obtain ⟨hx, hb, hml, hnL, hown, hts, hr, hlk, hK, hb0, hfr, hlo, hce, hsl⟩ := C
  refine va_new (D := Z.1) (ci := ci) (fs := fs) (C := CN) (T := T9) (N := N9) hx hb hts hin ty hty hown (hts _ hcl) (hts _ hinst) (hts _ hini) hK hP hD hS (fun q h => Nat.le_trans hb0 h) hc hfs h1 h2 hd (fun q H1 hP1 hD1 hS1 => ?_)
  exact k q H1 locs ls (by show va_P _ _ (w0 ++ (l ++ _)) _; rw [← List.append_assoc]; exact hP1) (by show va_D _ (w0 ++ (l ++ _)); rw [← List.append_assoc]; exact hD1) hS1 hl
theorem gn_newi {ρ : Type} {Z : va_G × Nat × (Nat → ClassId)} {w0 : va_W} {X : ps_X ρ} {cc : ByteArray} {own : String} {ret : Option FieldType} {f n nL c9 s9 : Nat} (C : ps_C (pn_Y Z w0) (pn_cs X c9 s9) cc own ret f n nL) {r : ρ} {pc : Nat} {lv : List (Nat × Value)} {st : List Value} {l : va_W} (pc' : Nat) (hd : decode cc pc = .ok (.newarray .int, 2)) (hp : pc + 2 = pc') {v : Int32} (N9 : Nat) (hv : ¬ v < 0) (hN : v.toNatClampNeg = N9) (hby : N9 * 4 ≤ 536870912) (c1 s1 : Nat) (e1 : c9 + 1 = c1) (e2 : s9 + N9 = s1) (h1 : c1 ≤ (ps_R X).cells) (h2 : s1 ≤ (ps_R X).slots) (k : ∀ q : Nat, ps_G (pn_Y Z w0) (pn_cs X c1 s1) r pc' lv (.ref q :: st) (l ++ [(q, .inl (Z.2.2 0, N9, .inl (fun _ => 0)))])) : ps_G (pn_Y Z w0) (pn_cs X c9 s9) r pc lv (.int v :: st) l := by
  subst hp; subst e1; subst e2
  intro H locs ls hP hD hS hl
  obtain ⟨hx, hb, hml, hnL, hown, hts, hr, hlk, hK, hb0, hfr, hlo, hce, hsl⟩ := C
  refine va_newa (D := Z.1) (atype := .int) (ty := .int) (a0 := (N9, .inl (fun _ => 0))) hx hb (hts _ lkj_ai) rfl hK hP hD hS (fun q h => Nat.le_trans hb0 h) (fun _ => rfl) hv hN hby h1 h2 hd (fun q cA H1 hK1 hP1 hD1 hS1 => ?_)
  have e := pn_cid hK1 (k := 0) (cB := Z.2.2 0) rfl
  subst e
  exact k q H1 locs ls (by show va_P _ _ (w0 ++ (l ++ _)) _; rw [← List.append_assoc]; exact hP1) (by show va_D _ (w0 ++ (l ++ _)); rw [← List.append_assoc]; exact hD1) hS1 hl
theorem gn_newc {ρ : Type} {Z : va_G × Nat × (Nat → ClassId)} {w0 : va_W} {X : ps_X ρ} {cc : ByteArray} {own : String} {ret : Option FieldType} {f n nL c9 s9 : Nat} (C : ps_C (pn_Y Z w0) (pn_cs X c9 s9) cc own ret f n nL) {r : ρ} {pc : Nat} {lv : List (Nat × Value)} {st : List Value} {l : va_W} (pc' : Nat) (hd : decode cc pc = .ok (.newarray .char, 2)) (hp : pc + 2 = pc') {v : Int32} (N9 : Nat) (hv : ¬ v < 0) (hN : v.toNatClampNeg = N9) (hby : N9 * 2 ≤ 536870912) (c1 s1 : Nat) (e1 : c9 + 1 = c1) (e2 : s9 + N9 = s1) (h1 : c1 ≤ (ps_R X).cells) (h2 : s1 ≤ (ps_R X).slots) (k : ∀ q : Nat, ps_G (pn_Y Z w0) (pn_cs X c1 s1) r pc' lv (.ref q :: st) (l ++ [(q, .inl (Z.2.2 1, N9, .inl (fun _ => 0)))])) : ps_G (pn_Y Z w0) (pn_cs X c9 s9) r pc lv (.int v :: st) l := by
  subst hp; subst e1; subst e2
  intro H locs ls hP hD hS hl
  obtain ⟨hx, hb, hml, hnL, hown, hts, hr, hlk, hK, hb0, hfr, hlo, hce, hsl⟩ := C
  refine va_newa (D := Z.1) (atype := .char) (ty := .char) (a0 := (N9, .inl (fun _ => 0))) hx hb (hts _ lkj_ac) rfl hK hP hD hS (fun q h => Nat.le_trans hb0 h) (fun _ => rfl) hv hN hby h1 h2 hd (fun q cA H1 hK1 hP1 hD1 hS1 => ?_)
  have e := pn_cid hK1 (k := 1) (cB := Z.2.2 1) rfl
  subst e
  exact k q H1 locs ls (by show va_P _ _ (w0 ++ (l ++ _)) _; rw [← List.append_assoc]; exact hP1) (by show va_D _ (w0 ++ (l ++ _)); rw [← List.append_assoc]; exact hD1) hS1 hl
theorem gn_newq {ρ : Type} {Z : va_G × Nat × (Nat → ClassId)} {w0 : va_W} {X : ps_X ρ} {cc : ByteArray} {own : String} {ret : Option FieldType} {f n nL c9 s9 : Nat} (C : ps_C (pn_Y Z w0) (pn_cs X c9 s9) cc own ret f n nL) {r : ρ} {pc : Nat} {lv : List (Nat × Value)} {st : List Value} {l : va_W} (pc' : Nat) {z : Nat} (hd : decode cc pc = .ok (.anewarray z, 3)) (hp : pc + 3 = pc') {CN : String} (hcl : Cond.classLink own z CN ∈ ps_T) (hao : va_AO CN (ps_s X)) (t9 : Nat) (ht9 : (ps_tys Z.2.2)[t9]? = some (Z.2.2 t9, .object CN)) {v : Int32} (N9 : Nat) (hv : ¬ v < 0) (hN : v.toNatClampNeg = N9) (hby : N9 * 4 ≤ 536870912) (c1 s1 : Nat) (e1 : c9 + 1 = c1) (e2 : s9 + N9 = s1) (h1 : c1 ≤ (ps_R X).cells) (h2 : s1 ≤ (ps_R X).slots) (k : ∀ q : Nat, ps_G (pn_Y Z w0) (pn_cs X c1 s1) r pc' lv (.ref q :: st) (l ++ [(q, ps_rw (fun _ => none) (Z.2.2 t9) N9)])) : ps_G (pn_Y Z w0) (pn_cs X c9 s9) r pc lv (.int v :: st) l := by
  subst hp; subst e1; subst e2
  intro H locs ls hP hD hS hl
  obtain ⟨hx, hb, hml, hnL, hown, hts, hr, hlk, hK, hb0, hfr, hlo, hce, hsl⟩ := C
  refine va_newq (D := Z.1) (C := CN) hx hb hown (hts _ hcl) hao hK hP hD hS (fun q h => Nat.le_trans hb0 h) hv hN hby h1 h2 hd (fun q cA H1 hK1 hP1 hD1 hS1 => ?_)
  have e := pn_cid hK1 (k := t9) (cB := Z.2.2 t9) ht9
  subst e
  exact k q H1 locs ls (by show va_P _ _ (w0 ++ (l ++ _)) _; rw [← List.append_assoc]; exact hP1) (by show va_D _ (w0 ++ (l ++ _)); rw [← List.append_assoc]; exact hD1) hS1 hl
theorem gn_get {ρ : Type} {Z : va_G × Nat × (Nat → ClassId)} {w0 : va_W} {X : ps_X ρ} {cc : ByteArray} {own : String} {ret : Option FieldType} {f n nL c9 s9 : Nat} (C : ps_C (pn_Y Z w0) (pn_cs X c9 s9) cc own ret f n nL) {r : ρ} {pc : Nat} {lv : List (Nat × Value)} {st : List Value} {l : va_W} (pc' : Nat) {z : Nat} (hd : decode cc pc = .ok (.getfield z, 3)) (hp : pc + 3 = pc') {CN : String} {T9 : u_T} {N9 ci : Nat} (hin : ∀ w ∈ u_ws CN T9 N9, w ∈ ps_T) (hc : vwCl[ci]? = some (CN, T9, N9)) (j : Nat) {a : Nat} {fs : List Value} (hl9 : l[j]? = some (a, .inr (ci, fs))) (i : Nat) (hi : i < N9) (hw : Cond.fieldLink own z CN (T9 i).2.1 (T9 i).2.2.1 ∈ ps_T) (hs : (T9 i).1 = CN) {v : Value} (hv : fs[i]? = some v) (k : ps_G (pn_Y Z w0) (pn_cs X c9 s9) r pc' lv (v :: st) l) : ps_G (pn_Y Z w0) (pn_cs X c9 s9) r pc lv (.ref a :: st) l := by
  subst hp
  intro H locs ls hP hD hS hl
  obtain ⟨hx, hb, hml, hnL, hown, hts, hr, hlk, hK, hb0, hfr, hlo, hce, hsl⟩ := C
  exact va_get (D := Z.1) (ci := ci) (C := CN) (T := T9) (N := N9) hx hb hts hin hown hK hP (w0.length + j) (pn_at hl9) hc i hi (hts _ hw) (fun x h => by rw [← hs]; exact h) hv hd (k H locs ls hP hD hS hl)
theorem gn_putF {ρ : Type} {Z : va_G × Nat × (Nat → ClassId)} {w0 : va_W} {X : ps_X ρ} {cc : ByteArray} {own : String} {ret : Option FieldType} {f n nL c9 s9 : Nat} (C : ps_C (pn_Y Z w0) (pn_cs X c9 s9) cc own ret f n nL) {r : ρ} {pc : Nat} {lv : List (Nat × Value)} {st : List Value} {l : va_W} (pc' : Nat) {z : Nat} (hd : decode cc pc = .ok (.putfield z, 3)) (hp : pc + 3 = pc') {T9 : u_T} {N9 ci : Nat} (hin : ∀ w ∈ u_ws own T9 N9, w ∈ ps_T) {ty9 : Nat → FieldType} (hty9 : ∀ k, k < N9 → parseFieldDescriptor (T9 k).2.2.1 = some (ty9 k)) (hnm : ∀ a, a < N9 → ∀ b, b < N9 → a ≠ b → (T9 a).2.1 ≠ (T9 b).2.1) (hc : vwCl[ci]? = some (own, T9, N9)) (hin2 : (ps_meth X).name = "<init>") (j : Nat) {a : Nat} {fs : List Value} (hl9 : l[j]? = some (a, .inr (ci, fs))) (i : Nat) (hi : i < N9) (hw : Cond.fieldLink own z own (T9 i).2.1 (T9 i).2.2.1 ∈ ps_T) (hs : (T9 i).1 = own) (hfin : (T9 i).2.2.2 = true) {ty : FieldType} {q : Nat} (hdd : parseFieldDescriptor (T9 i).2.2.1 = some ty) (hn9 : narrow ty (.ref q) = .ref q) (hfit : fits ty (.ref q) = true) (hlen : i < fs.length) (l' : va_W) (hl' : l.set j (a, .inr (ci, fs.set i (.ref q))) = l') (k : ps_G (pn_Y Z w0) (pn_cs X c9 s9) r pc' lv st l') : ps_G (pn_Y Z w0) (pn_cs X c9 s9) r pc lv (.ref q :: .ref a :: st) l := by
  subst hp
  intro H locs ls hP hD hS hl
  obtain ⟨hx, hb, hml, hnL, hown, hts, hr, hlk, hK, hb0, hfr, hlo, hce, hsl⟩ := C
  refine va_putF (D := Z.1) (ci := ci) (C := own) (T := T9) (N := N9) hx hb hts hin ty9 hty9 hnm hown hK hP hD hS (w0.length + j) (pn_at hl9) hc i hi (hts _ hw) (fun x h => by rw [← hs]; exact h) hfin hin2 hs hdd hn9 hfit hlen hd (fun H1 locs1 hP1 hD1 hS1 => ?_)
  have e := pn_set (w0 := w0) hl'
  exact k H1 locs1 ls (by show va_P _ _ (w0 ++ l') _; rw [← e]; exact hP1) (by show va_D _ (w0 ++ l'); rw [← e]; exact hD1) hS1 hl
theorem gn_puti {ρ : Type} {Z : va_G × Nat × (Nat → ClassId)} {w0 : va_W} {X : ps_X ρ} {cc : ByteArray} {own : String} {ret : Option FieldType} {f n nL c9 s9 : Nat} (C : ps_C (pn_Y Z w0) (pn_cs X c9 s9) cc own ret f n nL) {r : ρ} {pc : Nat} {lv : List (Nat × Value)} {st : List Value} {l : va_W} (pc' : Nat) {z : Nat} (hd : decode cc pc = .ok (.putfield z, 3)) (hp : pc + 3 = pc') {T9 : u_T} {N9 ci : Nat} (hin : ∀ w ∈ u_ws own T9 N9, w ∈ ps_T) {ty9 : Nat → FieldType} (hty9 : ∀ k, k < N9 → parseFieldDescriptor (T9 k).2.2.1 = some (ty9 k)) (hnm : ∀ a, a < N9 → ∀ b, b < N9 → a ≠ b → (T9 a).2.1 ≠ (T9 b).2.1) (hc : vwCl[ci]? = some (own, T9, N9)) (j : Nat) {a : Nat} {fs : List Value} (hl9 : l[j]? = some (a, .inr (ci, fs))) (i : Nat) (hi : i < N9) (hw : Cond.fieldLink own z own (T9 i).2.1 (T9 i).2.2.1 ∈ ps_T) (hs : (T9 i).1 = own) (hfin : (T9 i).2.2.2 = false) {v : Int32} (hdd : parseFieldDescriptor (T9 i).2.2.1 = some .int) (hlen : i < fs.length) (l' : va_W) (hl' : l.set j (a, .inr (ci, fs.set i (.int v))) = l') (k : ps_G (pn_Y Z w0) (pn_cs X c9 s9) r pc' lv st l') : ps_G (pn_Y Z w0) (pn_cs X c9 s9) r pc lv (.int v :: .ref a :: st) l := by
  subst hp
  intro H locs ls hP hD hS hl
  obtain ⟨hx, hb, hml, hnL, hown, hts, hr, hlk, hK, hb0, hfr, hlo, hce, hsl⟩ := C
  refine va_put (D := Z.1) (ci := ci) (C := own) (T := T9) (N := N9) hx hb hts hin ty9 hty9 hnm hown hK hP hD hS (w0.length + j) (pn_at hl9) hc i hi (hts _ hw) (fun x h => by rw [← hs]; exact h) hfin hdd rfl rfl hlen hd (fun H1 locs1 hP1 hD1 hS1 => ?_)
  have e := pn_set (w0 := w0) hl'
  exact k H1 locs1 ls (by show va_P _ _ (w0 ++ l') _; rw [← e]; exact hP1) (by show va_D _ (w0 ++ l'); rw [← e]; exact hD1) hS1 hl
theorem gn_ast {ρ : Type} {Z : va_G × Nat × (Nat → ClassId)} {w0 : va_W} {X : ps_X ρ} {cc : ByteArray} {own : String} {ret : Option FieldType} {f n nL c9 s9 : Nat} (C : ps_C (pn_Y Z w0) (pn_cs X c9 s9) cc own ret f n nL) {r : ρ} {pc : Nat} {lv : List (Nat × Value)} {st : List Value} {l : va_W} (pc' : Nat) (hd : decode cc pc = .ok (.aastore, 1)) (hp : pc + 1 = pc') (t9 : Nat) {CN : String} {T9 : u_T} {N9 ci : Nat} (hc : vwCl[ci]? = some (CN, T9, N9)) (ht9 : (ps_tys Z.2.2)[t9]? = some (Z.2.2 t9, .object CN)) (j : Nat) {a m9 : Nat} {g : Nat → Option Nat} (hl9 : l[j]? = some (a, ps_rw g (Z.2.2 t9) m9)) (jk : Nat) {q : Nat} {fs : List Value} (hk9 : l[jk]? = some (q, .inr (ci, fs))) {i : Int32} (x : Nat) (hi : vp_in i m9) (hx9 : i.toNatClampNeg = x) (l' : va_W) (hl' : l.set j (a, ps_rw (va_up g x (some q)) (Z.2.2 t9) m9) = l') (k : ps_G (pn_Y Z w0) (pn_cs X c9 s9) r pc' lv st l') : ps_G (pn_Y Z w0) (pn_cs X c9 s9) r pc lv (.ref q :: .int i :: .ref a :: st) l := by
  subst hp; subst hx9
  intro H locs ls hP hD hS hl
  obtain ⟨hx, hb, hml, hnL, hown, hts, hr, hlk, hK, hb0, hfr, hlo, hce, hsl⟩ := C
  refine va_astq (D := Z.1) hx hb hK hP hD hS (w0.length + j) t9 (w0.length + jk) ci (pn_at hl9) (r := (CN, T9, N9)) ht9 (pn_at hk9) hc hi hd (fun H1 locs1 hP1 hD1 hS1 => ?_)
  have e := pn_set (w0 := w0) hl'
  exact k H1 locs1 ls (by show va_P _ _ (w0 ++ l') _; rw [← e]; exact hP1) (by show va_D _ (w0 ++ l'); rw [← e]; exact hD1) hS1 hl
theorem gn_icge_n {ρ : Type} {Z : va_G × Nat × (Nat → ClassId)} {w0 : va_W} {X : ps_X ρ} {cc : ByteArray} {own : String} {ret : Option FieldType} {f n nL c9 s9 : Nat} (C : ps_C (pn_Y Z w0) (pn_cs X c9 s9) cc own ret f n nL) {r : ρ} {pc : Nat} {lv : List (Nat × Value)} {st : List Value} {l : va_W} (pc' : Nat) {x y : Int32} {off : Int} (tgt : Nat) (hd : decode cc pc = .ok (.if_icmp .ge off, 3)) (ht : (pc : Int) + off = (tgt : Int)) (hp : pc + 3 = pc') (h : ¬ y ≤ x) (k : ps_G (pn_Y Z w0) (pn_cs X c9 s9) r pc' lv st l) : ps_G (pn_Y Z w0) (pn_cs X c9 s9) r pc lv (.int y :: .int x :: st) l := by
  subst hp
  intro H locs ls hP hD hS hl
  obtain ⟨hx, hb, hml, hnL, hown, hts, hr, hlk, hK, hb0, hfr, hlo, hce, hsl⟩ := C
  exact lv_icmp_ge hx hb hd ht (fun c => absurd c h) (fun _ => k H locs ls hP hD hS hl)
theorem gn_icge_y {ρ : Type} {Z : va_G × Nat × (Nat → ClassId)} {w0 : va_W} {X : ps_X ρ} {cc : ByteArray} {own : String} {ret : Option FieldType} {f n nL c9 s9 : Nat} (C : ps_C (pn_Y Z w0) (pn_cs X c9 s9) cc own ret f n nL) {r : ρ} {pc : Nat} {lv : List (Nat × Value)} {st : List Value} {l : va_W} {x y : Int32} {off : Int} (tgt : Nat) (hd : decode cc pc = .ok (.if_icmp .ge off, 3)) (ht : (pc : Int) + off = (tgt : Int)) (h : y ≤ x) (k : ps_G (pn_Y Z w0) (pn_cs X c9 s9) r tgt lv st l) : ps_G (pn_Y Z w0) (pn_cs X c9 s9) r pc lv (.int y :: .int x :: st) l := by
  intro H locs ls hP hD hS hl
  obtain ⟨hx, hb, hml, hnL, hown, hts, hr, hlk, hK, hb0, hfr, hlo, hce, hsl⟩ := C
  exact lv_icmp_ge hx hb hd ht (fun _ => k H locs ls hP hD hS hl) (fun c => absurd h c)
def pn_Wd (Z : va_G × Nat × (Nat → ClassId)) (l : va_W) (t : State) : Prop := va_P Z.1 vwCl l t.heap ∧ va_K Z.1 vwCl (ps_tys Z.2.2) t ∧ va_D (fun q => Z.2.1 ≤ q) l
/-- a constructor's contract -/
def pn_CC (Z : va_G × Nat × (Nat → ClassId)) (l : Launch) (y : MethodName) (cc : ByteArray) (nL f n mc ms : Nat) (blank : va_E) (cells : (Nat → Nat) → va_W) : Prop := ∀ (w0 : va_W) (a : Nat),
  Met l y (.code y cc nL none :: ps_T) { frames := f, cells := mc, slots := ms, locals := n } (va_Pc [.ref a] (fun U => Z.2.1 ≤ U.heap.size ∧ pn_Wd Z (w0 ++ [(a, blank)]) U ∧ pn_ao U)) (va_Qv (fun u : Nat → Nat => u 0 = a) (fun u t => pn_Wd Z (w0 ++ cells u) t) (fun q => Z.2.1 ≤ q)) mc ms (fun q => Z.2.1 ≤ q)
theorem pn_met {Z : va_G × Nat × (Nat → ClassId)} {l : Launch} {y : MethodName} {cc : ByteArray} {nL f n mc ms : Nat} {blank : va_E} {cells : (Nat → Nat) → va_W} (own : String) (hy : plainName y.cls = true) (hown : y.cls = own) (hy1 : y.name = "<init>") (hlen : 1 ≤ nL)
    (k : ∀ (w0 : va_W) (a : Nat) (X : ps_X Unit), ps_l X = l → ps_C (pn_Y Z w0) (pn_cs X 0 0) cc own none f n nL → mc ≤ (ps_R X).cells → ms ≤ (ps_R X).slots → pn_ao (ps_s X) → (ps_meth X).name = "<init>" → (∀ (u : Nat → Nat) (pc : Nat) (lv : List (Nat × Value)), u 0 = a → decode cc pc = .ok (.return_, 1) → ps_G (pn_Y Z w0) (pn_cs X mc ms) () pc lv [] (cells u)) → ps_G (pn_Y Z w0) (pn_cs X 0 0) () 0 [(0, .ref a)] [] [(a, blank)]) : pn_CC Z l y cc nL f n mc ms blank cells := by
  intro w0 a
  refine Met.ofW (cc := cc) (maxL := nL) (ret := none) hy rfl ?_
  intro p e s m args below meth c s₁ B hml hv
  obtain ⟨rfl, hb0, ⟨hP, hK, hD⟩, hao⟩ := hv
  have hts := atoms_spec (ws := .code y cc nL none :: ps_T) B.pre
  have hfc : s.vm.findClass own = some m.cls := by rw [← hown]; exact findClass_of_methodNamed B.named
  have hr := B.returns
  have hlk := B.notSynchronized
  have hx := B.exec
  have hb := B.bytes
  have hin : meth.name = "<init>" := (name_of_methodNamed B.named B.method).1.trans hy1
  have key := k w0 a (p, l, e, { frames := f, cells := mc, slots := ms, locals := n }, s, m, [Value.ref a].toArray, below, meth, c, 0, 0, nL, fun _ => MQ below (va_Qv (fun u : Nat → Nat => u 0 = a) (fun u t => pn_Wd Z (w0 ++ cells u) t) (fun q => Z.2.1 ≤ q)) [Value.ref a].toArray s mc ms (fun q => Z.2.1 ≤ q)) rfl
    ⟨hx, hb, hml, rfl, hfc, fun w h => hts w (List.mem_cons_of_mem _ h), hr, hlk, hK, hb0, Nat.le_refl _, Nat.le_refl _, Nat.zero_le _, Nat.zero_le _⟩ (Nat.le_refl _) (Nat.le_refl _) hao hin ?_
  · rw [lg_entry_eq]
    exact key s.heap [] _ hP hD va_S.rf (lv_entry [Value.ref a] hlen)
  · intro u pc lv' hu hdg H locs ls hP1 hD1 hS hl
    exact W.vret hx hb hr (fun t ht hW => ⟨⟨u, rfl, hu, by rw [ht]; exact hP1, va_K.moved hW.alike hK, hD1⟩, hS.F ht⟩) hS.2.2 hdg
/-- what the tables say of a constructor -/
def pn_yv (y : MethodName) (cy : ByteArray) (nLy : Nat) (CN : String) : Prop := (Cond.instanceMethod y ∈ ps_T ∧ Cond.initialized CN ∈ ps_T ∧ Cond.code y cy nLy none ∈ ps_T) ∧ y.cls = CN ∧ y.name = "<init>" ∧ (y.cls ≠ "java/lang/invoke/MethodHandle" ∧ y.cls ≠ "java/lang/invoke/VarHandle" ∧ (parseMethodDescriptor y.desc).map (fun d => d.parameters.length) = some 0)
theorem gn_ctor {ρ : Type} {Z : va_G × Nat × (Nat → ClassId)} {w0 : va_W} {X : ps_X ρ} {cc : ByteArray} {own : String} {ret : Option FieldType} {f n nL c9 s9 : Nat} (C : ps_C (pn_Y Z w0) (pn_cs X c9 s9) cc own ret f n nL) {r : ρ} {pc : Nat} {lv : List (Nat × Value)} {st : List Value} {l : va_W} (pc' : Nat) {z : Nat} (hd : decode cc pc = .ok (.invokespecial z, 3)) (hp : pc + 3 = pc') {y : MethodName} {cy : ByteArray} {nLy fy ny mc ms : Nat} {CN : String} (hy : pn_yv y cy nLy CN) (hl0 : Cond.methodLink own z y ∈ ps_T) {a : Nat} {blank : va_E} {cells : (Nat → Nat) → va_W} (hc : pn_CC Z (ps_l X) y cy nLy fy ny mc ms blank cells) (l1 : va_W) (hl1 : l1 ++ [(a, blank)] = l) (hcat : (st.map fun v => v.category).sum ≤ 8) (hf : fy + 1 ≤ f) (hn : 8 + (nLy + 11) + ny ≤ n) (hao : pn_ao (ps_s X)) (c1 s1 : Nat) (e1 : c9 + mc = c1) (e2 : s9 + ms = s1) (h1 : c1 ≤ (ps_R X).cells) (h2 : s1 ≤ (ps_R X).slots) (k : ∀ u : Nat → Nat, u 0 = a → ps_G (pn_Y Z w0) (pn_cs X c1 s1) r pc' lv st (l1 ++ cells u)) : ps_G (pn_Y Z w0) (pn_cs X c9 s9) r pc lv (.ref a :: st) l := by
  subst hp; subst e1; subst e2; subst hl1
  intro H locs ls hP hD hS hl
  obtain ⟨hx, hb, hml, hnL, hown, hts, hr, hlk, hK, hb0, hfr, hlo, hce, hsl⟩ := C
  have hz : Z.2.1 ≤ H.size := Nat.le_trans hb0 hS.1
  have hP' : va_P Z.1 vwCl ((w0 ++ l1) ++ [(a, blank)]) H := by rw [List.append_assoc]; exact hP
  have hD' : va_D (fun q => Z.2.1 ≤ q) ((w0 ++ l1) ++ [(a, blank)]) := by rw [List.append_assoc]; exact hD
  have hgood : GoodIn ps_T (.code y cy nLy none :: ps_T) := by
    intro w hw
    rcases List.mem_cons.mp hw with rfl | h
    · exact ps_good hy.1.2.2
    · exact ps_good h
  refine va_callv (va_runI (As := []) (rest := st) (Ts := ps_T) ⟨hx, hb, hml, hown, hts⟩ (hc (w0 ++ l1) a) (cwI 0 hts hgood rfl rfl rfl (by rw [hy.2.1]; exact hts _ hy.1.2.1) (hts _ hl0) (hts _ hy.1.1) hy.2.2.1 hy.2.2.2 ⟨Nat.le_trans hf hfr, Nat.le_trans hn hlo⟩) ⟨?_, ?_⟩ rfl rfl hl.1 rfl (lv_room hcat) hd ⟨h1, h2⟩) hS (fun q _ h => h) (fun q h => h) (fun u t H1 locs1 ht hvm hw hB hz1 hk1 hS1 => ?_)
  · intro a' U g mk q
    obtain ⟨q0, q1, ⟨qP, qK, qD⟩, qa⟩ := q
    exact ⟨q0, q1, ⟨qP, va_K.moved (u := U) (U := U.calling g mk a') (Vm.Alike.refl U.vm) qK, qD⟩, pn_ao_moved (u := U) (U := U.calling g mk a') (Vm.Alike.refl U.vm) qa⟩
  · intro U hU hW
    exact ⟨rfl, by rw [hU]; exact hz, ⟨by rw [hU]; exact hP', va_K.moved hW.alike hK, hD'⟩, pn_ao_moved hW.alike hao⟩
  · obtain ⟨hP1, hK1, hD1⟩ := hB
    rw [ht] at hP1
    exact k u hw H1 locs1 ls (by show va_P _ _ (w0 ++ (l1 ++ cells u)) _; rw [← List.append_assoc]; exact hP1) (by show va_D _ (w0 ++ (l1 ++ cells u)); rw [← List.append_assoc]; exact hD1) hS1 hl
