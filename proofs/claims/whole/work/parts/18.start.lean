theorem law_from {Z : va_G × Nat × (Nat → ClassId)} {X : ps_X Unit} (C : ps_C (pn_Y Z []) (pn_cs X 0 0) cL_law RL (some .boolean) 10 370 4) (hmc : 600000 ≤ (ps_R X).cells) (hms : 7302250 ≤ (ps_R X).slots) (hxc : ps_cells X = 600000) (hxs : ps_slots X = 7302250) (hao : pn_ao (ps_s X)) {b L : Nat} {xs : Nat → Int32} (hX : va_X b L xs (ps_s X) (ps_s X).heap ∧ b < (ps_s X).heap.size ∧ ¬ Z.2.1 ≤ b) (hL : L ≤ 2048) (Rel : ps_M → ps_M → Prop) (sm : pl_sims Rel) (h0 : Rel pn_M0 pn_N0) (RT : ∀ Q : pl_Q, Q.2.1 = Z.2.1 → ∀ (M : ps_M × ps_M) (pc : Nat) (lv : List (Nat × Value)), decode cL_law pc = .ok (.ireturn, 1) → ps_G (pl_Y Q) X () pc lv [.int 1] M) : ps_G (pn_Y Z []) (pn_cs X 0 0) () 0 [(0, .ref b)] [] [] := by
  obtain ⟨D, b0, cid⟩ := Z
  refine gn_new C 3 dL_law_0 rfl 5 hinX5 tyX5_ok lk_L_7 lkn_X5 lki_X5 rfl (fs := [.null, .null, .null, .int 0, .null, .null, .null]) (fun j hj => by rcases (show j = 0 ∨ j = 1 ∨ j = 2 ∨ j = 3 ∨ j = 4 ∨ j = 5 ∨ j = 6 by omega) with rfl | rfl | rfl | rfl | rfl | rfl | rfl <;> rfl) 1 7 rfl rfl (Nat.le_trans (Nat.le_of_ble_eq_true rfl) hmc) (Nat.le_trans (Nat.le_of_ble_eq_true rfl) hms) (fun q0 => ?_)
  have C1 := pn_C 1 7 C (Nat.le_trans (Nat.le_of_ble_eq_true rfl) hmc) (Nat.le_trans (Nat.le_of_ble_eq_true rfl) hms)
  refine gw_dup C1 4 dL_law_3 rfl rfl ?_
  refine gn_ctor C1 7 dL_law_4 rfl yc_X5 lk_L_9 (ct_X5_init (l := ps_l X) (Z := (D, b0, cid))) [] rfl (Nat.le_of_ble_eq_true rfl) (Nat.le_of_ble_eq_true rfl) (Nat.le_of_ble_eq_true rfl) hao 197 1975 rfl rfl (Nat.le_trans (Nat.le_of_ble_eq_true rfl) hmc) (Nat.le_trans (Nat.le_of_ble_eq_true rfl) hms) (fun u hu => ?_)
  subst hu
  have C2 := pn_C 197 1975 C (Nat.le_trans (Nat.le_of_ble_eq_true rfl) hmc) (Nat.le_trans (Nat.le_of_ble_eq_true rfl) hms)
  refine gw_astore_n C2 8 dL_law_7 rfl [(0, .ref b), (1, .ref (u 0))] [1, 0] (by decide) rfl ?_
  refine gn_new C2 11 dL_law_8 rfl 6 hinX6 tyX6_ok lk_L_10 lkn_X6 lki_X6 rfl (fs := [.null, .null, .int 0, .null, .int 0, .null, .null, .int 0, .null, .int 0]) (fun j hj => by rcases (show j = 0 ∨ j = 1 ∨ j = 2 ∨ j = 3 ∨ j = 4 ∨ j = 5 ∨ j = 6 ∨ j = 7 ∨ j = 8 ∨ j = 9 by omega) with rfl | rfl | rfl | rfl | rfl | rfl | rfl | rfl | rfl | rfl <;> rfl) 198 1985 rfl rfl (Nat.le_trans (Nat.le_of_ble_eq_true rfl) hmc) (Nat.le_trans (Nat.le_of_ble_eq_true rfl) hms) (fun q1 => ?_)
  have C3 := pn_C 198 1985 C (Nat.le_trans (Nat.le_of_ble_eq_true rfl) hmc) (Nat.le_trans (Nat.le_of_ble_eq_true rfl) hms)
  refine gw_dup C3 12 dL_law_11 rfl rfl ?_
  refine gn_ctor C3 15 dL_law_12 rfl yc_X6 lk_L_12 (ct_X6_init (l := ps_l X) (Z := (D, b0, cid))) ([] ++ pn_P (D, b0, cid) u) rfl (Nat.le_of_ble_eq_true rfl) (Nat.le_of_ble_eq_true rfl) (Nat.le_of_ble_eq_true rfl) hao 204 3764 rfl rfl (Nat.le_trans (Nat.le_of_ble_eq_true rfl) hmc) (Nat.le_trans (Nat.le_of_ble_eq_true rfl) hms) (fun v hv => ?_)
  subst hv
  have C4 := pn_C 204 3764 C (Nat.le_trans (Nat.le_of_ble_eq_true rfl) hmc) (Nat.le_trans (Nat.le_of_ble_eq_true rfl) hms)
  refine gw_astore_n C4 16 dL_law_15 rfl [(0, .ref b), (1, .ref (u 0)), (2, .ref (v 0))] [1, 2, 0] (by decide) rfl ?_
  refine gw_iconst C4 17 dL_law_16 (v := 0) (by decide) rfl ?_
  refine gw_istore_n C4 18 dL_law_17 rfl [(0, .ref b), (1, .ref (u 0)), (2, .ref (v 0)), (3, .int (nI 0))] [1, 2, 3, 0] (by decide) rfl ?_
  obtain ⟨hx, hb, hml, hnL, hown, hts, hr, hlk, hK, hb0, hfr, hlo, hce, hsl⟩ := C
  have C' : ps_C (pl_Y (D, b0, cid, u, v)) X cL_law RL (some .boolean) 10 370 4 := ⟨hx, hb, hml, hnL, hown, hts, hr, hlk, hK, hb0, hfr, hlo, by rw [hxc]; exact hmc, by rw [hxs]; exact hms⟩
  have key := law_loop C' (b := b) (L := L) (xs := xs) hX hL Rel sm (RT _ rfl) (L + 4) 0 (by omega) (by omega) pn_M0 pn_N0 h0
  intro H locs ls hP hD hS hl
  have e1 := pn_wc (D, b0, cid, u, v)
  have e2 := pn_wm (D, b0, cid, u, v)
  have hP : va_P D vwCl ([] ++ (([] ++ pn_P (D, b0, cid) u) ++ pn_M (D, b0, cid) v)) H := hP
  have hD : va_D (fun q => b0 ≤ q) ([] ++ (([] ++ pn_P (D, b0, cid) u) ++ pn_M (D, b0, cid) v)) := hD
  rw [List.nil_append, List.nil_append] at hP hD
  have e3 : pl_L1 (D, b0, cid, u, v) pn_M0 ++ pl_L2 (D, b0, cid, u, v) pn_N0 = pn_P (D, b0, cid) u ++ pn_M (D, b0, cid) v := by rw [e1, e2]
  rw [← e3] at hP hD
  have k2 := key H locs ls hP hD hS hl
  exact W.widen (k := ps_cells X) (n := ps_slots X) (by rw [hxc]; exact Nat.le_of_ble_eq_true rfl) (by rw [hxs]; exact Nat.le_of_ble_eq_true rfl) k2
theorem pn_obj {C : String} {s : State} {args : Array Value} (h : (Cond.arrayOver (.object C)).before args s = true) : va_AO C s ∧ ∃ cA : ClassId, ArrOfT s cA (.object C) ∧ va_RA s cA (.object C) := by
  obtain ⟨comp, c, k, h1, -, h3, h4, h5⟩ := Cond.arrayOver_spec h
  exact ⟨va_AO.of h, c, fun n z => ⟨fun k h => (by cases h), k, h3, comp, h4⟩, k, comp, h3, h4, h1, h5⟩
theorem pn_pri {ty : FieldType} (hnot : ∀ C, ty ≠ .object C) {s : State} {args : Array Value} (h : (Cond.arrayClass ty).before args s = true) : ∃ cA : ClassId, ArrOfT s cA ty ∧ va_RA s cA ty := by
  obtain ⟨c, k, comp, h1, h2, h3⟩ := Cond.arrayClass_spec h
  refine ⟨c, fun n z => ⟨fun k h => (by cases h), k, h2, comp, h3⟩, ?_⟩
  cases ty with
  | object C => exact absurd rfl (hnot C)
  | _ => exact h1
theorem whole_start_of (Rel : ps_M → ps_M → Prop) (sm : pl_sims Rel) (h0 : Rel pn_M0 pn_N0) {p : Program} {e : Env} {s : State} {m : MethodId} {below : List Frame} {meth : Method} {c : Code} (l : Launch) {b L : Nat} {xs : Nat → Int32} (hL : L ≤ 2048) (C0 : lw_At p s m meth c b L xs) : W p l e room_1 s m #[Value.ref b] below meth c s.heap [] 0 0 (lw_Z below #[Value.ref b] s) (entryFrame m ([Value.ref b] : List Value).toArray 4) := by
  obtain ⟨hx, hb, hr, hml, hown, hts, hX, hbl, hlocks, hgv⟩ := C0
  have hT : ∀ w ∈ ps_T, w.before #[Value.ref b] s = true := fun w h => hts w (List.mem_filter.mp h).1
  obtain ⟨c0, i0, k0⟩ := u_known (C := RX0) (T := TX0) (N := 3) (n := 3) hT hinX0 (hT _ lkn_X0)
  obtain ⟨c1, i1, k1⟩ := u_known (C := RX1) (T := TX1) (N := 6) (n := 6) hT hinX1 (hT _ lkn_X1)
  obtain ⟨c2, i2, k2⟩ := u_known (C := RX2) (T := TX2) (N := 5) (n := 5) hT hinX2 (hT _ lkn_X2)
  obtain ⟨c3, i3, k3⟩ := u_known (C := RX3) (T := TX3) (N := 2) (n := 2) hT hinX3 (hT _ lkn_X3)
  obtain ⟨c4, i4, k4⟩ := u_known (C := RX4) (T := TX4) (N := 13) (n := 13) hT hinX4 (hT _ lkn_X4)
  obtain ⟨c5, i5, k5⟩ := u_known (C := RX5) (T := TX5) (N := 7) (n := 7) hT hinX5 (hT _ lkn_X5)
  obtain ⟨c6, i6, k6⟩ := u_known (C := RX6) (T := TX6) (N := 10) (n := 10) hT hinX6 (hT _ lkn_X6)
  obtain ⟨dC, dI, hKc⟩ : ∃ (dC : Nat → ClassId) (dI : Nat → Nat → Nat), ∀ (k : Nat) (q : vw_C), vwCl[k]? = some q → u_Kn s q.1 q.2.1 q.2.2 (dC k) (dI k) := by
    refine ⟨fun k => match k with | 0 => c0 | 1 => c1 | 2 => c2 | 3 => c3 | 4 => c4 | 5 => c5 | _ => c6, fun k => match k with | 0 => i0 | 1 => i1 | 2 => i2 | 3 => i3 | 4 => i4 | 5 => i5 | _ => i6, ?_⟩
    intro k q hq
    match k, hq with
    | 0, hq => cases hq; exact k0
    | 1, hq => cases hq; exact k1
    | 2, hq => cases hq; exact k2
    | 3, hq => cases hq; exact k3
    | 4, hq => cases hq; exact k4
    | 5, hq => cases hq; exact k5
    | 6, hq => cases hq; exact k6
    | k + 7, hq => simp [vwCl] at hq
  obtain ⟨z0, a0, r0⟩ := pn_pri (ty := .int) (fun C h => by cases h) (hT _ lkj_ai)
  obtain ⟨z1, a1, r1⟩ := pn_pri (ty := .char) (fun C h => by cases h) (hT _ lkj_ac)
  obtain ⟨o2, z2, a2, r2⟩ := pn_obj (C := "PaperStations$Station") (hts _ (List.mem_of_getElem? (i := 58) (by decide +kernel)))
  obtain ⟨o3, z3, a3, r3⟩ := pn_obj (C := "PaperStations$Clerk") (hts _ (List.mem_of_getElem? (i := 121) (by decide +kernel)))
  obtain ⟨o4, z4, a4, r4⟩ := pn_obj (C := "PaperStations$Day") (hts _ (List.mem_of_getElem? (i := 185) (by decide +kernel)))
  obtain ⟨cid, hcid⟩ : ∃ cid : Nat → ClassId, ∀ (k : Nat) (q : ClassId × FieldType), (ps_tys cid)[k]? = some q → ArrOfT s q.1 q.2 ∧ va_RA s q.1 q.2 := by
    refine ⟨fun k => match k with | 0 => z0 | 1 => z1 | 2 => z2 | 3 => z3 | _ => z4, ?_⟩
    intro k q hq
    match k, hq with
    | 0, hq => cases hq; exact ⟨a0, r0⟩
    | 1, hq => cases hq; exact ⟨a1, r1⟩
    | 2, hq => cases hq; exact ⟨a2, r2⟩
    | 3, hq => cases hq; exact ⟨a3, r3⟩
    | 4, hq => cases hq; exact ⟨a4, r4⟩
    | k + 5, hq => simp [ps_tys] at hq
  have hK : va_K (dC, dI) vwCl (ps_tys cid) s := ⟨hKc, hcid⟩
  have key := law_from (Z := ((dC, dI), s.heap.size, cid)) (X := (p, l, e, room_1, s, m, #[Value.ref b], below, meth, c, 600000, 7302250, 4, fun _ => lw_Z below #[Value.ref b] s)) ⟨hx, hb, hml, rfl, hown, hT, hr, hlocks, hK, Nat.le_refl _, Nat.le_of_ble_eq_true rfl, Nat.le_of_ble_eq_true rfl, Nat.zero_le _, Nat.zero_le _⟩ (Nat.le_of_ble_eq_true rfl) (Nat.le_of_ble_eq_true rfl) rfl rfl ⟨o2, o3, o4⟩ (b := b) (L := L) (xs := xs) ⟨hX, hbl, Nat.not_le.mpr hbl⟩ hL Rel sm h0 ?_
  · rw [lg_entry_eq]
    exact key s.heap [] _ (fun k q h => (by cases h)) ⟨fun i j p q h => (by cases h), fun k q h => (by cases h)⟩ va_S.rf (lv_entry ([.ref b]) (n := 4) (Nat.le_of_ble_eq_true rfl))
  · intro Q hQ M pc lv hdg H locs ls hP hD hS hl
    refine va_forget (fun q hq => ?_) ?_
    · have := hS.2.2 q hq
      exact Nat.le_trans (Nat.le_of_eq hQ.symm) this
    · exact lw_ret hx hb hr hlocks hdg
